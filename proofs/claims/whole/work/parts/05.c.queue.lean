set_option maxHeartbeats 4000000 in
set_option maxRecDepth 100000 in
theorem c_Qu_clear {l : Launch} {dC : Nat → ClassId} {dI : Nat → Nat → Nat} {A : Nat → Prop} {a : Nat → Nat} {cB cI cL : ClassId} {h1 h2 s1 s2 : Nat} {op : Bool} {nx wt sf lf dn : Nat} {dg : Nat → Nat} {un : Nat} {ug : Nat → Nat} {qn : Nat} {qt qg : Nat → Nat} {tn : Nat} {tk tv : Nat → Int64} {ts : Nat → Nat} {ef eg ex : Nat} {eF : Nat → Nat} {pf pg px : Nat} {pF : Nat → Nat} : Met l yX2_clear (Cond.code yX2_clear cX2_clear 1 none :: TB) { frames := 0, cells := 0, slots := 0, locals := 0 } (xPre Nst (dC, dI) A (tyS cB cI cL) (wS a cB cI cL h1 h2 s1 s2 op nx wt sf lf dn dg un ug qn qt qg tn tk tv ts ef eg ex eF pf pg px pF) [.ref (a 5)]) (xQv (dC, dI) A (wS a cB cI cL h1 h2 s1 s2 op nx wt sf lf dn dg un ug 0 qt qg tn tk tv ts ef eg ex eF pf pg px pF)) 0 0 A := by
  refine x_ofWv (cc := cX2_clear) (maxL := 1) (by decide) rfl (Nat.le_of_ble_eq_true rfl) ?_
  intro p e s m args below meth c Q hx hb hml hts hown hK hN hP hD hS hret ls hl
  have hl : lv_has ls 1 [(0, .ref (a 5))] := hl
  have hown : s.vm.findClass RX2 = some m.cls := hown
  have f24 := hts _ (List.mem_cons_of_mem _ tw_151)
  have in_X2 := (fun q hq => List.mem_cons_of_mem _ (inX2 q hq) : ∀ q ∈ wsX20, q ∈ (Cond.code yX2_clear cX2_clear 1 none :: TB))
  refine lv_aload_n hx hb dX2_clear_0 rfl (lv_at hl 0 rfl) ?_
  refine lv_iconst (v := nI 0) hx hb dX2_clear_1 (by decide) ?_
  refine va_put (D := (dC, dI)) (ci := 2) (v := .int (nI 0)) (ty := .int) (C := RX2) (T := TX2) (N := 3) hx hb hts in_X2 tyX2 tyX2_ok nmX2 hown hK hP hD hS 5 rfl rfl 2 (by decide) f24 (fun _ h9 => h9) rfl (by decide +kernel) rfl rfl (Nat.le_of_ble_eq_true rfl) dX2_clear_2 (fun H locs hP hD hS => ?_)
  have hP : va_P (dC, dI) vwCl (wS a cB cI cL h1 h2 s1 s2 op nx wt sf lf dn dg un ug 0 qt qg tn tk tv ts ef eg ex eF pf pg px pF) H := hP
  have hD : va_D A (wS a cB cI cL h1 h2 s1 s2 op nx wt sf lf dn dg un ug 0 qt qg tn tk tv ts ef eg ex eF pf pg px pF) := hD
  exact hret dX2_clear_5 hP hD hS

set_option maxHeartbeats 4000000 in
set_option maxRecDepth 100000 in
theorem c_Qu_bytes {l : Launch} {dC : Nat → ClassId} {dI : Nat → Nat → Nat} {A : Nat → Prop} {a : Nat → Nat} {cB cI cL : ClassId} {h1 h2 s1 s2 : Nat} {op : Bool} {nx wt sf lf dn : Nat} {dg : Nat → Nat} {un : Nat} {ug : Nat → Nat} {qn : Nat} {qt qg : Nat → Nat} {tn : Nat} {tk tv : Nat → Int64} {ts : Nat → Nat} {ef eg ex : Nat} {eF : Nat → Nat} {pf pg px : Nat} {pF : Nat → Nat} : Met l yX2_bytes (Cond.code yX2_bytes cX2_bytes 1 (some .int) :: TB) { frames := 0, cells := 0, slots := 0, locals := 0 } (xPre Nst (dC, dI) A (tyS cB cI cL) (wS a cB cI cL h1 h2 s1 s2 op nx wt sf lf dn dg un ug qn qt qg tn tk tv ts ef eg ex eF pf pg px pF) [.ref (a 5)]) (xQi (dC, dI) A (nI (qn * 64)) (wS a cB cI cL h1 h2 s1 s2 op nx wt sf lf dn dg un ug qn qt qg tn tk tv ts ef eg ex eF pf pg px pF)) 0 0 A := by
  refine x_ofWi (cc := cX2_bytes) (maxL := 1) (by decide) rfl (Nat.le_of_ble_eq_true rfl) ?_
  intro p e s m args below meth c Q hx hb hml hts hown hK hN hP hD hS hret ls hl
  have hl : lv_has ls 1 [(0, .ref (a 5))] := hl
  have hown : s.vm.findClass RX2 = some m.cls := hown
  have f24 := hts _ (List.mem_cons_of_mem _ tw_151)
  have in_X2 := (fun q hq => List.mem_cons_of_mem _ (inX2 q hq) : ∀ q ∈ wsX20, q ∈ (Cond.code yX2_bytes cX2_bytes 1 (some .int) :: TB))
  refine lv_aload_n hx hb dX2_bytes_0 rfl (lv_at hl 0 rfl) ?_
  refine va_get (D := (dC, dI)) (ci := 2) (v := .int (nI qn)) (C := RX2) (T := TX2) (N := 3) hx hb hts in_X2 hown hK hP 5 rfl rfl 2 (by decide) f24 (fun _ h9 => h9) rfl dX2_bytes_1 ?_
  refine lv_bipush (v := nI 64) hx hb dX2_bytes_4 (by decide) ?_
  refine x_imul hx hb dX2_bytes_6 ?_
  exact hret dX2_bytes_7 (by rfl) hP hD hS

set_option maxHeartbeats 4000000 in
set_option maxRecDepth 100000 in
theorem c_Qu_target {l : Launch} {dC : Nat → ClassId} {dI : Nat → Nat → Nat} {A : Nat → Prop} {a : Nat → Nat} {cB cI cL : ClassId} {h1 h2 s1 s2 : Nat} {op : Bool} {nx wt sf lf dn : Nat} {dg : Nat → Nat} {un : Nat} {ug : Nat → Nat} {qn : Nat} {qt qg : Nat → Nat} {tn : Nat} {tk tv : Nat → Int64} {ts : Nat → Nat} {ef eg ex : Nat} {eF : Nat → Nat} {pf pg px : Nat} {pF : Nat → Nat} (hq : qn ≤ 64) (x : Int32) : Met l yX2_target (Cond.code yX2_target cX2_target 2 (some .int) :: TB) { frames := 0, cells := 0, slots := 0, locals := 0 } (xPre Nst (dC, dI) A (tyS cB cI cL) (wS a cB cI cL h1 h2 s1 s2 op nx wt sf lf dn dg un ug qn qt qg tn tk tv ts ef eg ex eF pf pg px pF) [.ref (a 5), .int (x)]) (xQi (dC, dI) A (qtr qn qt x) (wS a cB cI cL h1 h2 s1 s2 op nx wt sf lf dn dg un ug qn qt qg tn tk tv ts ef eg ex eF pf pg px pF)) 0 0 A := by
  refine x_ofWi (cc := cX2_target) (maxL := 2) (by decide) rfl (Nat.le_of_ble_eq_true rfl) ?_
  intro p e s m args below meth c Q hx hb hml hts hown hK hN hP hD hS hret ls hl
  have hl : lv_has ls 2 [(0, .ref (a 5)), (1, .int (x))] := hl
  have hown : s.vm.findClass RX2 = some m.cls := hown
  have f24 := hts _ (List.mem_cons_of_mem _ tw_151)
  have in_X2 := (fun q hq => List.mem_cons_of_mem _ (inX2 q hq) : ∀ q ∈ wsX20, q ∈ (Cond.code yX2_target cX2_target 2 (some .int) :: TB))
  have f20 := hts _ (List.mem_cons_of_mem _ tw_150)
  refine lv_iload_n hx hb dX2_target_0 rfl (lv_at hl 1 rfl) ?_
  refine lv_if_lt (tgt := 27) hx hb dX2_target_1 (by decide) (fun c1 => ?_) (fun c1 => ?_)
  · refine lv_bipush (v := (-2)) hx hb dX2_target_27 (by decide) ?_
    exact hret dX2_target_29 (by first | exact (qtr_t hj hq).symm | exact qtr_f (by first | exact Or.inl c1 | exact Or.inr (Or.inl c9) | exact Or.inr (Or.inr c15)) hq) hP hD hS
  · refine lv_iload_n hx hb dX2_target_4 rfl (lv_at hl 1 rfl) ?_
    refine lv_aload_n hx hb dX2_target_5 rfl (lv_at hl 0 rfl) ?_
    refine va_get (D := (dC, dI)) (ci := 2) (v := .int (nI qn)) (C := RX2) (T := TX2) (N := 3) hx hb hts in_X2 hown hK hP 5 rfl rfl 2 (by decide) f24 (fun _ h9 => h9) rfl dX2_target_6 ?_
    refine lv_icmp_ge (tgt := 27) hx hb dX2_target_9 (by decide) (fun c9 => ?_) (fun c9 => ?_)
    · refine lv_bipush (v := (-2)) hx hb dX2_target_27 (by decide) ?_
      exact hret dX2_target_29 (by first | exact (qtr_t hj hq).symm | exact qtr_f (by first | exact Or.inl c1 | exact Or.inr (Or.inl c9) | exact Or.inr (Or.inr c15)) hq) hP hD hS
    · refine lv_iload_n hx hb dX2_target_12 rfl (lv_at hl 1 rfl) ?_
      refine lv_bipush (v := nI 64) hx hb dX2_target_13 (by decide) ?_
      refine lv_icmp_ge (tgt := 27) hx hb dX2_target_15 (by decide) (fun c15 => ?_) (fun c15 => ?_)
      · refine lv_bipush (v := (-2)) hx hb dX2_target_27 (by decide) ?_
        exact hret dX2_target_29 (by first | exact (qtr_t hj hq).symm | exact qtr_f (by first | exact Or.inl c1 | exact Or.inr (Or.inl c9) | exact Or.inr (Or.inr c15)) hq) hP hD hS
      · obtain ⟨j, hj, rfl⟩ := qtr_in c1 c9 hq
        refine lv_aload_n hx hb dX2_target_18 rfl (lv_at hl 0 rfl) ?_
        refine va_get (D := (dC, dI)) (ci := 2) (v := .ref (a 8)) (C := RX2) (T := TX2) (N := 3) hx hb hts in_X2 hown hK hP 5 rfl rfl 1 (by decide) f20 (fun _ h9 => h9) rfl dX2_target_19 ?_
        refine lv_iload_n hx hb dX2_target_22 rfl (lv_at hl 1 rfl) ?_
        refine x_iald hx hb hK hP 8 1 rfl rfl (by omega) (by decide) dX2_target_23 ?_
        refine lv_goto (tgt := 29) hx hb dX2_target_24 (by decide) ?_
        exact hret dX2_target_29 (by first | exact (qtr_t hj hq).symm | exact qtr_f (by first | exact Or.inl c1 | exact Or.inr (Or.inl c9) | exact Or.inr (Or.inr c15)) hq) hP hD hS

set_option maxHeartbeats 4000000 in
set_option maxRecDepth 100000 in
theorem c_Qu_targetN {l : Launch} {dC : Nat → ClassId} {dI : Nat → Nat → Nat} {A : Nat → Prop} {a : Nat → Nat} {cB cI cL : ClassId} {h1 h2 s1 s2 : Nat} {op : Bool} {nx wt sf lf dn : Nat} {dg : Nat → Nat} {un : Nat} {ug : Nat → Nat} {qn : Nat} {qt qg : Nat → Nat} {tn : Nat} {tk tv : Nat → Int64} {ts : Nat → Nat} {ef eg ex : Nat} {eF : Nat → Nat} {pf pg px : Nat} {pF : Nat → Nat} (hq : qn ≤ 64) (i : Nat) (hi : i < qn) : Met l yX2_target (Cond.code yX2_target cX2_target 2 (some .int) :: TB) { frames := 0, cells := 0, slots := 0, locals := 0 } (xPre Nst (dC, dI) A (tyS cB cI cL) (wS a cB cI cL h1 h2 s1 s2 op nx wt sf lf dn dg un ug qn qt qg tn tk tv ts ef eg ex eF pf pg px pF) [.ref (a 5), .int (nI i)]) (xQi (dC, dI) A (nI (qt i)) (wS a cB cI cL h1 h2 s1 s2 op nx wt sf lf dn dg un ug qn qt qg tn tk tv ts ef eg ex eF pf pg px pF)) 0 0 A := by
  have h := c_Qu_target (l := l) (dC := dC) (dI := dI) (A := A) (a := a) (cB := cB) (cI := cI) (cL := cL) (h1 := h1) (h2 := h2) (s1 := s1) (s2 := s2) (op := op) (nx := nx) (wt := wt) (sf := sf) (lf := lf) (dn := dn) (dg := dg) (un := un) (ug := ug) (qn := qn) (qt := qt) (qg := qg) (tn := tn) (tk := tk) (tv := tv) (ts := ts) (ef := ef) (eg := eg) (ex := ex) (eF := eF) (pf := pf) (pg := pg) (px := px) (pF := pF) hq (nI i)
  rw [qtr_t hi hq] at h
  exact h

set_option maxHeartbeats 4000000 in
set_option maxRecDepth 100000 in
theorem c_Qu_holds {l : Launch} {dC : Nat → ClassId} {dI : Nat → Nat → Nat} {A : Nat → Prop} {a : Nat → Nat} {cB cI cL : ClassId} {h1 h2 s1 s2 : Nat} {op : Bool} {nx wt sf lf dn : Nat} {dg : Nat → Nat} {un : Nat} {ug : Nat → Nat} {qn : Nat} {qt qg : Nat → Nat} {tn : Nat} {tk tv : Nat → Int64} {ts : Nat → Nat} {ef eg ex : Nat} {eF : Nat → Nat} {pf pg px : Nat} {pF : Nat → Nat} (hq : qn ≤ 64) (hqt : ∀ j, qt j < 64) (x : Nat) (hx1 : x < 2 ^ 31) : Met l yX2_holds (Cond.code yX2_holds cX2_holds 3 (some .boolean) :: TB) { frames := 1, cells := 0, slots := 0, locals := 21 } (xPre Nst (dC, dI) A (tyS cB cI cL) (wS a cB cI cL h1 h2 s1 s2 op nx wt sf lf dn dg un ug qn qt qg tn tk tv ts ef eg ex eF pf pg px pF) [.ref (a 5), .int (nI x)]) (xQi (dC, dI) A (bI (qhol qt x qn 0)) (wS a cB cI cL h1 h2 s1 s2 op nx wt sf lf dn dg un ug qn qt qg tn tk tv ts ef eg ex eF pf pg px pF)) 0 0 A := by
  refine x_ofWz (cc := cX2_holds) (maxL := 3) (by decide) rfl (Nat.le_of_ble_eq_true rfl) (x_narZ _) ?_
  intro p e s m args below meth c Q hx hb hml hts hown hK hN hP hD hS hret ls hl
  have hl : lv_has ls 3 [(0, .ref (a 5)), (1, .int (nI x))] := hl
  have hown : s.vm.findClass RX2 = some m.cls := hown
  have f24 := hts _ (List.mem_cons_of_mem _ tw_151)
  have in_X2 := (fun q hq => List.mem_cons_of_mem _ (inX2 q hq) : ∀ q ∈ wsX20, q ∈ (Cond.code yX2_holds cX2_holds 3 (some .boolean) :: TB))
  refine lv_iconst (v := nI 0) hx hb dX2_holds_0 (by decide) ?_
  refine lv_istore_n (lv' := [(2, .int (nI 0)), (0, .ref (a 5)), (1, .int (nI x))]) hx hb dX2_holds_1 rfl hl (by decide) rfl (fun ls hl => ?_)
  have L2 : ∀ (fu2 : Nat) (j : Nat), (qn - j < fu2) → (j ≤ qn) → (qhol qt x (qn - j) j = qhol qt x qn 0) → ∀ (H : Heap) (locs : List Loc), va_P (dC, dI) vwCl (wS a cB cI cL h1 h2 s1 s2 op nx wt sf lf dn dg un ug qn qt qg tn tk tv ts ef eg ex eF pf pg px pF) H → va_D A (wS a cB cI cL h1 h2 s1 s2 op nx wt sf lf dn dg un ug qn qt qg tn tk tv ts ef eg ex eF pf pg px pF) → va_S A s.heap H locs → ∀ (ls : Array Slot), lv_has ls 3 [(0, .ref (a 5)), (1, .int (nI x)), (2, .int (nI j))] → W p l e { frames := 1, cells := 0, slots := 0, locals := 21 } s m args below meth c H locs 0 0 Q (F0 m 2 ls []) := by
    intro fu2
    induction fu2 with
    | zero => intro j hm; exact absurd hm (Nat.not_lt_zero _)
    | succ fu2 ih2 =>
      intro j hm i2_0 i2_1 H locs hP hD hS ls hl
      have q1 := hqt j
      refine lv_iload_n hx hb dX2_holds_2 rfl (lv_at hl 2 rfl) ?_
      refine lv_aload_n hx hb dX2_holds_3 rfl (lv_at hl 0 rfl) ?_
      refine va_get (D := (dC, dI)) (ci := 2) (v := .int (nI qn)) (C := RX2) (T := TX2) (N := 3) hx hb hts in_X2 hown hK hP 5 rfl rfl 2 (by decide) f24 (fun _ h9 => h9) rfl dX2_holds_4 ?_
      refine x_icmp_ge (tgt := 27) hx hb dX2_holds_7 (by decide) (by omega) (by omega) (fun c7 => ?_) (fun c7 => ?_)
      · refine lv_iconst (v := nI 0) hx hb dX2_holds_27 (by decide) ?_
        exact hret dX2_holds_28 (by have h := i2_1; rw [show qn - j = 0 by omega, qhol] at h; rw [← h]; rfl) hP hD hS
      · refine lv_aload_n hx hb dX2_holds_10 rfl (lv_at hl 0 rfl) ?_
        refine lv_iload_n hx hb dX2_holds_11 rfl (lv_at hl 2 rfl) ?_
        refine x_calli (va_runV (As := [.int (nI j)]) (rest := []) ⟨hx, hb, hml, hown, hts⟩ (c_Qu_targetN (by omega) j (by omega)) (cwV 1 hts (tbV tw_334 tw_336 tw_23 tw_88 tw_337) rfl rfl rfl (by decide +kernel) ⟨Nat.le_of_ble_eq_true rfl, Nat.le_of_ble_eq_true rfl⟩) ⟨x_blind, va_recv hK hP (ci := 2) (q0 := 5) rfl rfl, x_pre hK hP hD hN⟩ rfl rfl hl.1 rfl (lv_room (Nat.le_of_ble_eq_true rfl)) dX2_holds_12 ⟨Nat.zero_le _, Nat.zero_le _⟩) hS (fun H locs hP hD hS => ?_)
        have hP : va_P (dC, dI) vwCl (wS a cB cI cL h1 h2 s1 s2 op nx wt sf lf dn dg un ug qn qt qg tn tk tv ts ef eg ex eF pf pg px pF) H := hP
        have hD : va_D A (wS a cB cI cL h1 h2 s1 s2 op nx wt sf lf dn dg un ug qn qt qg tn tk tv ts ef eg ex eF pf pg px pF) := hD
        refine lv_iload_n hx hb dX2_holds_15 rfl (lv_at hl 1 rfl) ?_
        refine x_icmp_ne (tgt := 21) hx hb dX2_holds_16 (by decide) (by omega) (by omega) (fun c16 => ?_) (fun c16 => ?_)
        · refine lv_iinc (v := nI (j + 1)) (lv' := [(2, .int (nI (j + 1))), (0, .ref (a 5)), (1, .int (nI x))]) hx hb dX2_holds_21 hl (k := 2) rfl (x_inc _) (by decide) rfl (fun ls hl => ?_)
          refine lv_goto (tgt := 2) hx hb dX2_holds_24 (by decide) ?_
          exact ih2 (j + 1) (by omega) (by omega) (by have h := i2_1; rw [show qn - j = (qn - (j + 1)) + 1 by omega, qhol, if_neg c16] at h; exact h) _ _ hP hD hS ls (lv_sub hl [1, 2, 0] rfl)
        · refine lv_iconst (v := nI 1) hx hb dX2_holds_19 (by decide) ?_
          exact hret dX2_holds_20 (by have h := i2_1; rw [show qn - j = (qn - (j + 1)) + 1 by omega, qhol, if_pos c16] at h; rw [← h]; rfl) hP hD hS
  exact L2 (qn - 0 + 1) 0 (by omega) (by omega) (by rfl) _ _ hP hD hS ls (lv_sub hl [1, 2, 0] rfl)

set_option maxHeartbeats 4000000 in
set_option maxRecDepth 100000 in
theorem c_Qu_append {l : Launch} {dC : Nat → ClassId} {dI : Nat → Nat → Nat} {A : Nat → Prop} {a : Nat → Nat} {cB cI cL : ClassId} {h1 h2 s1 s2 : Nat} {op : Bool} {nx wt sf lf dn : Nat} {dg : Nat → Nat} {un : Nat} {ug : Nat → Nat} {qn : Nat} {qt qg : Nat → Nat} {tn : Nat} {tk tv : Nat → Int64} {ts : Nat → Nat} {ef eg ex : Nat} {eF : Nat → Nat} {pf pg px : Nat} {pF : Nat → Nat} (hq : qn < 64) (hqg : ∀ j, qg j < 256) (x so pa : Nat) (hso : so < 2 ^ 31) (hpa : pa < 2 ^ 31) : Met l yX2_append (Cond.code yX2_append cX2_append 5 (some .int) :: TB) { frames := 3, cells := 0, slots := 0, locals := 67 } (xPre Nst (dC, dI) A (tyS cB cI cL) (wS a cB cI cL h1 h2 s1 s2 op nx wt sf lf dn dg un ug qn qt qg tn tk tv ts ef eg ex eF pf pg px pF) [.ref (a 5), .int (nI x), .int (nI so), .int (nI pa)]) (xQi (dC, dI) A (nI qn) (wS a cB cI cL h1 h2 s1 s2 op nx wt sf lf dn dg un ug (qn + 1) (va_up qt qn x) (qap qn qg so pa) tn tk tv ts ef eg ex eF pf pg px pF)) 0 0 A := by
  refine x_ofWi (cc := cX2_append) (maxL := 5) (by decide) rfl (Nat.le_of_ble_eq_true rfl) ?_
  intro p e s m args below meth c Q hx hb hml hts hown hK hN hP hD hS hret ls hl
  have hl : lv_has ls 5 [(0, .ref (a 5)), (1, .int (nI x)), (2, .int (nI so)), (3, .int (nI pa))] := hl
  have hown : s.vm.findClass RX2 = some m.cls := hown
  have f24 := hts _ (List.mem_cons_of_mem _ tw_151)
  have in_X2 := (fun q hq => List.mem_cons_of_mem _ (inX2 q hq) : ∀ q ∈ wsX20, q ∈ (Cond.code yX2_append cX2_append 5 (some .int) :: TB))
  have f20 := hts _ (List.mem_cons_of_mem _ tw_150)
  have f14 := hts _ (List.mem_cons_of_mem _ tw_148)
  have n32 := hN (.methodLinkNest RX2 32 yX0_wipe "SegmentLog") (by decide +kernel)
  have ini_X0 := hts _ (List.mem_cons_of_mem _ tw_85)
  have im_yX0_wipe := hts _ (List.mem_cons_of_mem _ tw_251)
  have se_yX0_wipe := hts _ (List.mem_cons_of_mem _ tw_4)
  have n35 := hN (.methodLinkNest RX2 35 yX0_put "SegmentLog") (by decide +kernel)
  have im_yX0_put := hts _ (List.mem_cons_of_mem _ tw_255)
  have se_yX0_put := hts _ (List.mem_cons_of_mem _ tw_5)
  refine lv_aload_n hx hb dX2_append_0 rfl (lv_at hl 0 rfl) ?_
  refine va_get (D := (dC, dI)) (ci := 2) (v := .int (nI qn)) (C := RX2) (T := TX2) (N := 3) hx hb hts in_X2 hown hK hP 5 rfl rfl 2 (by decide) f24 (fun _ h9 => h9) rfl dX2_append_1 ?_
  refine lv_bipush (v := nI 64) hx hb dX2_append_4 (by decide) ?_
  refine x_icmp_lt (tgt := 12) hx hb dX2_append_6 (by decide) (by omega) (by omega) (fun c6 => ?_) (fun c6 => ?_)
  · refine lv_aload_n hx hb dX2_append_12 rfl (lv_at hl 0 rfl) ?_
    refine va_get (D := (dC, dI)) (ci := 2) (v := .int (nI qn)) (C := RX2) (T := TX2) (N := 3) hx hb hts in_X2 hown hK hP 5 rfl rfl 2 (by decide) f24 (fun _ h9 => h9) rfl dX2_append_13 ?_
    refine lv_istore (lv' := [(4, .int (nI qn)), (0, .ref (a 5)), (1, .int (nI x)), (2, .int (nI so)), (3, .int (nI pa))]) hx hb dX2_append_16 hl (by decide) rfl (fun ls hl => ?_)
    refine lv_aload_n hx hb dX2_append_18 rfl (lv_at hl 1 rfl) ?_
    refine lv_dup hx hb dX2_append_19 rfl ?_
    refine va_get (D := (dC, dI)) (ci := 2) (v := .int (nI qn)) (C := RX2) (T := TX2) (N := 3) hx hb hts in_X2 hown hK hP 5 rfl rfl 2 (by decide) f24 (fun _ h9 => h9) rfl dX2_append_20 ?_
    refine lv_iconst (v := nI 1) hx hb dX2_append_23 (by decide) ?_
    refine x_iadd hx hb dX2_append_24 ?_
    refine va_put (D := (dC, dI)) (ci := 2) (v := .int (nI (qn + 1))) (ty := .int) (C := RX2) (T := TX2) (N := 3) hx hb hts in_X2 tyX2 tyX2_ok nmX2 hown hK hP hD hS 5 rfl rfl 2 (by decide) f24 (fun _ h9 => h9) rfl (by decide +kernel) rfl rfl (Nat.le_of_ble_eq_true rfl) dX2_append_25 (fun H locs hP hD hS => ?_)
    have hP : va_P (dC, dI) vwCl (wS a cB cI cL h1 h2 s1 s2 op nx wt sf lf dn dg un ug (qn + 1) qt qg tn tk tv ts ef eg ex eF pf pg px pF) H := hP
    have hD : va_D A (wS a cB cI cL h1 h2 s1 s2 op nx wt sf lf dn dg un ug (qn + 1) qt qg tn tk tv ts ef eg ex eF pf pg px pF) := hD
    refine lv_aload_n hx hb dX2_append_28 rfl (lv_at hl 1 rfl) ?_
    refine va_get (D := (dC, dI)) (ci := 2) (v := .ref (a 8)) (C := RX2) (T := TX2) (N := 3) hx hb hts in_X2 hown hK hP 5 rfl rfl 1 (by decide) f20 (fun _ h9 => h9) rfl dX2_append_29 ?_
    refine lv_iload hx hb dX2_append_32 (lv_at hl 0 rfl) ?_
    refine lv_iload_n hx hb dX2_append_34 rfl (lv_at hl 2 rfl) ?_
    refine x_iast hx hb hK hP hD hS 8 1 rfl rfl (by omega) (by decide) dX2_append_35 (fun H locs hP hD hS => ?_)
    have hP : va_P (dC, dI) vwCl (wS a cB cI cL h1 h2 s1 s2 op nx wt sf lf dn dg un ug (qn + 1) (va_up qt qn x) qg tn tk tv ts ef eg ex eF pf pg px pF) H := hP
    have hD : va_D A (wS a cB cI cL h1 h2 s1 s2 op nx wt sf lf dn dg un ug (qn + 1) (va_up qt qn x) qg tn tk tv ts ef eg ex eF pf pg px pF) := hD
    refine lv_aload_n hx hb dX2_append_36 rfl (lv_at hl 1 rfl) ?_
    refine va_get (D := (dC, dI)) (ci := 2) (v := .ref (a 6)) (C := RX2) (T := TX2) (N := 3) hx hb hts in_X2 hown hK hP 5 rfl rfl 0 (by decide) f14 (fun _ h9 => h9) rfl dX2_append_37 ?_
    refine lv_iload hx hb dX2_append_40 (lv_at hl 0 rfl) ?_
    refine x_callv (va_runVN (As := [.int (nI qn)]) (rest := []) ⟨hx, hb, hml, hown, hts⟩ (c_Bl_wipe (show okB (fun qg' => wS a cB cI cL h1 h2 s1 s2 op nx wt sf lf dn dg un ug (qn + 1) (va_up qt qn x) qg' tn tk tv ts ef eg ex eF pf pg px pF) 6 7 (a 6) (a 7) cB 64 from ⟨fun _ => rfl, fun _ => rfl, fun _ _ => rfl⟩) (tyS_B cB cI cL) (by omega) qg hqg qn (by omega)) ⟨(va_cnB 1 hts (tbG tw_252) rfl rfl rfl n32 ini_X0 (by decide +kernel) ⟨Nat.le_of_ble_eq_true rfl, Nat.le_of_ble_eq_true rfl⟩), im_yX0_wipe, se_yX0_wipe⟩ ⟨x_blind, va_recv hK hP (ci := 0) (q0 := 6) rfl rfl, x_pre hK hP hD hN⟩ rfl rfl hl.1 rfl (lv_room (Nat.le_of_ble_eq_true rfl)) dX2_append_42 ⟨Nat.zero_le _, Nat.zero_le _⟩) hS (fun H locs hP hD hS => ?_)
    have hP : va_P (dC, dI) vwCl (wS a cB cI cL h1 h2 s1 s2 op nx wt sf lf dn dg un ug (qn + 1) (va_up qt qn x) (wipG 64 qn qg) tn tk tv ts ef eg ex eF pf pg px pF) H := hP
    have hD : va_D A (wS a cB cI cL h1 h2 s1 s2 op nx wt sf lf dn dg un ug (qn + 1) (va_up qt qn x) (wipG 64 qn qg) tn tk tv ts ef eg ex eF pf pg px pF) := hD
    refine lv_aload_n hx hb dX2_append_45 rfl (lv_at hl 1 rfl) ?_
    refine va_get (D := (dC, dI)) (ci := 2) (v := .ref (a 6)) (C := RX2) (T := TX2) (N := 3) hx hb hts in_X2 hown hK hP 5 rfl rfl 0 (by decide) f14 (fun _ h9 => h9) rfl dX2_append_46 ?_
    refine lv_iload hx hb dX2_append_49 (lv_at hl 0 rfl) ?_
    refine lv_iconst (v := nI 0) hx hb dX2_append_51 (by decide) ?_
    refine lv_iload_n hx hb dX2_append_52 rfl (lv_at hl 3 rfl) ?_
    refine x_callv (va_runVN (As := [.int (nI qn), .int (nI 0), .int (nI so)]) (rest := []) ⟨hx, hb, hml, hown, hts⟩ (c_Bl_put (show okB (fun qg' => wS a cB cI cL h1 h2 s1 s2 op nx wt sf lf dn dg un ug (qn + 1) (va_up qt qn x) qg' tn tk tv ts ef eg ex eF pf pg px pF) 6 7 (a 6) (a 7) cB 64 from ⟨fun _ => rfl, fun _ => rfl, fun _ _ => rfl⟩) (tyS_B cB cI cL) (by omega) (wipG 64 qn qg) qn 0 so (by omega) (by omega) (by omega)) ⟨(va_cnB 3 hts (tbG tw_256) rfl rfl rfl n35 ini_X0 (by decide +kernel) ⟨Nat.le_of_ble_eq_true rfl, Nat.le_of_ble_eq_true rfl⟩), im_yX0_put, se_yX0_put⟩ ⟨x_blind, va_recv hK hP (ci := 0) (q0 := 6) rfl rfl, x_pre hK hP hD hN⟩ rfl rfl hl.1 rfl (lv_room (Nat.le_of_ble_eq_true rfl)) dX2_append_53 ⟨Nat.zero_le _, Nat.zero_le _⟩) hS (fun H locs hP hD hS => ?_)
    have hP : va_P (dC, dI) vwCl (wS a cB cI cL h1 h2 s1 s2 op nx wt sf lf dn dg un ug (qn + 1) (va_up qt qn x) (bput 64 (wipG 64 qn qg) qn 0 so) tn tk tv ts ef eg ex eF pf pg px pF) H := hP
    have hD : va_D A (wS a cB cI cL h1 h2 s1 s2 op nx wt sf lf dn dg un ug (qn + 1) (va_up qt qn x) (bput 64 (wipG 64 qn qg) qn 0 so) tn tk tv ts ef eg ex eF pf pg px pF) := hD
    refine lv_aload_n hx hb dX2_append_56 rfl (lv_at hl 1 rfl) ?_
    refine va_get (D := (dC, dI)) (ci := 2) (v := .ref (a 6)) (C := RX2) (T := TX2) (N := 3) hx hb hts in_X2 hown hK hP 5 rfl rfl 0 (by decide) f14 (fun _ h9 => h9) rfl dX2_append_57 ?_
    refine lv_iload hx hb dX2_append_60 (lv_at hl 0 rfl) ?_
    refine lv_iconst (v := nI 1) hx hb dX2_append_62 (by decide) ?_
    refine lv_iload_n hx hb dX2_append_63 rfl (lv_at hl 4 rfl) ?_
    refine x_callv (va_runVN (As := [.int (nI qn), .int (nI 1), .int (nI pa)]) (rest := []) ⟨hx, hb, hml, hown, hts⟩ (c_Bl_put (show okB (fun qg' => wS a cB cI cL h1 h2 s1 s2 op nx wt sf lf dn dg un ug (qn + 1) (va_up qt qn x) qg' tn tk tv ts ef eg ex eF pf pg px pF) 6 7 (a 6) (a 7) cB 64 from ⟨fun _ => rfl, fun _ => rfl, fun _ _ => rfl⟩) (tyS_B cB cI cL) (by omega) (bput 64 (wipG 64 qn qg) qn 0 so) qn 1 pa (by omega) (by omega) (by omega)) ⟨(va_cnB 3 hts (tbG tw_256) rfl rfl rfl n35 ini_X0 (by decide +kernel) ⟨Nat.le_of_ble_eq_true rfl, Nat.le_of_ble_eq_true rfl⟩), im_yX0_put, se_yX0_put⟩ ⟨x_blind, va_recv hK hP (ci := 0) (q0 := 6) rfl rfl, x_pre hK hP hD hN⟩ rfl rfl hl.1 rfl (lv_room (Nat.le_of_ble_eq_true rfl)) dX2_append_64 ⟨Nat.zero_le _, Nat.zero_le _⟩) hS (fun H locs hP hD hS => ?_)
    have hP : va_P (dC, dI) vwCl (wS a cB cI cL h1 h2 s1 s2 op nx wt sf lf dn dg un ug (qn + 1) (va_up qt qn x) (bput 64 (bput 64 (wipG 64 qn qg) qn 0 so) qn 1 pa) tn tk tv ts ef eg ex eF pf pg px pF) H := hP
    have hD : va_D A (wS a cB cI cL h1 h2 s1 s2 op nx wt sf lf dn dg un ug (qn + 1) (va_up qt qn x) (bput 64 (bput 64 (wipG 64 qn qg) qn 0 so) qn 1 pa) tn tk tv ts ef eg ex eF pf pg px pF) := hD
    refine lv_iload hx hb dX2_append_67 (lv_at hl 0 rfl) ?_
    have e1 : (bput 64 (bput 64 (wipG 64 qn qg) qn 0 so) qn 1 pa) = (qap qn qg so pa) := by rfl
    have h9 : wS a cB cI cL h1 h2 s1 s2 op nx wt sf lf dn dg un ug (qn + 1) (va_up qt qn x) (bput 64 (bput 64 (wipG 64 qn qg) qn 0 so) qn 1 pa) tn tk tv ts ef eg ex eF pf pg px pF = wS a cB cI cL h1 h2 s1 s2 op nx wt sf lf dn dg un ug (qn + 1) (va_up qt qn x) (qap qn qg so pa) tn tk tv ts ef eg ex eF pf pg px pF := by rw [e1]
    have hP := x_wP h9 hP
    have hD := x_wD h9 hD
    exact hret dX2_append_69 (by rfl) hP hD hS
  · exact absurd c6 (by omega)

set_option maxHeartbeats 4000000 in
set_option maxRecDepth 100000 in
theorem c_Qu_seal {l : Launch} {dC : Nat → ClassId} {dI : Nat → Nat → Nat} {A : Nat → Prop} {a : Nat → Nat} {cB cI cL : ClassId} {h1 h2 s1 s2 : Nat} {op : Bool} {nx wt sf lf dn : Nat} {dg : Nat → Nat} {un : Nat} {ug : Nat → Nat} {qn : Nat} {qt qg : Nat → Nat} {tn : Nat} {tk tv : Nat → Int64} {ts : Nat → Nat} {ef eg ex : Nat} {eF : Nat → Nat} {pf pg px : Nat} {pF : Nat → Nat} (hq : qn ≤ 64) (hqt : ∀ j, qt j < 64) (hqg : ∀ j, qg j < 256) (i : Nat) (hi : i < qn) : Met l yX2_seal (Cond.code yX2_seal cX2_seal 2 none :: TB) { frames := 3, cells := 0, slots := 0, locals := 73 } (xPre Nst (dC, dI) A (tyS cB cI cL) (wS a cB cI cL h1 h2 s1 s2 op nx wt sf lf dn dg un ug qn qt qg tn tk tv ts ef eg ex eF pf pg px pF) [.ref (a 5), .int (nI i)]) (xQv (dC, dI) A (wS a cB cI cL h1 h2 s1 s2 op nx wt sf lf dn dg un ug qn qt (qsl i qt qg) tn tk tv ts ef eg ex eF pf pg px pF)) 0 0 A := by
  refine x_ofWv (cc := cX2_seal) (maxL := 2) (by decide) rfl (Nat.le_of_ble_eq_true rfl) ?_
  intro p e s m args below meth c Q hx hb hml hts hown hK hN hP hD hS hret ls hl
  have hl : lv_has ls 2 [(0, .ref (a 5)), (1, .int (nI i))] := hl
  have hown : s.vm.findClass RX2 = some m.cls := hown
  have q1 := hqt i
  have f14 := hts _ (List.mem_cons_of_mem _ tw_148)
  have in_X2 := (fun q hq => List.mem_cons_of_mem _ (inX2 q hq) : ∀ q ∈ wsX20, q ∈ (Cond.code yX2_seal cX2_seal 2 none :: TB))
  have n39 := hN (.methodLinkNest RX2 39 yX0_sum "SegmentLog") (by decide +kernel)
  have ini_X0 := hts _ (List.mem_cons_of_mem _ tw_85)
  have im_yX0_sum := hts _ (List.mem_cons_of_mem _ tw_340)
  have se_yX0_sum := hts _ (List.mem_cons_of_mem _ tw_24)
  have n43 := hN (.methodLinkNest RX2 43 yX0_putNumber "SegmentLog") (by decide +kernel)
  have im_yX0_putNumber := hts _ (List.mem_cons_of_mem _ tw_307)
  have se_yX0_putNumber := hts _ (List.mem_cons_of_mem _ tw_16)
  refine lv_aload_n hx hb dX2_seal_0 rfl (lv_at hl 0 rfl) ?_
  refine va_get (D := (dC, dI)) (ci := 2) (v := .ref (a 6)) (C := RX2) (T := TX2) (N := 3) hx hb hts in_X2 hown hK hP 5 rfl rfl 0 (by decide) f14 (fun _ h9 => h9) rfl dX2_seal_1 ?_
  refine lv_iload_n hx hb dX2_seal_4 rfl (lv_at hl 1 rfl) ?_
  refine lv_bipush (v := nI 56) hx hb dX2_seal_5 (by decide) ?_
  refine lv_bipush (v := nI 8) hx hb dX2_seal_7 (by decide) ?_
  refine lv_aload_n hx hb dX2_seal_9 rfl (lv_at hl 0 rfl) ?_
  refine va_get (D := (dC, dI)) (ci := 2) (v := .ref (a 6)) (C := RX2) (T := TX2) (N := 3) hx hb hts in_X2 hown hK hP 5 rfl rfl 0 (by decide) f14 (fun _ h9 => h9) rfl dX2_seal_10 ?_
  refine lv_iload_n hx hb dX2_seal_13 rfl (lv_at hl 1 rfl) ?_
  refine lv_aload_n hx hb dX2_seal_14 rfl (lv_at hl 0 rfl) ?_
  refine lv_iload_n hx hb dX2_seal_15 rfl (lv_at hl 1 rfl) ?_
  refine x_calli (va_runV (As := [.int (nI i)]) (rest := [.int (nI i), .ref (a 6), .int (nI 8), .int (nI 56), .int (nI i), .ref (a 6)]) ⟨hx, hb, hml, hown, hts⟩ (c_Qu_targetN (by omega) i (by omega)) (cwV 1 hts (tbV tw_334 tw_336 tw_23 tw_88 tw_337) rfl rfl rfl (by decide +kernel) ⟨Nat.le_of_ble_eq_true rfl, Nat.le_of_ble_eq_true rfl⟩) ⟨x_blind, va_recv hK hP (ci := 2) (q0 := 5) rfl rfl, x_pre hK hP hD hN⟩ rfl rfl hl.1 rfl (lv_room (Nat.le_of_ble_eq_true rfl)) dX2_seal_16 ⟨Nat.zero_le _, Nat.zero_le _⟩) hS (fun H locs hP hD hS => ?_)
  have hP : va_P (dC, dI) vwCl (wS a cB cI cL h1 h2 s1 s2 op nx wt sf lf dn dg un ug qn qt qg tn tk tv ts ef eg ex eF pf pg px pF) H := hP
  have hD : va_D A (wS a cB cI cL h1 h2 s1 s2 op nx wt sf lf dn dg un ug qn qt qg tn tk tv ts ef eg ex eF pf pg px pF) := hD
  refine x_calll (va_runVN (As := [.int (nI i), .int (nI (qt i))]) (rest := [.int (nI 8), .int (nI 56), .int (nI i), .ref (a 6)]) ⟨hx, hb, hml, hown, hts⟩ (c_Bl_sum (show okB (fun qg' => wS a cB cI cL h1 h2 s1 s2 op nx wt sf lf dn dg un ug qn qt qg' tn tk tv ts ef eg ex eF pf pg px pF) 6 7 (a 6) (a 7) cB 64 from ⟨fun _ => rfl, fun _ => rfl, fun _ _ => rfl⟩) (tyS_B cB cI cL) (by omega) qg hqg i (qt i) (by omega) (by omega)) ⟨(va_cnB 2 hts (tbG tw_341) rfl rfl rfl n39 ini_X0 (by decide +kernel) ⟨Nat.le_of_ble_eq_true rfl, Nat.le_of_ble_eq_true rfl⟩), im_yX0_sum, se_yX0_sum⟩ ⟨x_blind, va_recv hK hP (ci := 0) (q0 := 6) rfl rfl, x_pre hK hP hD hN⟩ rfl rfl hl.1 rfl (lv_room (Nat.le_of_ble_eq_true rfl)) dX2_seal_19 ⟨Nat.zero_le _, Nat.zero_le _⟩) hS (fun H locs hP hD hS => ?_)
  have hP : va_P (dC, dI) vwCl (wS a cB cI cL h1 h2 s1 s2 op nx wt sf lf dn dg un ug qn qt qg tn tk tv ts ef eg ex eF pf pg px pF) H := hP
  have hD : va_D A (wS a cB cI cL h1 h2 s1 s2 op nx wt sf lf dn dg un ug qn qt qg tn tk tv ts ef eg ex eF pf pg px pF) := hD
  refine x_callv (va_runVN (As := [.int (nI i), .int (nI 56), .int (nI 8), .long (smG 64 qg i (qt i))]) (rest := []) ⟨hx, hb, hml, hown, hts⟩ (c_Bl_putLong (show okB (fun qg' => wS a cB cI cL h1 h2 s1 s2 op nx wt sf lf dn dg un ug qn qt qg' tn tk tv ts ef eg ex eF pf pg px pF) 6 7 (a 6) (a 7) cB 64 from ⟨fun _ => rfl, fun _ => rfl, fun _ _ => rfl⟩) (tyS_B cB cI cL) (by omega) qg hqg i 56 8 (smG 64 qg i (qt i)) (by omega) (by omega)) ⟨(va_cnB 4 hts (tbG tw_308) rfl rfl rfl n43 ini_X0 (by decide +kernel) ⟨Nat.le_of_ble_eq_true rfl, Nat.le_of_ble_eq_true rfl⟩), im_yX0_putNumber, se_yX0_putNumber⟩ ⟨x_blind, va_recv hK hP (ci := 0) (q0 := 6) rfl rfl, x_pre hK hP hD hN⟩ rfl rfl hl.1 rfl (lv_room (Nat.le_of_ble_eq_true rfl)) dX2_seal_22 ⟨Nat.zero_le _, Nat.zero_le _⟩) hS (fun H locs hP hD hS => ?_)
  have hP : va_P (dC, dI) vwCl (wS a cB cI cL h1 h2 s1 s2 op nx wt sf lf dn dg un ug qn qt (pnum 64 i 8 qg 56 (uL (smG 64 qg i (qt i)))) tn tk tv ts ef eg ex eF pf pg px pF) H := hP
  have hD : va_D A (wS a cB cI cL h1 h2 s1 s2 op nx wt sf lf dn dg un ug qn qt (pnum 64 i 8 qg 56 (uL (smG 64 qg i (qt i)))) tn tk tv ts ef eg ex eF pf pg px pF) := hD
  have e1 : (pnum 64 i 8 qg 56 (uL (smG 64 qg i (qt i)))) = (qsl i qt qg) := by rfl
  have h9 : wS a cB cI cL h1 h2 s1 s2 op nx wt sf lf dn dg un ug qn qt (pnum 64 i 8 qg 56 (uL (smG 64 qg i (qt i)))) tn tk tv ts ef eg ex eF pf pg px pF = wS a cB cI cL h1 h2 s1 s2 op nx wt sf lf dn dg un ug qn qt (qsl i qt qg) tn tk tv ts ef eg ex eF pf pg px pF := by rw [e1]
  have hP := x_wP h9 hP
  have hD := x_wD h9 hD
  exact hret dX2_seal_25 hP hD hS

set_option maxHeartbeats 4000000 in
set_option maxRecDepth 100000 in
theorem c_Qu_drain {l : Launch} {dC : Nat → ClassId} {dI : Nat → Nat → Nat} {A : Nat → Prop} {a : Nat → Nat} {cB cI cL : ClassId} {h1 h2 s1 s2 : Nat} {op : Bool} {nx wt sf lf dn : Nat} {dg : Nat → Nat} {un : Nat} {ug : Nat → Nat} {qn : Nat} {qt qg : Nat → Nat} {tn : Nat} {tk tv : Nat → Int64} {ts : Nat → Nat} {ef eg ex : Nat} {eF : Nat → Nat} {pf pg px : Nat} {pF : Nat → Nat} (hq : qn ≤ 64) (hdn : dn ≤ 64) (hqt : ∀ j, qt j < 64) (hqg : ∀ j, qg j < 256) (hdg : ∀ j, dg j < 256) (k : Nat) (hk1 : k < 2 ^ 31) : Met l yX2_drain (Cond.code yX2_drain cX2_drain 7 (some .int) :: TB) { frames := 2, cells := 0, slots := 0, locals := 45 } (xPre Nst (dC, dI) A (tyS cB cI cL) (wS a cB cI cL h1 h2 s1 s2 op nx wt sf lf dn dg un ug qn qt qg tn tk tv ts ef eg ex eF pf pg px pF) [.ref (a 5), .ref (a 1), .int (nI k)]) (xQi (dC, dI) A (nI ((min k (qn * 64)) / 64)) (wS a cB cI cL h1 h2 s1 s2 op nx wt sf lf dn (qdr dn qt qg (min k (qn * 64)) 0 dg) un ug 0 qt qg tn tk tv ts ef eg ex eF pf pg px pF)) 0 0 A := by
  refine x_ofWi (cc := cX2_drain) (maxL := 7) (by decide) rfl (Nat.le_of_ble_eq_true rfl) ?_
  intro p e s m args below meth c Q hx hb hml hts hown hK hN hP hD hS hret ls hl
  have hl : lv_has ls 7 [(0, .ref (a 5)), (1, .ref (a 1)), (2, .int (nI k))] := hl
  have hown : s.vm.findClass RX2 = some m.cls := hown
  have m51a := hts _ (List.mem_cons_of_mem _ tw_366)
  have mminb := hts _ (List.mem_cons_of_mem _ tw_126)
  have mMath := hts _ (List.mem_cons_of_mem _ tw_87)
  have mminc := hts _ (List.mem_cons_of_mem _ tw_127)
  have f24 := hts _ (List.mem_cons_of_mem _ tw_151)
  have in_X2 := (fun q hq => List.mem_cons_of_mem _ (inX2 q hq) : ∀ q ∈ wsX20, q ∈ (Cond.code yX2_drain cX2_drain 7 (some .int) :: TB))
  have f14 := hts _ (List.mem_cons_of_mem _ tw_148)
  have n57 := hN (.methodLinkNest RX2 57 yX0_value "SegmentLog") (by decide +kernel)
  have ini_X0 := hts _ (List.mem_cons_of_mem _ tw_85)
  have im_yX0_value := hts _ (List.mem_cons_of_mem _ tw_344)
  have se_yX0_value := hts _ (List.mem_cons_of_mem _ tw_25)
  have n35 := hN (.methodLinkNest RX2 35 yX0_put "SegmentLog") (by decide +kernel)
  have im_yX0_put := hts _ (List.mem_cons_of_mem _ tw_255)
  have se_yX0_put := hts _ (List.mem_cons_of_mem _ tw_5)
  refine lv_iload_n hx hb dX2_drain_0 rfl (lv_at hl 2 rfl) ?_
  refine lv_aload_n hx hb dX2_drain_1 rfl (lv_at hl 0 rfl) ?_
  refine x_calli (va_runV (As := []) (rest := [.int (nI k)]) ⟨hx, hb, hml, hown, hts⟩ c_Qu_bytes (cwV 0 hts (tbV tw_365 tw_359 tw_26 tw_88 tw_360) rfl rfl rfl (by decide +kernel) ⟨Nat.le_of_ble_eq_true rfl, Nat.le_of_ble_eq_true rfl⟩) ⟨x_blind, va_recv hK hP (ci := 2) (q0 := 5) rfl rfl, x_pre hK hP hD hN⟩ rfl rfl hl.1 rfl (lv_room (Nat.le_of_ble_eq_true rfl)) dX2_drain_2 ⟨Nat.zero_le _, Nat.zero_le _⟩) hS (fun H locs hP hD hS => ?_)
  have hP : va_P (dC, dI) vwCl (wS a cB cI cL h1 h2 s1 s2 op nx wt sf lf dn dg un ug qn qt qg tn tk tv ts ef eg ex eF pf pg px pF) H := hP
  have hD : va_D A (wS a cB cI cL h1 h2 s1 s2 op nx wt sf lf dn dg un ug qn qt qg tn tk tv ts ef eg ex eF pf pg px pF) := hD
  refine x_mmin hx hb (by rw [hml]; exact hl.1.symm) hown m51a mminb mMath mminc (by decide) (Nat.le_of_ble_eq_true rfl) (by decide) (by decide) (by omega) (by omega) dX2_drain_5 ?_
  refine lv_istore_n (lv' := [(3, .int (nI (min k (qn * 64)))), (0, .ref (a 5)), (1, .ref (a 1)), (2, .int (nI k))]) hx hb dX2_drain_8 rfl hl (by decide) rfl (fun ls hl => ?_)
  refine lv_iconst (v := nI 0) hx hb dX2_drain_9 (by decide) ?_
  refine lv_istore (lv' := [(4, .int (nI 0)), (3, .int (nI (min k (qn * 64)))), (0, .ref (a 5)), (1, .ref (a 1)), (2, .int (nI k))]) hx hb dX2_drain_10 hl (by decide) rfl (fun ls hl => ?_)
  have L12 : ∀ (fu12 : Nat) (j : Nat) (d' : Nat → Nat), (min k (qn * 64) - j < fu12) → (j ≤ min k (qn * 64)) → (∀ q, d' q < 256) → (qdr dn qt qg (min k (qn * 64) - j) j d' = qdr dn qt qg (min k (qn * 64)) 0 dg) → ∀ (H : Heap) (locs : List Loc), va_P (dC, dI) vwCl (wS a cB cI cL h1 h2 s1 s2 op nx wt sf lf dn d' un ug qn qt qg tn tk tv ts ef eg ex eF pf pg px pF) H → va_D A (wS a cB cI cL h1 h2 s1 s2 op nx wt sf lf dn d' un ug qn qt qg tn tk tv ts ef eg ex eF pf pg px pF) → va_S A s.heap H locs → ∀ (ls : Array Slot), lv_has ls 7 [(0, .ref (a 5)), (1, .ref (a 1)), (2, .int (nI k)), (3, .int (nI (min k (qn * 64)))), (4, .int (nI j))] → W p l e { frames := 2, cells := 0, slots := 0, locals := 45 } s m args below meth c H locs 0 0 Q (F0 m 12 ls []) := by
    intro fu12
    induction fu12 with
    | zero => intro j d' hm; exact absurd hm (Nat.not_lt_zero _)
    | succ fu12 ih12 =>
      intro j d' hm i12_0 i12_1 i12_2 H locs hP hD hS ls hl
      have q1 := hqt (j / 64)
      refine lv_iload hx hb dX2_drain_12 (lv_at hl 4 rfl) ?_
      refine lv_iload_n hx hb dX2_drain_14 rfl (lv_at hl 3 rfl) ?_
      refine x_icmp_ge (tgt := 61) hx hb dX2_drain_15 (by decide) (by omega) (by omega) (fun c15 => ?_) (fun c15 => ?_)
      · refine lv_aload_n hx hb dX2_drain_61 rfl (lv_at hl 0 rfl) ?_
        refine lv_iconst (v := nI 0) hx hb dX2_drain_62 (by decide) ?_
        refine va_put (D := (dC, dI)) (ci := 2) (v := .int (nI 0)) (ty := .int) (C := RX2) (T := TX2) (N := 3) hx hb hts in_X2 tyX2 tyX2_ok nmX2 hown hK hP hD hS 5 rfl rfl 2 (by decide) f24 (fun _ h9 => h9) rfl (by decide +kernel) rfl rfl (Nat.le_of_ble_eq_true rfl) dX2_drain_63 (fun H locs hP hD hS => ?_)
        have hP : va_P (dC, dI) vwCl (wS a cB cI cL h1 h2 s1 s2 op nx wt sf lf dn d' un ug 0 qt qg tn tk tv ts ef eg ex eF pf pg px pF) H := hP
        have hD : va_D A (wS a cB cI cL h1 h2 s1 s2 op nx wt sf lf dn d' un ug 0 qt qg tn tk tv ts ef eg ex eF pf pg px pF) := hD
        refine lv_iload_n hx hb dX2_drain_66 rfl (lv_at hl 3 rfl) ?_
        refine lv_bipush (v := nI 64) hx hb dX2_drain_67 (by decide) ?_
        refine x_idiv hx hb dX2_drain_69 (by omega) (by omega) (by omega) ?_
        have e1 : d' = (qdr dn qt qg (min k (qn * 64)) 0 dg) := by have h := i12_2; rw [show min k (qn * 64) - j = 0 by omega] at h; exact h
        have h9 : wS a cB cI cL h1 h2 s1 s2 op nx wt sf lf dn d' un ug 0 qt qg tn tk tv ts ef eg ex eF pf pg px pF = wS a cB cI cL h1 h2 s1 s2 op nx wt sf lf dn (qdr dn qt qg (min k (qn * 64)) 0 dg) un ug 0 qt qg tn tk tv ts ef eg ex eF pf pg px pF := by rw [← e1]
        have hP := x_wP h9 hP
        have hD := x_wD h9 hD
        exact hret dX2_drain_70 (by rfl) hP hD hS
      · refine lv_iload hx hb dX2_drain_18 (lv_at hl 4 rfl) ?_
        refine lv_bipush (v := nI 64) hx hb dX2_drain_20 (by decide) ?_
        refine x_idiv hx hb dX2_drain_22 (by omega) (by omega) (by omega) ?_
        refine lv_istore (lv' := [(5, .int (nI (j / 64))), (0, .ref (a 5)), (1, .ref (a 1)), (2, .int (nI k)), (3, .int (nI (min k (qn * 64)))), (4, .int (nI j))]) hx hb dX2_drain_23 hl (by decide) rfl (fun ls hl => ?_)
        refine lv_iload hx hb dX2_drain_25 (lv_at hl 5 rfl) ?_
        refine lv_bipush (v := nI 64) hx hb dX2_drain_27 (by decide) ?_
        refine x_irem hx hb dX2_drain_29 (by omega) (by omega) (by omega) ?_
        refine lv_istore (lv' := [(6, .int (nI (j % 64))), (5, .int (nI (j / 64))), (0, .ref (a 5)), (1, .ref (a 1)), (2, .int (nI k)), (3, .int (nI (min k (qn * 64)))), (4, .int (nI j))]) hx hb dX2_drain_30 hl (by decide) rfl (fun ls hl => ?_)
        refine lv_aload_n hx hb dX2_drain_32 rfl (lv_at hl 3 rfl) ?_
        refine lv_aload_n hx hb dX2_drain_33 rfl (lv_at hl 2 rfl) ?_
        refine lv_iload hx hb dX2_drain_34 (lv_at hl 1 rfl) ?_
        refine x_calli (va_runV (As := [.int (nI (j / 64))]) (rest := [.ref (a 1)]) ⟨hx, hb, hml, hown, hts⟩ (c_Qu_targetN (by omega) (j / 64) (by omega)) (cwV 1 hts (tbV tw_334 tw_336 tw_23 tw_88 tw_337) rfl rfl rfl (by decide +kernel) ⟨Nat.le_of_ble_eq_true rfl, Nat.le_of_ble_eq_true rfl⟩) ⟨x_blind, va_recv hK hP (ci := 2) (q0 := 5) rfl rfl, x_pre hK hP hD hN⟩ rfl rfl hl.1 rfl (lv_room (Nat.le_of_ble_eq_true rfl)) dX2_drain_36 ⟨Nat.zero_le _, Nat.zero_le _⟩) hS (fun H locs hP hD hS => ?_)
        have hP : va_P (dC, dI) vwCl (wS a cB cI cL h1 h2 s1 s2 op nx wt sf lf dn d' un ug qn qt qg tn tk tv ts ef eg ex eF pf pg px pF) H := hP
        have hD : va_D A (wS a cB cI cL h1 h2 s1 s2 op nx wt sf lf dn d' un ug qn qt qg tn tk tv ts ef eg ex eF pf pg px pF) := hD
        refine lv_iload hx hb dX2_drain_39 (lv_at hl 0 rfl) ?_
        refine lv_aload_n hx hb dX2_drain_41 rfl (lv_at hl 2 rfl) ?_
        refine va_get (D := (dC, dI)) (ci := 2) (v := .ref (a 6)) (C := RX2) (T := TX2) (N := 3) hx hb hts in_X2 hown hK hP 5 rfl rfl 0 (by decide) f14 (fun _ h9 => h9) rfl dX2_drain_42 ?_
        refine lv_iload hx hb dX2_drain_45 (lv_at hl 1 rfl) ?_
        refine lv_iload hx hb dX2_drain_47 (lv_at hl 0 rfl) ?_
        refine x_calli (va_runVN (As := [.int (nI (j / 64)), .int (nI (j % 64))]) (rest := [.int (nI (j % 64)), .int (nI (qt (j / 64))), .ref (a 1)]) ⟨hx, hb, hml, hown, hts⟩ (c_Bl_value (show okB (fun qg' => wS a cB cI cL h1 h2 s1 s2 op nx wt sf lf dn d' un ug qn qt qg' tn tk tv ts ef eg ex eF pf pg px pF) 6 7 (a 6) (a 7) cB 64 from ⟨fun _ => rfl, fun _ => rfl, fun _ _ => rfl⟩) (tyS_B cB cI cL) (by omega) qg hqg (j / 64) (j % 64) (by omega) (by omega)) ⟨(va_cnB 2 hts (tbG tw_345) rfl rfl rfl n57 ini_X0 (by decide +kernel) ⟨Nat.le_of_ble_eq_true rfl, Nat.le_of_ble_eq_true rfl⟩), im_yX0_value, se_yX0_value⟩ ⟨x_blind, va_recv hK hP (ci := 0) (q0 := 6) rfl rfl, x_pre hK hP hD hN⟩ rfl rfl hl.1 rfl (lv_room (Nat.le_of_ble_eq_true rfl)) dX2_drain_49 ⟨Nat.zero_le _, Nat.zero_le _⟩) hS (fun H locs hP hD hS => ?_)
        have hP : va_P (dC, dI) vwCl (wS a cB cI cL h1 h2 s1 s2 op nx wt sf lf dn d' un ug qn qt qg tn tk tv ts ef eg ex eF pf pg px pF) H := hP
        have hD : va_D A (wS a cB cI cL h1 h2 s1 s2 op nx wt sf lf dn d' un ug qn qt qg tn tk tv ts ef eg ex eF pf pg px pF) := hD
        have hv49 : bv 64 qg (j / 64) (j % 64) < 256 := bv_lt hqg
        refine x_callv (va_runVN (As := [.int (nI (qt (j / 64))), .int (nI (j % 64)), .int (nI (bv 64 qg (j / 64) (j % 64)))]) (rest := []) ⟨hx, hb, hml, hown, hts⟩ (c_Bl_put (show okB (fun dg' => wS a cB cI cL h1 h2 s1 s2 op nx wt sf lf dn dg' un ug qn qt qg tn tk tv ts ef eg ex eF pf pg px pF) 1 2 (a 1) (a 2) cB dn from ⟨fun _ => rfl, fun _ => rfl, fun _ _ => rfl⟩) (tyS_B cB cI cL) (by omega) d' (qt (j / 64)) (j % 64) (bv 64 qg (j / 64) (j % 64)) (by omega) (by omega) (by omega)) ⟨(va_cnB 3 hts (tbG tw_256) rfl rfl rfl n35 ini_X0 (by decide +kernel) ⟨Nat.le_of_ble_eq_true rfl, Nat.le_of_ble_eq_true rfl⟩), im_yX0_put, se_yX0_put⟩ ⟨x_blind, va_recv hK hP (ci := 0) (q0 := 1) rfl rfl, x_pre hK hP hD hN⟩ rfl rfl hl.1 rfl (lv_room (Nat.le_of_ble_eq_true rfl)) dX2_drain_52 ⟨Nat.zero_le _, Nat.zero_le _⟩) hS (fun H locs hP hD hS => ?_)
        have hP : va_P (dC, dI) vwCl (wS a cB cI cL h1 h2 s1 s2 op nx wt sf lf dn (bput dn d' (qt (j / 64)) (j % 64) (bv 64 qg (j / 64) (j % 64))) un ug qn qt qg tn tk tv ts ef eg ex eF pf pg px pF) H := hP
        have hD : va_D A (wS a cB cI cL h1 h2 s1 s2 op nx wt sf lf dn (bput dn d' (qt (j / 64)) (j % 64) (bv 64 qg (j / 64) (j % 64))) un ug qn qt qg tn tk tv ts ef eg ex eF pf pg px pF) := hD
        refine lv_iinc (v := nI (j + 1)) (lv' := [(4, .int (nI (j + 1))), (6, .int (nI (j % 64))), (5, .int (nI (j / 64))), (0, .ref (a 5)), (1, .ref (a 1)), (2, .int (nI k)), (3, .int (nI (min k (qn * 64))))]) hx hb dX2_drain_55 hl (k := 6) rfl (x_inc _) (by decide) rfl (fun ls hl => ?_)
        refine lv_goto (tgt := 12) hx hb dX2_drain_58 (by decide) ?_
        exact ih12 (j + 1) (bput dn d' (qt (j / 64)) (j % 64) (bv 64 qg (j / 64) (j % 64))) (by omega) (by omega) (by exact bput_lt i12_1) (by have h := i12_2; rw [show min k (qn * 64) - j = (min k (qn * 64) - (j + 1)) + 1 by omega, qdr] at h; exact h) _ _ hP hD hS ls (lv_sub hl [3, 4, 5, 6, 0] rfl)
  exact L12 (min k (qn * 64) - 0 + 1) 0 dg (by omega) (by omega) (by exact hdg) (by rfl) _ _ hP hD hS ls (lv_sub hl [2, 3, 4, 1, 0] rfl)
