set_option maxHeartbeats 4000000 in
set_option maxRecDepth 100000 in
theorem c_Ta_clear {l : Launch} {dC : Nat → ClassId} {dI : Nat → Nat → Nat} {A : Nat → Prop} {a : Nat → Nat} {cB cI cL : ClassId} {h1 h2 s1 s2 : Nat} {op : Bool} {nx wt sf lf dn : Nat} {dg : Nat → Nat} {un : Nat} {ug : Nat → Nat} {qn : Nat} {qt qg : Nat → Nat} {tn : Nat} {tk tv : Nat → Int64} {ts : Nat → Nat} {ef eg ex : Nat} {eF : Nat → Nat} {pf pg px : Nat} {pF : Nat → Nat} : Met l yX3_clear (Cond.code yX3_clear cX3_clear 1 none :: TB) { frames := 0, cells := 0, slots := 0, locals := 0 } (xPre Nst (dC, dI) A (tyS cB cI cL) (wS a cB cI cL h1 h2 s1 s2 op nx wt sf lf dn dg un ug qn qt qg tn tk tv ts ef eg ex eF pf pg px pF) [.ref (a 9)]) (xQv (dC, dI) A (wS a cB cI cL h1 h2 s1 s2 op nx wt sf lf dn dg un ug qn qt qg 0 tk tv ts ef eg ex eF pf pg px pF)) 0 0 A := by
  refine x_ofWv (cc := cX3_clear) (maxL := 1) (by decide) rfl (Nat.le_of_ble_eq_true rfl) ?_
  intro p e s m args below meth c Q hx hb hml hts hown hK hN hP hD hS hret ls hl
  have hl : lv_has ls 1 [(0, .ref (a 9))] := hl
  have hown : s.vm.findClass RX3 = some m.cls := hown
  have f22 := hts _ (List.mem_cons_of_mem _ tw_169)
  have in_X3 := (fun q hq => List.mem_cons_of_mem _ (inX3 q hq) : ∀ q ∈ wsX30, q ∈ (Cond.code yX3_clear cX3_clear 1 none :: TB))
  refine lv_aload_n hx hb dX3_clear_0 rfl (lv_at hl 0 rfl) ?_
  refine lv_iconst (v := nI 0) hx hb dX3_clear_1 (by decide) ?_
  refine va_put (D := (dC, dI)) (ci := 3) (v := .int (nI 0)) (ty := .int) (C := RX3) (T := TX3) (N := 4) hx hb hts in_X3 tyX3 tyX3_ok nmX3 hown hK hP hD hS 9 rfl rfl 3 (by decide) f22 (fun _ h9 => h9) rfl (by decide +kernel) rfl rfl (Nat.le_of_ble_eq_true rfl) dX3_clear_2 (fun H locs hP hD hS => ?_)
  have hP : va_P (dC, dI) vwCl (wS a cB cI cL h1 h2 s1 s2 op nx wt sf lf dn dg un ug qn qt qg 0 tk tv ts ef eg ex eF pf pg px pF) H := hP
  have hD : va_D A (wS a cB cI cL h1 h2 s1 s2 op nx wt sf lf dn dg un ug qn qt qg 0 tk tv ts ef eg ex eF pf pg px pF) := hD
  exact hret dX3_clear_5 hP hD hS

set_option maxHeartbeats 4000000 in
set_option maxRecDepth 100000 in
theorem c_Ta_has {l : Launch} {dC : Nat → ClassId} {dI : Nat → Nat → Nat} {A : Nat → Prop} {a : Nat → Nat} {cB cI cL : ClassId} {h1 h2 s1 s2 : Nat} {op : Bool} {nx wt sf lf dn : Nat} {dg : Nat → Nat} {un : Nat} {ug : Nat → Nat} {qn : Nat} {qt qg : Nat → Nat} {tn : Nat} {tk tv : Nat → Int64} {ts : Nat → Nat} {ef eg ex : Nat} {eF : Nat → Nat} {pf pg px : Nat} {pF : Nat → Nat} (hn : tn ≤ 192) (x : Int32) : Met l yX3_has (Cond.code yX3_has cX3_has 2 (some .boolean) :: TB) { frames := 0, cells := 0, slots := 0, locals := 0 } (xPre Nst (dC, dI) A (tyS cB cI cL) (wS a cB cI cL h1 h2 s1 s2 op nx wt sf lf dn dg un ug qn qt qg tn tk tv ts ef eg ex eF pf pg px pF) [.ref (a 9), .int (x)]) (xQi (dC, dI) A (bI (xin tn x)) (wS a cB cI cL h1 h2 s1 s2 op nx wt sf lf dn dg un ug qn qt qg tn tk tv ts ef eg ex eF pf pg px pF)) 0 0 A := by
  refine x_ofWz (cc := cX3_has) (maxL := 2) (by decide) rfl (Nat.le_of_ble_eq_true rfl) (x_narZ _) ?_
  intro p e s m args below meth c Q hx hb hml hts hown hK hN hP hD hS hret ls hl
  have hl : lv_has ls 2 [(0, .ref (a 9)), (1, .int (x))] := hl
  have hown : s.vm.findClass RX3 = some m.cls := hown
  have f22 := hts _ (List.mem_cons_of_mem _ tw_169)
  have in_X3 := (fun q hq => List.mem_cons_of_mem _ (inX3 q hq) : ∀ q ∈ wsX30, q ∈ (Cond.code yX3_has cX3_has 2 (some .boolean) :: TB))
  refine lv_iload_n hx hb dX3_has_0 rfl (lv_at hl 1 rfl) ?_
  refine lv_if_lt (tgt := 23) hx hb dX3_has_1 (by decide) (fun c1 => ?_) (fun c1 => ?_)
  · refine lv_iconst (v := nI 0) hx hb dX3_has_23 (by decide) ?_
    exact hret dX3_has_24 (by first | exact xin_t hn c1 c9 c16 | exact xin_f (by first | exact Or.inl c1 | exact Or.inr (Or.inl c9) | exact Or.inr (Or.inr c16)) hn) hP hD hS
  · refine lv_iload_n hx hb dX3_has_4 rfl (lv_at hl 1 rfl) ?_
    refine lv_aload_n hx hb dX3_has_5 rfl (lv_at hl 0 rfl) ?_
    refine va_get (D := (dC, dI)) (ci := 3) (v := .int (nI tn)) (C := RX3) (T := TX3) (N := 4) hx hb hts in_X3 hown hK hP 9 rfl rfl 3 (by decide) f22 (fun _ h9 => h9) rfl dX3_has_6 ?_
    refine lv_icmp_ge (tgt := 23) hx hb dX3_has_9 (by decide) (fun c9 => ?_) (fun c9 => ?_)
    · refine lv_iconst (v := nI 0) hx hb dX3_has_23 (by decide) ?_
      exact hret dX3_has_24 (by first | exact xin_t hn c1 c9 c16 | exact xin_f (by first | exact Or.inl c1 | exact Or.inr (Or.inl c9) | exact Or.inr (Or.inr c16)) hn) hP hD hS
    · refine lv_iload_n hx hb dX3_has_12 rfl (lv_at hl 1 rfl) ?_
      refine lv_sipush (v := nI 192) hx hb dX3_has_13 (by decide) ?_
      refine lv_icmp_ge (tgt := 23) hx hb dX3_has_16 (by decide) (fun c16 => ?_) (fun c16 => ?_)
      · refine lv_iconst (v := nI 0) hx hb dX3_has_23 (by decide) ?_
        exact hret dX3_has_24 (by first | exact xin_t hn c1 c9 c16 | exact xin_f (by first | exact Or.inl c1 | exact Or.inr (Or.inl c9) | exact Or.inr (Or.inr c16)) hn) hP hD hS
      · refine lv_iconst (v := nI 1) hx hb dX3_has_19 (by decide) ?_
        refine lv_goto (tgt := 24) hx hb dX3_has_20 (by decide) ?_
        exact hret dX3_has_24 (by first | exact xin_t hn c1 c9 c16 | exact xin_f (by first | exact Or.inl c1 | exact Or.inr (Or.inl c9) | exact Or.inr (Or.inr c16)) hn) hP hD hS

set_option maxHeartbeats 4000000 in
set_option maxRecDepth 100000 in
theorem c_Ta_hasN {l : Launch} {dC : Nat → ClassId} {dI : Nat → Nat → Nat} {A : Nat → Prop} {a : Nat → Nat} {cB cI cL : ClassId} {h1 h2 s1 s2 : Nat} {op : Bool} {nx wt sf lf dn : Nat} {dg : Nat → Nat} {un : Nat} {ug : Nat → Nat} {qn : Nat} {qt qg : Nat → Nat} {tn : Nat} {tk tv : Nat → Int64} {ts : Nat → Nat} {ef eg ex : Nat} {eF : Nat → Nat} {pf pg px : Nat} {pF : Nat → Nat} (hn : tn ≤ 192) (i : Nat) (hi1 : i < 2 ^ 31) : Met l yX3_has (Cond.code yX3_has cX3_has 2 (some .boolean) :: TB) { frames := 0, cells := 0, slots := 0, locals := 0 } (xPre Nst (dC, dI) A (tyS cB cI cL) (wS a cB cI cL h1 h2 s1 s2 op nx wt sf lf dn dg un ug qn qt qg tn tk tv ts ef eg ex eF pf pg px pF) [.ref (a 9), .int (nI i)]) (xQi (dC, dI) A (bI (decide (i < tn))) (wS a cB cI cL h1 h2 s1 s2 op nx wt sf lf dn dg un ug qn qt qg tn tk tv ts ef eg ex eF pf pg px pF)) 0 0 A := by
  have h := c_Ta_has (l := l) (dC := dC) (dI := dI) (A := A) (a := a) (cB := cB) (cI := cI) (cL := cL) (h1 := h1) (h2 := h2) (s1 := s1) (s2 := s2) (op := op) (nx := nx) (wt := wt) (sf := sf) (lf := lf) (dn := dn) (dg := dg) (un := un) (ug := ug) (qn := qn) (qt := qt) (qg := qg) (tn := tn) (tk := tk) (tv := tv) (ts := ts) (ef := ef) (eg := eg) (ex := ex) (eF := eF) (pf := pf) (pg := pg) (px := px) (pF := pF) hn (nI i)
  rw [xin_nI hi1] at h
  exact h

set_option maxHeartbeats 4000000 in
set_option maxRecDepth 100000 in
theorem c_Ta_key {l : Launch} {dC : Nat → ClassId} {dI : Nat → Nat → Nat} {A : Nat → Prop} {a : Nat → Nat} {cB cI cL : ClassId} {h1 h2 s1 s2 : Nat} {op : Bool} {nx wt sf lf dn : Nat} {dg : Nat → Nat} {un : Nat} {ug : Nat → Nat} {qn : Nat} {qt qg : Nat → Nat} {tn : Nat} {tk tv : Nat → Int64} {ts : Nat → Nat} {ef eg ex : Nat} {eF : Nat → Nat} {pf pg px : Nat} {pF : Nat → Nat} (hn : tn ≤ 192) (i : Nat) (hi : i < tn) : Met l yX3_key (Cond.code yX3_key cX3_key 2 (some .long) :: TB) { frames := 1, cells := 0, slots := 0, locals := 21 } (xPre Nst (dC, dI) A (tyS cB cI cL) (wS a cB cI cL h1 h2 s1 s2 op nx wt sf lf dn dg un ug qn qt qg tn tk tv ts ef eg ex eF pf pg px pF) [.ref (a 9), .int (nI i)]) (xQl (dC, dI) A (tk i) (wS a cB cI cL h1 h2 s1 s2 op nx wt sf lf dn dg un ug qn qt qg tn tk tv ts ef eg ex eF pf pg px pF)) 0 0 A := by
  refine x_ofWl (cc := cX3_key) (maxL := 2) (by decide) rfl (Nat.le_of_ble_eq_true rfl) ?_
  intro p e s m args below meth c Q hx hb hml hts hown hK hN hP hD hS hret ls hl
  have hl : lv_has ls 2 [(0, .ref (a 9)), (1, .int (nI i))] := hl
  have hown : s.vm.findClass RX3 = some m.cls := hown
  have f9 := hts _ (List.mem_cons_of_mem _ tw_166)
  have in_X3 := (fun q hq => List.mem_cons_of_mem _ (inX3 q hq) : ∀ q ∈ wsX30, q ∈ (Cond.code yX3_key cX3_key 2 (some .long) :: TB))
  refine lv_aload_n hx hb dX3_key_0 rfl (lv_at hl 0 rfl) ?_
  refine lv_iload_n hx hb dX3_key_1 rfl (lv_at hl 1 rfl) ?_
  refine x_calli (va_runV (As := [.int (nI i)]) (rest := []) ⟨hx, hb, hml, hown, hts⟩ (c_Ta_hasN (by omega) i (by omega)) (cwV 1 hts (tbV tw_322 tw_324 tw_20 tw_89 tw_325) rfl rfl rfl (by decide +kernel) ⟨Nat.le_of_ble_eq_true rfl, Nat.le_of_ble_eq_true rfl⟩) ⟨x_blind, va_recv hK hP (ci := 3) (q0 := 9) rfl rfl, x_pre hK hP hD hN⟩ rfl rfl hl.1 rfl (lv_room (Nat.le_of_ble_eq_true rfl)) dX3_key_2 ⟨Nat.zero_le _, Nat.zero_le _⟩) hS (fun H locs hP hD hS => ?_)
  have hP : va_P (dC, dI) vwCl (wS a cB cI cL h1 h2 s1 s2 op nx wt sf lf dn dg un ug qn qt qg tn tk tv ts ef eg ex eF pf pg px pF) H := hP
  have hD : va_D A (wS a cB cI cL h1 h2 s1 s2 op nx wt sf lf dn dg un ug qn qt qg tn tk tv ts ef eg ex eF pf pg px pF) := hD
  refine x_if_eq_b (tgt := 17) hx hb dX3_key_5 (by decide) (fun c5 => ?_) (fun c5 => ?_)
  · exact absurd hi (of_decide_eq_false c5)
  · refine lv_aload_n hx hb dX3_key_8 rfl (lv_at hl 0 rfl) ?_
    refine va_get (D := (dC, dI)) (ci := 3) (v := .ref (a 10)) (C := RX3) (T := TX3) (N := 4) hx hb hts in_X3 hown hK hP 9 rfl rfl 0 (by decide) f9 (fun _ h9 => h9) rfl dX3_key_9 ?_
    refine lv_iload_n hx hb dX3_key_12 rfl (lv_at hl 1 rfl) ?_
    refine x_lald hx hb hK hP 10 2 rfl rfl (by omega) (by decide) dX3_key_13 ?_
    refine lv_goto (tgt := 18) hx hb dX3_key_14 (by decide) ?_
    exact hret dX3_key_18 (by rfl) hP hD hS

set_option maxHeartbeats 4000000 in
set_option maxRecDepth 100000 in
theorem c_Ta_value {l : Launch} {dC : Nat → ClassId} {dI : Nat → Nat → Nat} {A : Nat → Prop} {a : Nat → Nat} {cB cI cL : ClassId} {h1 h2 s1 s2 : Nat} {op : Bool} {nx wt sf lf dn : Nat} {dg : Nat → Nat} {un : Nat} {ug : Nat → Nat} {qn : Nat} {qt qg : Nat → Nat} {tn : Nat} {tk tv : Nat → Int64} {ts : Nat → Nat} {ef eg ex : Nat} {eF : Nat → Nat} {pf pg px : Nat} {pF : Nat → Nat} (hn : tn ≤ 192) (i : Nat) (hi : i < tn) : Met l yX3_value (Cond.code yX3_value cX3_value 2 (some .long) :: TB) { frames := 1, cells := 0, slots := 0, locals := 21 } (xPre Nst (dC, dI) A (tyS cB cI cL) (wS a cB cI cL h1 h2 s1 s2 op nx wt sf lf dn dg un ug qn qt qg tn tk tv ts ef eg ex eF pf pg px pF) [.ref (a 9), .int (nI i)]) (xQl (dC, dI) A (tv i) (wS a cB cI cL h1 h2 s1 s2 op nx wt sf lf dn dg un ug qn qt qg tn tk tv ts ef eg ex eF pf pg px pF)) 0 0 A := by
  refine x_ofWl (cc := cX3_value) (maxL := 2) (by decide) rfl (Nat.le_of_ble_eq_true rfl) ?_
  intro p e s m args below meth c Q hx hb hml hts hown hK hN hP hD hS hret ls hl
  have hl : lv_has ls 2 [(0, .ref (a 9)), (1, .int (nI i))] := hl
  have hown : s.vm.findClass RX3 = some m.cls := hown
  have f15 := hts _ (List.mem_cons_of_mem _ tw_167)
  have in_X3 := (fun q hq => List.mem_cons_of_mem _ (inX3 q hq) : ∀ q ∈ wsX30, q ∈ (Cond.code yX3_value cX3_value 2 (some .long) :: TB))
  refine lv_aload_n hx hb dX3_value_0 rfl (lv_at hl 0 rfl) ?_
  refine lv_iload_n hx hb dX3_value_1 rfl (lv_at hl 1 rfl) ?_
  refine x_calli (va_runV (As := [.int (nI i)]) (rest := []) ⟨hx, hb, hml, hown, hts⟩ (c_Ta_hasN (by omega) i (by omega)) (cwV 1 hts (tbV tw_322 tw_324 tw_20 tw_89 tw_325) rfl rfl rfl (by decide +kernel) ⟨Nat.le_of_ble_eq_true rfl, Nat.le_of_ble_eq_true rfl⟩) ⟨x_blind, va_recv hK hP (ci := 3) (q0 := 9) rfl rfl, x_pre hK hP hD hN⟩ rfl rfl hl.1 rfl (lv_room (Nat.le_of_ble_eq_true rfl)) dX3_value_2 ⟨Nat.zero_le _, Nat.zero_le _⟩) hS (fun H locs hP hD hS => ?_)
  have hP : va_P (dC, dI) vwCl (wS a cB cI cL h1 h2 s1 s2 op nx wt sf lf dn dg un ug qn qt qg tn tk tv ts ef eg ex eF pf pg px pF) H := hP
  have hD : va_D A (wS a cB cI cL h1 h2 s1 s2 op nx wt sf lf dn dg un ug qn qt qg tn tk tv ts ef eg ex eF pf pg px pF) := hD
  refine x_if_eq_b (tgt := 17) hx hb dX3_value_5 (by decide) (fun c5 => ?_) (fun c5 => ?_)
  · exact absurd hi (of_decide_eq_false c5)
  · refine lv_aload_n hx hb dX3_value_8 rfl (lv_at hl 0 rfl) ?_
    refine va_get (D := (dC, dI)) (ci := 3) (v := .ref (a 11)) (C := RX3) (T := TX3) (N := 4) hx hb hts in_X3 hown hK hP 9 rfl rfl 1 (by decide) f15 (fun _ h9 => h9) rfl dX3_value_9 ?_
    refine lv_iload_n hx hb dX3_value_12 rfl (lv_at hl 1 rfl) ?_
    refine x_lald hx hb hK hP 11 2 rfl rfl (by omega) (by decide) dX3_value_13 ?_
    refine lv_goto (tgt := 18) hx hb dX3_value_14 (by decide) ?_
    exact hret dX3_value_18 (by rfl) hP hD hS

set_option maxHeartbeats 4000000 in
set_option maxRecDepth 100000 in
theorem c_Ta_sequence {l : Launch} {dC : Nat → ClassId} {dI : Nat → Nat → Nat} {A : Nat → Prop} {a : Nat → Nat} {cB cI cL : ClassId} {h1 h2 s1 s2 : Nat} {op : Bool} {nx wt sf lf dn : Nat} {dg : Nat → Nat} {un : Nat} {ug : Nat → Nat} {qn : Nat} {qt qg : Nat → Nat} {tn : Nat} {tk tv : Nat → Int64} {ts : Nat → Nat} {ef eg ex : Nat} {eF : Nat → Nat} {pf pg px : Nat} {pF : Nat → Nat} (hn : tn ≤ 192) (i : Nat) (hi : i < tn) : Met l yX3_sequence (Cond.code yX3_sequence cX3_sequence 2 (some .int) :: TB) { frames := 1, cells := 0, slots := 0, locals := 21 } (xPre Nst (dC, dI) A (tyS cB cI cL) (wS a cB cI cL h1 h2 s1 s2 op nx wt sf lf dn dg un ug qn qt qg tn tk tv ts ef eg ex eF pf pg px pF) [.ref (a 9), .int (nI i)]) (xQi (dC, dI) A (nI (ts i)) (wS a cB cI cL h1 h2 s1 s2 op nx wt sf lf dn dg un ug qn qt qg tn tk tv ts ef eg ex eF pf pg px pF)) 0 0 A := by
  refine x_ofWi (cc := cX3_sequence) (maxL := 2) (by decide) rfl (Nat.le_of_ble_eq_true rfl) ?_
  intro p e s m args below meth c Q hx hb hml hts hown hK hN hP hD hS hret ls hl
  have hl : lv_has ls 2 [(0, .ref (a 9)), (1, .int (nI i))] := hl
  have hown : s.vm.findClass RX3 = some m.cls := hown
  have f18 := hts _ (List.mem_cons_of_mem _ tw_168)
  have in_X3 := (fun q hq => List.mem_cons_of_mem _ (inX3 q hq) : ∀ q ∈ wsX30, q ∈ (Cond.code yX3_sequence cX3_sequence 2 (some .int) :: TB))
  refine lv_aload_n hx hb dX3_sequence_0 rfl (lv_at hl 0 rfl) ?_
  refine lv_iload_n hx hb dX3_sequence_1 rfl (lv_at hl 1 rfl) ?_
  refine x_calli (va_runV (As := [.int (nI i)]) (rest := []) ⟨hx, hb, hml, hown, hts⟩ (c_Ta_hasN (by omega) i (by omega)) (cwV 1 hts (tbV tw_322 tw_324 tw_20 tw_89 tw_325) rfl rfl rfl (by decide +kernel) ⟨Nat.le_of_ble_eq_true rfl, Nat.le_of_ble_eq_true rfl⟩) ⟨x_blind, va_recv hK hP (ci := 3) (q0 := 9) rfl rfl, x_pre hK hP hD hN⟩ rfl rfl hl.1 rfl (lv_room (Nat.le_of_ble_eq_true rfl)) dX3_sequence_2 ⟨Nat.zero_le _, Nat.zero_le _⟩) hS (fun H locs hP hD hS => ?_)
  have hP : va_P (dC, dI) vwCl (wS a cB cI cL h1 h2 s1 s2 op nx wt sf lf dn dg un ug qn qt qg tn tk tv ts ef eg ex eF pf pg px pF) H := hP
  have hD : va_D A (wS a cB cI cL h1 h2 s1 s2 op nx wt sf lf dn dg un ug qn qt qg tn tk tv ts ef eg ex eF pf pg px pF) := hD
  refine x_if_eq_b (tgt := 17) hx hb dX3_sequence_5 (by decide) (fun c5 => ?_) (fun c5 => ?_)
  · exact absurd hi (of_decide_eq_false c5)
  · refine lv_aload_n hx hb dX3_sequence_8 rfl (lv_at hl 0 rfl) ?_
    refine va_get (D := (dC, dI)) (ci := 3) (v := .ref (a 12)) (C := RX3) (T := TX3) (N := 4) hx hb hts in_X3 hown hK hP 9 rfl rfl 2 (by decide) f18 (fun _ h9 => h9) rfl dX3_sequence_9 ?_
    refine lv_iload_n hx hb dX3_sequence_12 rfl (lv_at hl 1 rfl) ?_
    refine x_iald hx hb hK hP 12 1 rfl rfl (by omega) (by decide) dX3_sequence_13 ?_
    refine lv_goto (tgt := 18) hx hb dX3_sequence_14 (by decide) ?_
    exact hret dX3_sequence_18 (by rfl) hP hD hS

set_option maxHeartbeats 4000000 in
set_option maxRecDepth 100000 in
theorem c_Ta_upTo {l : Launch} {dC : Nat → ClassId} {dI : Nat → Nat → Nat} {A : Nat → Prop} {a : Nat → Nat} {cB cI cL : ClassId} {h1 h2 s1 s2 : Nat} {op : Bool} {nx wt sf lf dn : Nat} {dg : Nat → Nat} {un : Nat} {ug : Nat → Nat} {qn : Nat} {qt qg : Nat → Nat} {tn : Nat} {tk tv : Nat → Int64} {ts : Nat → Nat} {ef eg ex : Nat} {eF : Nat → Nat} {pf pg px : Nat} {pF : Nat → Nat} (hn : tn ≤ 192) (x : Int64) : Met l yX3_upTo (Cond.code yX3_upTo cX3_upTo 5 (some .int) :: TB) { frames := 0, cells := 0, slots := 0, locals := 0 } (xPre Nst (dC, dI) A (tyS cB cI cL) (wS a cB cI cL h1 h2 s1 s2 op nx wt sf lf dn dg un ug qn qt qg tn tk tv ts ef eg ex eF pf pg px pF) [.ref (a 9), .long (x)]) (xQi (dC, dI) A (nI (tup tk x tn 0)) (wS a cB cI cL h1 h2 s1 s2 op nx wt sf lf dn dg un ug qn qt qg tn tk tv ts ef eg ex eF pf pg px pF)) 0 0 A := by
  refine x_ofWi (cc := cX3_upTo) (maxL := 5) (by decide) rfl (Nat.le_of_ble_eq_true rfl) ?_
  intro p e s m args below meth c Q hx hb hml hts hown hK hN hP hD hS hret ls hl
  have hl : lv_has ls 5 [(0, .ref (a 9)), (1, .long (x))] := hl
  have hown : s.vm.findClass RX3 = some m.cls := hown
  have f22 := hts _ (List.mem_cons_of_mem _ tw_169)
  have in_X3 := (fun q hq => List.mem_cons_of_mem _ (inX3 q hq) : ∀ q ∈ wsX30, q ∈ (Cond.code yX3_upTo cX3_upTo 5 (some .int) :: TB))
  have f9 := hts _ (List.mem_cons_of_mem _ tw_166)
  refine lv_iconst (v := nI 0) hx hb dX3_upTo_0 (by decide) ?_
  refine lv_istore_n (lv' := [(3, .int (nI 0)), (0, .ref (a 9)), (1, .long (x))]) hx hb dX3_upTo_1 rfl hl (by decide) rfl (fun ls hl => ?_)
  refine lv_iconst (v := nI 0) hx hb dX3_upTo_2 (by decide) ?_
  refine lv_istore (lv' := [(4, .int (nI 0)), (3, .int (nI 0)), (0, .ref (a 9)), (1, .long (x))]) hx hb dX3_upTo_3 hl (by decide) rfl (fun ls hl => ?_)
  have L5 : ∀ (fu5 : Nat) (j : Nat), (tn - j < fu5) → (j ≤ tn) → (tup tk x (tn - j) j = tup tk x tn 0) → ∀ (H : Heap) (locs : List Loc), va_P (dC, dI) vwCl (wS a cB cI cL h1 h2 s1 s2 op nx wt sf lf dn dg un ug qn qt qg tn tk tv ts ef eg ex eF pf pg px pF) H → va_D A (wS a cB cI cL h1 h2 s1 s2 op nx wt sf lf dn dg un ug qn qt qg tn tk tv ts ef eg ex eF pf pg px pF) → va_S A s.heap H locs → ∀ (ls : Array Slot), lv_has ls 5 [(0, .ref (a 9)), (1, .long (x)), (3, .int (nI j)), (4, .int (nI j))] → W p l e { frames := 0, cells := 0, slots := 0, locals := 0 } s m args below meth c H locs 0 0 Q (F0 m 5 ls []) := by
    intro fu5
    induction fu5 with
    | zero => intro j hm; exact absurd hm (Nat.not_lt_zero _)
    | succ fu5 ih5 =>
      intro j hm i5_0 i5_1 H locs hP hD hS ls hl
      refine lv_iload hx hb dX3_upTo_5 (lv_at hl 3 rfl) ?_
      refine lv_aload_n hx hb dX3_upTo_7 rfl (lv_at hl 0 rfl) ?_
      refine va_get (D := (dC, dI)) (ci := 3) (v := .int (nI tn)) (C := RX3) (T := TX3) (N := 4) hx hb hts in_X3 hown hK hP 9 rfl rfl 3 (by decide) f22 (fun _ h9 => h9) rfl dX3_upTo_8 ?_
      refine x_icmp_ge (tgt := 35) hx hb dX3_upTo_11 (by decide) (by omega) (by omega) (fun c11 => ?_) (fun c11 => ?_)
      · refine lv_iload_n hx hb dX3_upTo_35 rfl (lv_at hl 2 rfl) ?_
        exact hret dX3_upTo_36 (by have h := i5_1; first | (rw [show tn - j = 0 by omega, tup] at h; rw [h]) | (rw [show tn - j = (tn - (j + 1)) + 1 by omega, tup, if_pos c23] at h; rw [h])) hP hD hS
      · refine lv_aload_n hx hb dX3_upTo_14 rfl (lv_at hl 0 rfl) ?_
        refine va_get (D := (dC, dI)) (ci := 3) (v := .ref (a 10)) (C := RX3) (T := TX3) (N := 4) hx hb hts in_X3 hown hK hP 9 rfl rfl 0 (by decide) f9 (fun _ h9 => h9) rfl dX3_upTo_15 ?_
        refine lv_iload hx hb dX3_upTo_18 (lv_at hl 3 rfl) ?_
        refine x_lald hx hb hK hP 10 2 rfl rfl (by omega) (by decide) dX3_upTo_20 ?_
        refine lv_lload_n hx hb dX3_upTo_21 rfl (lv_at hl 1 rfl) ?_
        refine W.lcmp hx hb dX3_upTo_22 ?_
        refine x_lif_gt (tgt := 35) hx hb dX3_upTo_23 (by decide) (fun c23 => ?_) (fun c23 => ?_)
        · refine lv_iload_n hx hb dX3_upTo_35 rfl (lv_at hl 2 rfl) ?_
          exact hret dX3_upTo_36 (by have h := i5_1; first | (rw [show tn - j = 0 by omega, tup] at h; rw [h]) | (rw [show tn - j = (tn - (j + 1)) + 1 by omega, tup, if_pos c23] at h; rw [h])) hP hD hS
        · refine lv_iinc (v := nI (j + 1)) (lv' := [(3, .int (nI (j + 1))), (0, .ref (a 9)), (1, .long (x)), (4, .int (nI j))]) hx hb dX3_upTo_26 hl (k := 2) rfl (x_inc _) (by decide) rfl (fun ls hl => ?_)
          refine lv_iinc (v := nI (j + 1)) (lv' := [(4, .int (nI (j + 1))), (3, .int (nI (j + 1))), (0, .ref (a 9)), (1, .long (x))]) hx hb dX3_upTo_29 hl (k := 3) rfl (x_inc _) (by decide) rfl (fun ls hl => ?_)
          refine lv_goto (tgt := 5) hx hb dX3_upTo_32 (by decide) ?_
          exact ih5 (j + 1) (by omega) (by omega) (by have h := i5_1; rw [show tn - j = (tn - (j + 1)) + 1 by omega, tup, if_neg c23] at h; exact h) _ _ hP hD hS ls (lv_sub hl [2, 3, 1, 0] rfl)
  exact L5 (tn - 0 + 1) 0 (by omega) (by omega) (by rfl) _ _ hP hD hS ls (lv_sub hl [2, 3, 1, 0] rfl)

set_option maxHeartbeats 4000000 in
set_option maxRecDepth 100000 in
theorem c_Ta_below {l : Launch} {dC : Nat → ClassId} {dI : Nat → Nat → Nat} {A : Nat → Prop} {a : Nat → Nat} {cB cI cL : ClassId} {h1 h2 s1 s2 : Nat} {op : Bool} {nx wt sf lf dn : Nat} {dg : Nat → Nat} {un : Nat} {ug : Nat → Nat} {qn : Nat} {qt qg : Nat → Nat} {tn : Nat} {tk tv : Nat → Int64} {ts : Nat → Nat} {ef eg ex : Nat} {eF : Nat → Nat} {pf pg px : Nat} {pF : Nat → Nat} (hn : tn ≤ 192) (x : Int64) : Met l yX3_below (Cond.code yX3_below cX3_below 5 (some .int) :: TB) { frames := 0, cells := 0, slots := 0, locals := 0 } (xPre Nst (dC, dI) A (tyS cB cI cL) (wS a cB cI cL h1 h2 s1 s2 op nx wt sf lf dn dg un ug qn qt qg tn tk tv ts ef eg ex eF pf pg px pF) [.ref (a 9), .long (x)]) (xQi (dC, dI) A (nI (tbe tk x tn 0)) (wS a cB cI cL h1 h2 s1 s2 op nx wt sf lf dn dg un ug qn qt qg tn tk tv ts ef eg ex eF pf pg px pF)) 0 0 A := by
  refine x_ofWi (cc := cX3_below) (maxL := 5) (by decide) rfl (Nat.le_of_ble_eq_true rfl) ?_
  intro p e s m args below meth c Q hx hb hml hts hown hK hN hP hD hS hret ls hl
  have hl : lv_has ls 5 [(0, .ref (a 9)), (1, .long (x))] := hl
  have hown : s.vm.findClass RX3 = some m.cls := hown
  have f22 := hts _ (List.mem_cons_of_mem _ tw_169)
  have in_X3 := (fun q hq => List.mem_cons_of_mem _ (inX3 q hq) : ∀ q ∈ wsX30, q ∈ (Cond.code yX3_below cX3_below 5 (some .int) :: TB))
  have f9 := hts _ (List.mem_cons_of_mem _ tw_166)
  refine lv_iconst (v := nI 0) hx hb dX3_below_0 (by decide) ?_
  refine lv_istore_n (lv' := [(3, .int (nI 0)), (0, .ref (a 9)), (1, .long (x))]) hx hb dX3_below_1 rfl hl (by decide) rfl (fun ls hl => ?_)
  refine lv_iconst (v := nI 0) hx hb dX3_below_2 (by decide) ?_
  refine lv_istore (lv' := [(4, .int (nI 0)), (3, .int (nI 0)), (0, .ref (a 9)), (1, .long (x))]) hx hb dX3_below_3 hl (by decide) rfl (fun ls hl => ?_)
  have L5 : ∀ (fu5 : Nat) (j : Nat), (tn - j < fu5) → (j ≤ tn) → (tbe tk x (tn - j) j = tbe tk x tn 0) → ∀ (H : Heap) (locs : List Loc), va_P (dC, dI) vwCl (wS a cB cI cL h1 h2 s1 s2 op nx wt sf lf dn dg un ug qn qt qg tn tk tv ts ef eg ex eF pf pg px pF) H → va_D A (wS a cB cI cL h1 h2 s1 s2 op nx wt sf lf dn dg un ug qn qt qg tn tk tv ts ef eg ex eF pf pg px pF) → va_S A s.heap H locs → ∀ (ls : Array Slot), lv_has ls 5 [(0, .ref (a 9)), (1, .long (x)), (3, .int (nI j)), (4, .int (nI j))] → W p l e { frames := 0, cells := 0, slots := 0, locals := 0 } s m args below meth c H locs 0 0 Q (F0 m 5 ls []) := by
    intro fu5
    induction fu5 with
    | zero => intro j hm; exact absurd hm (Nat.not_lt_zero _)
    | succ fu5 ih5 =>
      intro j hm i5_0 i5_1 H locs hP hD hS ls hl
      refine lv_iload hx hb dX3_below_5 (lv_at hl 3 rfl) ?_
      refine lv_aload_n hx hb dX3_below_7 rfl (lv_at hl 0 rfl) ?_
      refine va_get (D := (dC, dI)) (ci := 3) (v := .int (nI tn)) (C := RX3) (T := TX3) (N := 4) hx hb hts in_X3 hown hK hP 9 rfl rfl 3 (by decide) f22 (fun _ h9 => h9) rfl dX3_below_8 ?_
      refine x_icmp_ge (tgt := 35) hx hb dX3_below_11 (by decide) (by omega) (by omega) (fun c11 => ?_) (fun c11 => ?_)
      · refine lv_iload_n hx hb dX3_below_35 rfl (lv_at hl 2 rfl) ?_
        exact hret dX3_below_36 (by have h := i5_1; first | (rw [show tn - j = 0 by omega, tbe] at h; rw [h]) | (rw [show tn - j = (tn - (j + 1)) + 1 by omega, tbe, if_pos c23] at h; rw [h])) hP hD hS
      · refine lv_aload_n hx hb dX3_below_14 rfl (lv_at hl 0 rfl) ?_
        refine va_get (D := (dC, dI)) (ci := 3) (v := .ref (a 10)) (C := RX3) (T := TX3) (N := 4) hx hb hts in_X3 hown hK hP 9 rfl rfl 0 (by decide) f9 (fun _ h9 => h9) rfl dX3_below_15 ?_
        refine lv_iload hx hb dX3_below_18 (lv_at hl 3 rfl) ?_
        refine x_lald hx hb hK hP 10 2 rfl rfl (by omega) (by decide) dX3_below_20 ?_
        refine lv_lload_n hx hb dX3_below_21 rfl (lv_at hl 1 rfl) ?_
        refine W.lcmp hx hb dX3_below_22 ?_
        refine x_lif_ge (tgt := 35) hx hb dX3_below_23 (by decide) (fun c23 => ?_) (fun c23 => ?_)
        · refine lv_iload_n hx hb dX3_below_35 rfl (lv_at hl 2 rfl) ?_
          exact hret dX3_below_36 (by have h := i5_1; first | (rw [show tn - j = 0 by omega, tbe] at h; rw [h]) | (rw [show tn - j = (tn - (j + 1)) + 1 by omega, tbe, if_pos c23] at h; rw [h])) hP hD hS
        · refine lv_iinc (v := nI (j + 1)) (lv' := [(3, .int (nI (j + 1))), (0, .ref (a 9)), (1, .long (x)), (4, .int (nI j))]) hx hb dX3_below_26 hl (k := 2) rfl (x_inc _) (by decide) rfl (fun ls hl => ?_)
          refine lv_iinc (v := nI (j + 1)) (lv' := [(4, .int (nI (j + 1))), (3, .int (nI (j + 1))), (0, .ref (a 9)), (1, .long (x))]) hx hb dX3_below_29 hl (k := 3) rfl (x_inc _) (by decide) rfl (fun ls hl => ?_)
          refine lv_goto (tgt := 5) hx hb dX3_below_32 (by decide) ?_
          exact ih5 (j + 1) (by omega) (by omega) (by have h := i5_1; rw [show tn - j = (tn - (j + 1)) + 1 by omega, tbe, if_neg c23] at h; exact h) _ _ hP hD hS ls (lv_sub hl [2, 3, 1, 0] rfl)
  exact L5 (tn - 0 + 1) 0 (by omega) (by omega) (by rfl) _ _ hP hD hS ls (lv_sub hl [2, 3, 1, 0] rfl)

set_option maxHeartbeats 4000000 in
set_option maxRecDepth 100000 in
theorem c_Ta_withSequence {l : Launch} {dC : Nat → ClassId} {dI : Nat → Nat → Nat} {A : Nat → Prop} {a : Nat → Nat} {cB cI cL : ClassId} {h1 h2 s1 s2 : Nat} {op : Bool} {nx wt sf lf dn : Nat} {dg : Nat → Nat} {un : Nat} {ug : Nat → Nat} {qn : Nat} {qt qg : Nat → Nat} {tn : Nat} {tk tv : Nat → Int64} {ts : Nat → Nat} {ef eg ex : Nat} {eF : Nat → Nat} {pf pg px : Nat} {pF : Nat → Nat} (hn : tn ≤ 192) (hs : ∀ j, ts j < 2 ^ 31) (x : Nat) (hx1 : x < 2 ^ 31) : Met l yX3_withSequence (Cond.code yX3_withSequence cX3_withSequence 3 (some .int) :: TB) { frames := 0, cells := 0, slots := 0, locals := 0 } (xPre Nst (dC, dI) A (tyS cB cI cL) (wS a cB cI cL h1 h2 s1 s2 op nx wt sf lf dn dg un ug qn qt qg tn tk tv ts ef eg ex eF pf pg px pF) [.ref (a 9), .int (nI x)]) (xQi (dC, dI) A (oI (twi ts x tn 0)) (wS a cB cI cL h1 h2 s1 s2 op nx wt sf lf dn dg un ug qn qt qg tn tk tv ts ef eg ex eF pf pg px pF)) 0 0 A := by
  refine x_ofWi (cc := cX3_withSequence) (maxL := 3) (by decide) rfl (Nat.le_of_ble_eq_true rfl) ?_
  intro p e s m args below meth c Q hx hb hml hts hown hK hN hP hD hS hret ls hl
  have hl : lv_has ls 3 [(0, .ref (a 9)), (1, .int (nI x))] := hl
  have hown : s.vm.findClass RX3 = some m.cls := hown
  have f22 := hts _ (List.mem_cons_of_mem _ tw_169)
  have in_X3 := (fun q hq => List.mem_cons_of_mem _ (inX3 q hq) : ∀ q ∈ wsX30, q ∈ (Cond.code yX3_withSequence cX3_withSequence 3 (some .int) :: TB))
  have f18 := hts _ (List.mem_cons_of_mem _ tw_168)
  refine lv_iconst (v := nI 0) hx hb dX3_withSequence_0 (by decide) ?_
  refine lv_istore_n (lv' := [(2, .int (nI 0)), (0, .ref (a 9)), (1, .int (nI x))]) hx hb dX3_withSequence_1 rfl hl (by decide) rfl (fun ls hl => ?_)
  have L2 : ∀ (fu2 : Nat) (j : Nat), (tn - j < fu2) → (j ≤ tn) → (twi ts x (tn - j) j = twi ts x tn 0) → ∀ (H : Heap) (locs : List Loc), va_P (dC, dI) vwCl (wS a cB cI cL h1 h2 s1 s2 op nx wt sf lf dn dg un ug qn qt qg tn tk tv ts ef eg ex eF pf pg px pF) H → va_D A (wS a cB cI cL h1 h2 s1 s2 op nx wt sf lf dn dg un ug qn qt qg tn tk tv ts ef eg ex eF pf pg px pF) → va_S A s.heap H locs → ∀ (ls : Array Slot), lv_has ls 3 [(0, .ref (a 9)), (1, .int (nI x)), (2, .int (nI j))] → W p l e { frames := 0, cells := 0, slots := 0, locals := 0 } s m args below meth c H locs 0 0 Q (F0 m 2 ls []) := by
    intro fu2
    induction fu2 with
    | zero => intro j hm; exact absurd hm (Nat.not_lt_zero _)
    | succ fu2 ih2 =>
      intro j hm i2_0 i2_1 H locs hP hD hS ls hl
      have q1 := hs j
      refine lv_iload_n hx hb dX3_withSequence_2 rfl (lv_at hl 2 rfl) ?_
      refine lv_aload_n hx hb dX3_withSequence_3 rfl (lv_at hl 0 rfl) ?_
      refine va_get (D := (dC, dI)) (ci := 3) (v := .int (nI tn)) (C := RX3) (T := TX3) (N := 4) hx hb hts in_X3 hown hK hP 9 rfl rfl 3 (by decide) f22 (fun _ h9 => h9) rfl dX3_withSequence_4 ?_
      refine x_icmp_ge (tgt := 28) hx hb dX3_withSequence_7 (by decide) (by omega) (by omega) (fun c7 => ?_) (fun c7 => ?_)
      · refine lv_bipush (v := (-2)) hx hb dX3_withSequence_28 (by decide) ?_
        exact hret dX3_withSequence_30 (by have h := i2_1; rw [show tn - j = 0 by omega, twi] at h; rw [← h]; rfl) hP hD hS
      · refine lv_aload_n hx hb dX3_withSequence_10 rfl (lv_at hl 0 rfl) ?_
        refine va_get (D := (dC, dI)) (ci := 3) (v := .ref (a 12)) (C := RX3) (T := TX3) (N := 4) hx hb hts in_X3 hown hK hP 9 rfl rfl 2 (by decide) f18 (fun _ h9 => h9) rfl dX3_withSequence_11 ?_
        refine lv_iload_n hx hb dX3_withSequence_14 rfl (lv_at hl 2 rfl) ?_
        refine x_iald hx hb hK hP 12 1 rfl rfl (by omega) (by decide) dX3_withSequence_15 ?_
        refine lv_iload_n hx hb dX3_withSequence_16 rfl (lv_at hl 1 rfl) ?_
        refine x_icmp_ne (tgt := 22) hx hb dX3_withSequence_17 (by decide) (by omega) (by omega) (fun c17 => ?_) (fun c17 => ?_)
        · refine lv_iinc (v := nI (j + 1)) (lv' := [(2, .int (nI (j + 1))), (0, .ref (a 9)), (1, .int (nI x))]) hx hb dX3_withSequence_22 hl (k := 2) rfl (x_inc _) (by decide) rfl (fun ls hl => ?_)
          refine lv_goto (tgt := 2) hx hb dX3_withSequence_25 (by decide) ?_
          exact ih2 (j + 1) (by omega) (by omega) (by have h := i2_1; rw [show tn - j = (tn - (j + 1)) + 1 by omega, twi, if_neg c17] at h; exact h) _ _ hP hD hS ls (lv_sub hl [1, 2, 0] rfl)
        · refine lv_iload_n hx hb dX3_withSequence_20 rfl (lv_at hl 2 rfl) ?_
          exact hret dX3_withSequence_21 (by have h := i2_1; rw [show tn - j = (tn - (j + 1)) + 1 by omega, twi, if_pos c17] at h; rw [← h]; rfl) hP hD hS
  exact L2 (tn - 0 + 1) 0 (by omega) (by omega) (by rfl) _ _ hP hD hS ls (lv_sub hl [1, 2, 0] rfl)

set_option maxHeartbeats 4000000 in
set_option maxRecDepth 100000 in
theorem c_Ta_settle {l : Launch} {dC : Nat → ClassId} {dI : Nat → Nat → Nat} {A : Nat → Prop} {a : Nat → Nat} {cB cI cL : ClassId} {h1 h2 s1 s2 : Nat} {op : Bool} {nx wt sf lf dn : Nat} {dg : Nat → Nat} {un : Nat} {ug : Nat → Nat} {qn : Nat} {qt qg : Nat → Nat} {tn : Nat} {tk tv : Nat → Int64} {ts : Nat → Nat} {ef eg ex : Nat} {eF : Nat → Nat} {pf pg px : Nat} {pF : Nat → Nat} (hn : tn ≤ 192) : Met l yX3_settle (Cond.code yX3_settle cX3_settle 2 none :: TB) { frames := 0, cells := 0, slots := 0, locals := 0 } (xPre Nst (dC, dI) A (tyS cB cI cL) (wS a cB cI cL h1 h2 s1 s2 op nx wt sf lf dn dg un ug qn qt qg tn tk tv ts ef eg ex eF pf pg px pF) [.ref (a 9)]) (xQv (dC, dI) A (wS a cB cI cL h1 h2 s1 s2 op nx wt sf lf dn dg un ug qn qt qg tn tk tv (tset tn ts 0) ef eg ex eF pf pg px pF)) 0 0 A := by
  refine x_ofWv (cc := cX3_settle) (maxL := 2) (by decide) rfl (Nat.le_of_ble_eq_true rfl) ?_
  intro p e s m args below meth c Q hx hb hml hts hown hK hN hP hD hS hret ls hl
  have hl : lv_has ls 2 [(0, .ref (a 9))] := hl
  have hown : s.vm.findClass RX3 = some m.cls := hown
  have f22 := hts _ (List.mem_cons_of_mem _ tw_169)
  have in_X3 := (fun q hq => List.mem_cons_of_mem _ (inX3 q hq) : ∀ q ∈ wsX30, q ∈ (Cond.code yX3_settle cX3_settle 2 none :: TB))
  have f18 := hts _ (List.mem_cons_of_mem _ tw_168)
  refine lv_iconst (v := nI 0) hx hb dX3_settle_0 (by decide) ?_
  refine lv_istore_n (lv' := [(1, .int (nI 0)), (0, .ref (a 9))]) hx hb dX3_settle_1 rfl hl (by decide) rfl (fun ls hl => ?_)
  have L2 : ∀ (fu2 : Nat) (j : Nat) (t' : Nat → Nat), (tn - j < fu2) → (j ≤ tn) → (tset (tn - j) t' j = tset tn ts 0) → ∀ (H : Heap) (locs : List Loc), va_P (dC, dI) vwCl (wS a cB cI cL h1 h2 s1 s2 op nx wt sf lf dn dg un ug qn qt qg tn tk tv t' ef eg ex eF pf pg px pF) H → va_D A (wS a cB cI cL h1 h2 s1 s2 op nx wt sf lf dn dg un ug qn qt qg tn tk tv t' ef eg ex eF pf pg px pF) → va_S A s.heap H locs → ∀ (ls : Array Slot), lv_has ls 2 [(0, .ref (a 9)), (1, .int (nI j))] → W p l e { frames := 0, cells := 0, slots := 0, locals := 0 } s m args below meth c H locs 0 0 Q (F0 m 2 ls []) := by
    intro fu2
    induction fu2 with
    | zero => intro j t' hm; exact absurd hm (Nat.not_lt_zero _)
    | succ fu2 ih2 =>
      intro j t' hm i2_0 i2_1 H locs hP hD hS ls hl
      refine lv_iload_n hx hb dX3_settle_2 rfl (lv_at hl 1 rfl) ?_
      refine lv_aload_n hx hb dX3_settle_3 rfl (lv_at hl 0 rfl) ?_
      refine va_get (D := (dC, dI)) (ci := 3) (v := .int (nI tn)) (C := RX3) (T := TX3) (N := 4) hx hb hts in_X3 hown hK hP 9 rfl rfl 3 (by decide) f22 (fun _ h9 => h9) rfl dX3_settle_4 ?_
      refine x_icmp_ge (tgt := 23) hx hb dX3_settle_7 (by decide) (by omega) (by omega) (fun c7 => ?_) (fun c7 => ?_)
      · have e1 : t' = (tset tn ts 0) := by have h := i2_1; rw [show tn - j = 0 by omega] at h; exact h
        have h9 : wS a cB cI cL h1 h2 s1 s2 op nx wt sf lf dn dg un ug qn qt qg tn tk tv t' ef eg ex eF pf pg px pF = wS a cB cI cL h1 h2 s1 s2 op nx wt sf lf dn dg un ug qn qt qg tn tk tv (tset tn ts 0) ef eg ex eF pf pg px pF := by rw [← e1]
        have hP := x_wP h9 hP
        have hD := x_wD h9 hD
        exact hret dX3_settle_23 hP hD hS
      · refine lv_aload_n hx hb dX3_settle_10 rfl (lv_at hl 0 rfl) ?_
        refine va_get (D := (dC, dI)) (ci := 3) (v := .ref (a 12)) (C := RX3) (T := TX3) (N := 4) hx hb hts in_X3 hown hK hP 9 rfl rfl 2 (by decide) f18 (fun _ h9 => h9) rfl dX3_settle_11 ?_
        refine lv_iload_n hx hb dX3_settle_14 rfl (lv_at hl 1 rfl) ?_
        refine lv_iconst (v := nI 0) hx hb dX3_settle_15 (by decide) ?_
        refine x_iast hx hb hK hP hD hS 12 1 rfl rfl (by omega) (by decide) dX3_settle_16 (fun H locs hP hD hS => ?_)
        have hP : va_P (dC, dI) vwCl (wS a cB cI cL h1 h2 s1 s2 op nx wt sf lf dn dg un ug qn qt qg tn tk tv (va_up t' j 0) ef eg ex eF pf pg px pF) H := hP
        have hD : va_D A (wS a cB cI cL h1 h2 s1 s2 op nx wt sf lf dn dg un ug qn qt qg tn tk tv (va_up t' j 0) ef eg ex eF pf pg px pF) := hD
        refine lv_iinc (v := nI (j + 1)) (lv' := [(1, .int (nI (j + 1))), (0, .ref (a 9))]) hx hb dX3_settle_17 hl (k := 1) rfl (x_inc _) (by decide) rfl (fun ls hl => ?_)
        refine lv_goto (tgt := 2) hx hb dX3_settle_20 (by decide) ?_
        exact ih2 (j + 1) (va_up t' j 0) (by omega) (by omega) (by have h := i2_1; rw [show tn - j = (tn - (j + 1)) + 1 by omega, tset] at h; exact h) _ _ hP hD hS ls (lv_sub hl [1, 0] rfl)
  exact L2 (tn - 0 + 1) 0 ts (by omega) (by omega) (by rfl) _ _ hP hD hS ls (lv_sub hl [1, 0] rfl)

set_option maxHeartbeats 4000000 in
set_option maxRecDepth 100000 in
theorem c_Ta_insert {l : Launch} {dC : Nat → ClassId} {dI : Nat → Nat → Nat} {A : Nat → Prop} {a : Nat → Nat} {cB cI cL : ClassId} {h1 h2 s1 s2 : Nat} {op : Bool} {nx wt sf lf dn : Nat} {dg : Nat → Nat} {un : Nat} {ug : Nat → Nat} {qn : Nat} {qt qg : Nat → Nat} {tn : Nat} {tk tv : Nat → Int64} {ts : Nat → Nat} {ef eg ex : Nat} {eF : Nat → Nat} {pf pg px : Nat} {pF : Nat → Nat} (hn : tn ≤ 192) (hs : ∀ j, ts j < 2 ^ 31) (k v : Int64) (q : Nat) (hq1 : q < 2 ^ 31) : Met l yX3_insert (Cond.code yX3_insert cX3_insert 8 none :: TB) { frames := 1, cells := 0, slots := 0, locals := 24 } (xPre Nst (dC, dI) A (tyS cB cI cL) (wS a cB cI cL h1 h2 s1 s2 op nx wt sf lf dn dg un ug qn qt qg tn tk tv ts ef eg ex eF pf pg px pF) [.ref (a 9), .long (k), .long (v), .int (nI q)]) (xQv (dC, dI) A (wS a cB cI cL h1 h2 s1 s2 op nx wt sf lf dn dg un ug qn qt qg ((tI (tn, tk, tv, ts) k v q).1) ((tI (tn, tk, tv, ts) k v q).2.1) ((tI (tn, tk, tv, ts) k v q).2.2.1) ((tI (tn, tk, tv, ts) k v q).2.2.2) ef eg ex eF pf pg px pF)) 0 0 A := by
  refine x_ofWv (cc := cX3_insert) (maxL := 8) (by decide) rfl (Nat.le_of_ble_eq_true rfl) ?_
  intro p e s m args below meth c Q hx hb hml hts hown hK hN hP hD hS hret ls hl
  have hl : lv_has ls 8 [(0, .ref (a 9)), (1, .long (k)), (3, .long (v)), (5, .int (nI q))] := hl
  have hown : s.vm.findClass RX3 = some m.cls := hown
  have f22 := hts _ (List.mem_cons_of_mem _ tw_169)
  have in_X3 := (fun q hq => List.mem_cons_of_mem _ (inX3 q hq) : ∀ q ∈ wsX30, q ∈ (Cond.code yX3_insert cX3_insert 8 none :: TB))
  have f9 := hts _ (List.mem_cons_of_mem _ tw_166)
  have f15 := hts _ (List.mem_cons_of_mem _ tw_167)
  have f18 := hts _ (List.mem_cons_of_mem _ tw_168)
  refine lv_aload_n hx hb dX3_insert_0 rfl (lv_at hl 0 rfl) ?_
  refine va_get (D := (dC, dI)) (ci := 3) (v := .int (nI tn)) (C := RX3) (T := TX3) (N := 4) hx hb hts in_X3 hown hK hP 9 rfl rfl 3 (by decide) f22 (fun _ h9 => h9) rfl dX3_insert_1 ?_
  refine lv_sipush (v := nI 192) hx hb dX3_insert_4 (by decide) ?_
  refine x_icmp_lt (tgt := 11) hx hb dX3_insert_7 (by decide) (by omega) (by omega) (fun c7 => ?_) (fun c7 => ?_)
  · refine lv_aload_n hx hb dX3_insert_11 rfl (lv_at hl 0 rfl) ?_
    refine lv_lload_n hx hb dX3_insert_12 rfl (lv_at hl 1 rfl) ?_
    refine x_calli (va_runV (As := [.long (k)]) (rest := []) ⟨hx, hb, hml, hown, hts⟩ (c_Ta_upTo (by omega) k) (cwV 1 hts (tbV tw_291 tw_293 tw_13 tw_89 tw_294) rfl rfl rfl (by decide +kernel) ⟨Nat.le_of_ble_eq_true rfl, Nat.le_of_ble_eq_true rfl⟩) ⟨x_blind, va_recv hK hP (ci := 3) (q0 := 9) rfl rfl, x_pre hK hP hD hN⟩ rfl rfl hl.1 rfl (lv_room (Nat.le_of_ble_eq_true rfl)) dX3_insert_13 ⟨Nat.zero_le _, Nat.zero_le _⟩) hS (fun H locs hP hD hS => ?_)
    have hP : va_P (dC, dI) vwCl (wS a cB cI cL h1 h2 s1 s2 op nx wt sf lf dn dg un ug qn qt qg tn tk tv ts ef eg ex eF pf pg px pF) H := hP
    have hD : va_D A (wS a cB cI cL h1 h2 s1 s2 op nx wt sf lf dn dg un ug qn qt qg tn tk tv ts ef eg ex eF pf pg px pF) := hD
    have hv13 := tup_le tk k tn 0
    refine lv_istore (lv' := [(6, .int (nI (tup tk k tn 0))), (0, .ref (a 9)), (1, .long (k)), (3, .long (v)), (5, .int (nI q))]) hx hb dX3_insert_16 hl (by decide) rfl (fun ls hl => ?_)
    refine lv_aload_n hx hb dX3_insert_18 rfl (lv_at hl 1 rfl) ?_
    refine va_get (D := (dC, dI)) (ci := 3) (v := .int (nI tn)) (C := RX3) (T := TX3) (N := 4) hx hb hts in_X3 hown hK hP 9 rfl rfl 3 (by decide) f22 (fun _ h9 => h9) rfl dX3_insert_19 ?_
    refine lv_istore (lv' := [(7, .int (nI tn)), (6, .int (nI (tup tk k tn 0))), (0, .ref (a 9)), (1, .long (k)), (3, .long (v)), (5, .int (nI q))]) hx hb dX3_insert_22 hl (by decide) rfl (fun ls hl => ?_)
    have L24 : ∀ (fu24 : Nat) (i : Nat) (k' : Nat → Int64) (v' : Nat → Int64) (t' : Nat → Nat), (i < fu24) → (tup tk k tn 0 ≤ i) → (i ≤ tn) → (shf (i - tup tk k tn 0) k' i = shf (tn - tup tk k tn 0) tk tn) → (shf (i - tup tk k tn 0) v' i = shf (tn - tup tk k tn 0) tv tn) → (shf (i - tup tk k tn 0) t' i = shf (tn - tup tk k tn 0) ts tn) → ∀ (H : Heap) (locs : List Loc), va_P (dC, dI) vwCl (wS a cB cI cL h1 h2 s1 s2 op nx wt sf lf dn dg un ug qn qt qg tn k' v' t' ef eg ex eF pf pg px pF) H → va_D A (wS a cB cI cL h1 h2 s1 s2 op nx wt sf lf dn dg un ug qn qt qg tn k' v' t' ef eg ex eF pf pg px pF) → va_S A s.heap H locs → ∀ (ls : Array Slot), lv_has ls 8 [(0, .ref (a 9)), (1, .long (k)), (3, .long (v)), (5, .int (nI q)), (6, .int (nI (tup tk k tn 0))), (7, .int (nI i))] → W p l e { frames := 1, cells := 0, slots := 0, locals := 24 } s m args below meth c H locs 0 0 Q (F0 m 24 ls []) := by
      intro fu24
      induction fu24 with
      | zero => intro i k' v' t' hm; exact absurd hm (Nat.not_lt_zero _)
      | succ fu24 ih24 =>
        intro i k' v' t' hm i24_0 i24_1 i24_2 i24_3 i24_4 H locs hP hD hS ls hl
        refine lv_iload hx hb dX3_insert_24 (lv_at hl 5 rfl) ?_
        refine lv_iload hx hb dX3_insert_26 (lv_at hl 4 rfl) ?_
        refine x_icmp_le (tgt := 85) hx hb dX3_insert_28 (by decide) (by omega) (by omega) (fun c28 => ?_) (fun c28 => ?_)
        · have ei : i = tup tk k tn 0 := by omega
          have z2 := i24_2
          rw [show i - tup tk k tn 0 = 0 by omega] at z2
          simp only [shf] at z2
          have z3 := i24_3
          rw [show i - tup tk k tn 0 = 0 by omega] at z3
          simp only [shf] at z3
          have z4 := i24_4
          rw [show i - tup tk k tn 0 = 0 by omega] at z4
          simp only [shf] at z4
          have zz : tI (tn, tk, tv, ts) k v q = (tn + 1, tpl (tup tk k tn 0) tn tk k, tpl (tup tk k tn 0) tn tv v, tpl (tup tk k tn 0) tn ts q) := by rw [tI, if_pos (by show tn < 192; omega)]
          refine lv_aload_n hx hb dX3_insert_85 rfl (lv_at hl 0 rfl) ?_
          refine va_get (D := (dC, dI)) (ci := 3) (v := .ref (a 10)) (C := RX3) (T := TX3) (N := 4) hx hb hts in_X3 hown hK hP 9 rfl rfl 0 (by decide) f9 (fun _ h9 => h9) rfl dX3_insert_86 ?_
          refine lv_iload hx hb dX3_insert_89 (lv_at hl 4 rfl) ?_
          refine lv_lload_n hx hb dX3_insert_91 rfl (lv_at hl 1 rfl) ?_
          refine x_last hx hb hK hP hD hS 10 2 rfl rfl (by omega) (by decide) dX3_insert_92 (fun H locs hP hD hS => ?_)
          have hP : va_P (dC, dI) vwCl (wS a cB cI cL h1 h2 s1 s2 op nx wt sf lf dn dg un ug qn qt qg tn (va_up k' (tup tk k tn 0) k) v' t' ef eg ex eF pf pg px pF) H := hP
          have hD : va_D A (wS a cB cI cL h1 h2 s1 s2 op nx wt sf lf dn dg un ug qn qt qg tn (va_up k' (tup tk k tn 0) k) v' t' ef eg ex eF pf pg px pF) := hD
          refine lv_aload_n hx hb dX3_insert_93 rfl (lv_at hl 0 rfl) ?_
          refine va_get (D := (dC, dI)) (ci := 3) (v := .ref (a 11)) (C := RX3) (T := TX3) (N := 4) hx hb hts in_X3 hown hK hP 9 rfl rfl 1 (by decide) f15 (fun _ h9 => h9) rfl dX3_insert_94 ?_
          refine lv_iload hx hb dX3_insert_97 (lv_at hl 4 rfl) ?_
          refine lv_lload_n hx hb dX3_insert_99 rfl (lv_at hl 2 rfl) ?_
          refine x_last hx hb hK hP hD hS 11 2 rfl rfl (by omega) (by decide) dX3_insert_100 (fun H locs hP hD hS => ?_)
          have hP : va_P (dC, dI) vwCl (wS a cB cI cL h1 h2 s1 s2 op nx wt sf lf dn dg un ug qn qt qg tn (va_up k' (tup tk k tn 0) k) (va_up v' (tup tk k tn 0) v) t' ef eg ex eF pf pg px pF) H := hP
          have hD : va_D A (wS a cB cI cL h1 h2 s1 s2 op nx wt sf lf dn dg un ug qn qt qg tn (va_up k' (tup tk k tn 0) k) (va_up v' (tup tk k tn 0) v) t' ef eg ex eF pf pg px pF) := hD
          refine lv_aload_n hx hb dX3_insert_101 rfl (lv_at hl 0 rfl) ?_
          refine va_get (D := (dC, dI)) (ci := 3) (v := .ref (a 12)) (C := RX3) (T := TX3) (N := 4) hx hb hts in_X3 hown hK hP 9 rfl rfl 2 (by decide) f18 (fun _ h9 => h9) rfl dX3_insert_102 ?_
          refine lv_iload hx hb dX3_insert_105 (lv_at hl 4 rfl) ?_
          refine lv_iload hx hb dX3_insert_107 (lv_at hl 3 rfl) ?_
          refine x_iast hx hb hK hP hD hS 12 1 rfl rfl (by omega) (by decide) dX3_insert_109 (fun H locs hP hD hS => ?_)
          have hP : va_P (dC, dI) vwCl (wS a cB cI cL h1 h2 s1 s2 op nx wt sf lf dn dg un ug qn qt qg tn (va_up k' (tup tk k tn 0) k) (va_up v' (tup tk k tn 0) v) (va_up t' (tup tk k tn 0) q) ef eg ex eF pf pg px pF) H := hP
          have hD : va_D A (wS a cB cI cL h1 h2 s1 s2 op nx wt sf lf dn dg un ug qn qt qg tn (va_up k' (tup tk k tn 0) k) (va_up v' (tup tk k tn 0) v) (va_up t' (tup tk k tn 0) q) ef eg ex eF pf pg px pF) := hD
          refine lv_aload_n hx hb dX3_insert_110 rfl (lv_at hl 0 rfl) ?_
          refine lv_dup hx hb dX3_insert_111 rfl ?_
          refine va_get (D := (dC, dI)) (ci := 3) (v := .int (nI tn)) (C := RX3) (T := TX3) (N := 4) hx hb hts in_X3 hown hK hP 9 rfl rfl 3 (by decide) f22 (fun _ h9 => h9) rfl dX3_insert_112 ?_
          refine lv_iconst (v := nI 1) hx hb dX3_insert_115 (by decide) ?_
          refine x_iadd hx hb dX3_insert_116 ?_
          refine va_put (D := (dC, dI)) (ci := 3) (v := .int (nI (tn + 1))) (ty := .int) (C := RX3) (T := TX3) (N := 4) hx hb hts in_X3 tyX3 tyX3_ok nmX3 hown hK hP hD hS 9 rfl rfl 3 (by decide) f22 (fun _ h9 => h9) rfl (by decide +kernel) rfl rfl (Nat.le_of_ble_eq_true rfl) dX3_insert_117 (fun H locs hP hD hS => ?_)
          have hP : va_P (dC, dI) vwCl (wS a cB cI cL h1 h2 s1 s2 op nx wt sf lf dn dg un ug qn qt qg (tn + 1) (va_up k' (tup tk k tn 0) k) (va_up v' (tup tk k tn 0) v) (va_up t' (tup tk k tn 0) q) ef eg ex eF pf pg px pF) H := hP
          have hD : va_D A (wS a cB cI cL h1 h2 s1 s2 op nx wt sf lf dn dg un ug qn qt qg (tn + 1) (va_up k' (tup tk k tn 0) k) (va_up v' (tup tk k tn 0) v) (va_up t' (tup tk k tn 0) q) ef eg ex eF pf pg px pF) := hD
          have e1 : (tn + 1) = ((tI (tn, tk, tv, ts) k v q).1) := by rw [zz]
          have h9 : wS a cB cI cL h1 h2 s1 s2 op nx wt sf lf dn dg un ug qn qt qg (tn + 1) (va_up k' (tup tk k tn 0) k) (va_up v' (tup tk k tn 0) v) (va_up t' (tup tk k tn 0) q) ef eg ex eF pf pg px pF = wS a cB cI cL h1 h2 s1 s2 op nx wt sf lf dn dg un ug qn qt qg ((tI (tn, tk, tv, ts) k v q).1) (va_up k' (tup tk k tn 0) k) (va_up v' (tup tk k tn 0) v) (va_up t' (tup tk k tn 0) q) ef eg ex eF pf pg px pF := by rw [← e1]
          have hP := x_wP h9 hP
          have hD := x_wD h9 hD
          have e2 : (va_up k' (tup tk k tn 0) k) = ((tI (tn, tk, tv, ts) k v q).2.1) := by first | (rw [zz]; done) | (rw [zz]; rfl) | (rw [zz, z2]; rfl)
          have h9 : wS a cB cI cL h1 h2 s1 s2 op nx wt sf lf dn dg un ug qn qt qg ((tI (tn, tk, tv, ts) k v q).1) (va_up k' (tup tk k tn 0) k) (va_up v' (tup tk k tn 0) v) (va_up t' (tup tk k tn 0) q) ef eg ex eF pf pg px pF = wS a cB cI cL h1 h2 s1 s2 op nx wt sf lf dn dg un ug qn qt qg ((tI (tn, tk, tv, ts) k v q).1) ((tI (tn, tk, tv, ts) k v q).2.1) (va_up v' (tup tk k tn 0) v) (va_up t' (tup tk k tn 0) q) ef eg ex eF pf pg px pF := by rw [← e2]
          have hP := x_wP h9 hP
          have hD := x_wD h9 hD
          have e3 : (va_up v' (tup tk k tn 0) v) = ((tI (tn, tk, tv, ts) k v q).2.2.1) := by first | (rw [zz]; done) | (rw [zz]; rfl) | (rw [zz, z3]; rfl)
          have h9 : wS a cB cI cL h1 h2 s1 s2 op nx wt sf lf dn dg un ug qn qt qg ((tI (tn, tk, tv, ts) k v q).1) ((tI (tn, tk, tv, ts) k v q).2.1) (va_up v' (tup tk k tn 0) v) (va_up t' (tup tk k tn 0) q) ef eg ex eF pf pg px pF = wS a cB cI cL h1 h2 s1 s2 op nx wt sf lf dn dg un ug qn qt qg ((tI (tn, tk, tv, ts) k v q).1) ((tI (tn, tk, tv, ts) k v q).2.1) ((tI (tn, tk, tv, ts) k v q).2.2.1) (va_up t' (tup tk k tn 0) q) ef eg ex eF pf pg px pF := by rw [← e3]
          have hP := x_wP h9 hP
          have hD := x_wD h9 hD
          have e4 : (va_up t' (tup tk k tn 0) q) = ((tI (tn, tk, tv, ts) k v q).2.2.2) := by first | (rw [zz]; done) | (rw [zz]; rfl) | (rw [zz, z4]; rfl)
          have h9 : wS a cB cI cL h1 h2 s1 s2 op nx wt sf lf dn dg un ug qn qt qg ((tI (tn, tk, tv, ts) k v q).1) ((tI (tn, tk, tv, ts) k v q).2.1) ((tI (tn, tk, tv, ts) k v q).2.2.1) (va_up t' (tup tk k tn 0) q) ef eg ex eF pf pg px pF = wS a cB cI cL h1 h2 s1 s2 op nx wt sf lf dn dg un ug qn qt qg ((tI (tn, tk, tv, ts) k v q).1) ((tI (tn, tk, tv, ts) k v q).2.1) ((tI (tn, tk, tv, ts) k v q).2.2.1) ((tI (tn, tk, tv, ts) k v q).2.2.2) ef eg ex eF pf pg px pF := by rw [← e4]
          have hP := x_wP h9 hP
          have hD := x_wD h9 hD
          exact hret dX3_insert_120 hP hD hS
        · refine lv_aload_n hx hb dX3_insert_31 rfl (lv_at hl 0 rfl) ?_
          refine va_get (D := (dC, dI)) (ci := 3) (v := .ref (a 10)) (C := RX3) (T := TX3) (N := 4) hx hb hts in_X3 hown hK hP 9 rfl rfl 0 (by decide) f9 (fun _ h9 => h9) rfl dX3_insert_32 ?_
          refine lv_iload hx hb dX3_insert_35 (lv_at hl 5 rfl) ?_
          refine lv_aload_n hx hb dX3_insert_37 rfl (lv_at hl 0 rfl) ?_
          refine va_get (D := (dC, dI)) (ci := 3) (v := .ref (a 10)) (C := RX3) (T := TX3) (N := 4) hx hb hts in_X3 hown hK hP 9 rfl rfl 0 (by decide) f9 (fun _ h9 => h9) rfl dX3_insert_38 ?_
          refine lv_iload hx hb dX3_insert_41 (lv_at hl 5 rfl) ?_
          refine lv_iconst (v := nI 1) hx hb dX3_insert_43 (by decide) ?_
          refine x_isub hx hb dX3_insert_44 (by omega) ?_
          refine x_lald hx hb hK hP 10 2 rfl rfl (by omega) (by decide) dX3_insert_45 ?_
          refine x_last hx hb hK hP hD hS 10 2 rfl rfl (by omega) (by decide) dX3_insert_46 (fun H locs hP hD hS => ?_)
          have hP : va_P (dC, dI) vwCl (wS a cB cI cL h1 h2 s1 s2 op nx wt sf lf dn dg un ug qn qt qg tn (va_up k' i (k' (i - 1))) v' t' ef eg ex eF pf pg px pF) H := hP
          have hD : va_D A (wS a cB cI cL h1 h2 s1 s2 op nx wt sf lf dn dg un ug qn qt qg tn (va_up k' i (k' (i - 1))) v' t' ef eg ex eF pf pg px pF) := hD
          refine lv_aload_n hx hb dX3_insert_47 rfl (lv_at hl 0 rfl) ?_
          refine va_get (D := (dC, dI)) (ci := 3) (v := .ref (a 11)) (C := RX3) (T := TX3) (N := 4) hx hb hts in_X3 hown hK hP 9 rfl rfl 1 (by decide) f15 (fun _ h9 => h9) rfl dX3_insert_48 ?_
          refine lv_iload hx hb dX3_insert_51 (lv_at hl 5 rfl) ?_
          refine lv_aload_n hx hb dX3_insert_53 rfl (lv_at hl 0 rfl) ?_
          refine va_get (D := (dC, dI)) (ci := 3) (v := .ref (a 11)) (C := RX3) (T := TX3) (N := 4) hx hb hts in_X3 hown hK hP 9 rfl rfl 1 (by decide) f15 (fun _ h9 => h9) rfl dX3_insert_54 ?_
          refine lv_iload hx hb dX3_insert_57 (lv_at hl 5 rfl) ?_
          refine lv_iconst (v := nI 1) hx hb dX3_insert_59 (by decide) ?_
          refine x_isub hx hb dX3_insert_60 (by omega) ?_
          refine x_lald hx hb hK hP 11 2 rfl rfl (by omega) (by decide) dX3_insert_61 ?_
          refine x_last hx hb hK hP hD hS 11 2 rfl rfl (by omega) (by decide) dX3_insert_62 (fun H locs hP hD hS => ?_)
          have hP : va_P (dC, dI) vwCl (wS a cB cI cL h1 h2 s1 s2 op nx wt sf lf dn dg un ug qn qt qg tn (va_up k' i (k' (i - 1))) (va_up v' i (v' (i - 1))) t' ef eg ex eF pf pg px pF) H := hP
          have hD : va_D A (wS a cB cI cL h1 h2 s1 s2 op nx wt sf lf dn dg un ug qn qt qg tn (va_up k' i (k' (i - 1))) (va_up v' i (v' (i - 1))) t' ef eg ex eF pf pg px pF) := hD
          refine lv_aload_n hx hb dX3_insert_63 rfl (lv_at hl 0 rfl) ?_
          refine va_get (D := (dC, dI)) (ci := 3) (v := .ref (a 12)) (C := RX3) (T := TX3) (N := 4) hx hb hts in_X3 hown hK hP 9 rfl rfl 2 (by decide) f18 (fun _ h9 => h9) rfl dX3_insert_64 ?_
          refine lv_iload hx hb dX3_insert_67 (lv_at hl 5 rfl) ?_
          refine lv_aload_n hx hb dX3_insert_69 rfl (lv_at hl 0 rfl) ?_
          refine va_get (D := (dC, dI)) (ci := 3) (v := .ref (a 12)) (C := RX3) (T := TX3) (N := 4) hx hb hts in_X3 hown hK hP 9 rfl rfl 2 (by decide) f18 (fun _ h9 => h9) rfl dX3_insert_70 ?_
          refine lv_iload hx hb dX3_insert_73 (lv_at hl 5 rfl) ?_
          refine lv_iconst (v := nI 1) hx hb dX3_insert_75 (by decide) ?_
          refine x_isub hx hb dX3_insert_76 (by omega) ?_
          refine x_iald hx hb hK hP 12 1 rfl rfl (by omega) (by decide) dX3_insert_77 ?_
          refine x_iast hx hb hK hP hD hS 12 1 rfl rfl (by omega) (by decide) dX3_insert_78 (fun H locs hP hD hS => ?_)
          have hP : va_P (dC, dI) vwCl (wS a cB cI cL h1 h2 s1 s2 op nx wt sf lf dn dg un ug qn qt qg tn (va_up k' i (k' (i - 1))) (va_up v' i (v' (i - 1))) (va_up t' i (t' (i - 1))) ef eg ex eF pf pg px pF) H := hP
          have hD : va_D A (wS a cB cI cL h1 h2 s1 s2 op nx wt sf lf dn dg un ug qn qt qg tn (va_up k' i (k' (i - 1))) (va_up v' i (v' (i - 1))) (va_up t' i (t' (i - 1))) ef eg ex eF pf pg px pF) := hD
          refine lv_iinc (v := nI (i - 1)) (lv' := [(7, .int (nI (i - 1))), (0, .ref (a 9)), (1, .long (k)), (3, .long (v)), (5, .int (nI q)), (6, .int (nI (tup tk k tn 0)))]) hx hb dX3_insert_79 hl (k := 5) rfl (x_decr (by omega)) (by decide) rfl (fun ls hl => ?_)
          refine lv_goto (tgt := 24) hx hb dX3_insert_82 (by decide) ?_
          exact ih24 (i - 1) (va_up k' i (k' (i - 1))) (va_up v' i (v' (i - 1))) (va_up t' i (t' (i - 1))) (by omega) (by omega) (by omega) (by have h := i24_2; rw [show i - tup tk k tn 0 = (i - 1 - tup tk k tn 0) + 1 by omega, shf] at h; exact h) (by have h := i24_3; rw [show i - tup tk k tn 0 = (i - 1 - tup tk k tn 0) + 1 by omega, shf] at h; exact h) (by have h := i24_4; rw [show i - tup tk k tn 0 = (i - 1 - tup tk k tn 0) + 1 by omega, shf] at h; exact h) _ _ hP hD hS ls (lv_sub hl [1, 2, 3, 4, 5, 0] rfl)
    exact L24 (tn + 1) tn tk tv ts (by omega) (by omega) (by omega) (by rfl) (by rfl) (by rfl) _ _ hP hD hS ls (lv_sub hl [2, 3, 4, 5, 1, 0] rfl)
  · have zz : tI (tn, tk, tv, ts) k v q = (tn, tk, tv, ts) := by rw [tI, if_neg (by show ¬ tn < 192; omega)]
    have e5 : tn = ((tI (tn, tk, tv, ts) k v q).1) := by rw [zz]
    have h9 : wS a cB cI cL h1 h2 s1 s2 op nx wt sf lf dn dg un ug qn qt qg tn tk tv ts ef eg ex eF pf pg px pF = wS a cB cI cL h1 h2 s1 s2 op nx wt sf lf dn dg un ug qn qt qg ((tI (tn, tk, tv, ts) k v q).1) tk tv ts ef eg ex eF pf pg px pF := by rw [← e5]
    have hP := x_wP h9 hP
    have hD := x_wD h9 hD
    have e6 : tk = ((tI (tn, tk, tv, ts) k v q).2.1) := by first | (rw [zz]; done) | (rw [zz]; rfl) | (rw [zz, z2]; rfl)
    have h9 : wS a cB cI cL h1 h2 s1 s2 op nx wt sf lf dn dg un ug qn qt qg ((tI (tn, tk, tv, ts) k v q).1) tk tv ts ef eg ex eF pf pg px pF = wS a cB cI cL h1 h2 s1 s2 op nx wt sf lf dn dg un ug qn qt qg ((tI (tn, tk, tv, ts) k v q).1) ((tI (tn, tk, tv, ts) k v q).2.1) tv ts ef eg ex eF pf pg px pF := by rw [← e6]
    have hP := x_wP h9 hP
    have hD := x_wD h9 hD
    have e7 : tv = ((tI (tn, tk, tv, ts) k v q).2.2.1) := by first | (rw [zz]; done) | (rw [zz]; rfl) | (rw [zz, z3]; rfl)
    have h9 : wS a cB cI cL h1 h2 s1 s2 op nx wt sf lf dn dg un ug qn qt qg ((tI (tn, tk, tv, ts) k v q).1) ((tI (tn, tk, tv, ts) k v q).2.1) tv ts ef eg ex eF pf pg px pF = wS a cB cI cL h1 h2 s1 s2 op nx wt sf lf dn dg un ug qn qt qg ((tI (tn, tk, tv, ts) k v q).1) ((tI (tn, tk, tv, ts) k v q).2.1) ((tI (tn, tk, tv, ts) k v q).2.2.1) ts ef eg ex eF pf pg px pF := by rw [← e7]
    have hP := x_wP h9 hP
    have hD := x_wD h9 hD
    have e8 : ts = ((tI (tn, tk, tv, ts) k v q).2.2.2) := by first | (rw [zz]; done) | (rw [zz]; rfl) | (rw [zz, z4]; rfl)
    have h9 : wS a cB cI cL h1 h2 s1 s2 op nx wt sf lf dn dg un ug qn qt qg ((tI (tn, tk, tv, ts) k v q).1) ((tI (tn, tk, tv, ts) k v q).2.1) ((tI (tn, tk, tv, ts) k v q).2.2.1) ts ef eg ex eF pf pg px pF = wS a cB cI cL h1 h2 s1 s2 op nx wt sf lf dn dg un ug qn qt qg ((tI (tn, tk, tv, ts) k v q).1) ((tI (tn, tk, tv, ts) k v q).2.1) ((tI (tn, tk, tv, ts) k v q).2.2.1) ((tI (tn, tk, tv, ts) k v q).2.2.2) ef eg ex eF pf pg px pF := by rw [← e8]
    have hP := x_wP h9 hP
    have hD := x_wD h9 hD
    exact hret dX3_insert_10 hP hD hS
