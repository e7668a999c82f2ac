set_option maxHeartbeats 4000000 in
set_option maxRecDepth 100000 in
theorem c_SL_placeOf {l : Launch} {dC : Nat → ClassId} {dI : Nat → Nat → Nat} {A : Nat → Prop} {a : Nat → Nat} {cB cI cL : ClassId} {h1 h2 s1 s2 : Nat} {op : Bool} {nx wt sf lf dn : Nat} {dg : Nat → Nat} {un : Nat} {ug : Nat → Nat} {qn : Nat} {qt qg : Nat → Nat} {tn : Nat} {tk tv : Nat → Int64} {ts : Nat → Nat} {ef eg ex : Nat} {eF : Nat → Nat} {pf pg px : Nat} {pF : Nat → Nat} (hnx : nx < 2 ^ 30) (hwt : wt ≤ nx) (q : Nat) (hq1 : q < 2 ^ 31) : Met l yX5_placeOf (Cond.code yX5_placeOf cX5_placeOf 2 (some .int) :: TB) { frames := 0, cells := 0, slots := 0, locals := 0 } (xPre Nst (dC, dI) A (tyS cB cI cL) (wS a cB cI cL h1 h2 s1 s2 op nx wt sf lf dn dg un ug qn qt qg tn tk tv ts ef eg ex eF pf pg px pF) [.ref (a 0), .int (nI q)]) (xQi (dC, dI) A (nI (plc nx wt q)) (wS a cB cI cL h1 h2 s1 s2 op nx wt sf lf dn dg un ug qn qt qg tn tk tv ts ef eg ex eF pf pg px pF)) 0 0 A := by
  refine x_ofWi (cc := cX5_placeOf) (maxL := 2) (by decide) rfl (Nat.le_of_ble_eq_true rfl) ?_
  intro p e s m args below meth c Q hx hb hml hts hown hK hN hP hD hS hret ls hl
  have hl : lv_has ls 2 [(0, .ref (a 0)), (1, .int (nI q))] := hl
  have hown : s.vm.findClass RX5 = some m.cls := hown
  have f53 := hts _ (List.mem_cons_of_mem _ tw_214)
  have in_X5 := (fun q hq => List.mem_cons_of_mem _ (inX5 q hq) : ∀ q ∈ wsX50, q ∈ (Cond.code yX5_placeOf cX5_placeOf 2 (some .int) :: TB))
  have f66 := hts _ (List.mem_cons_of_mem _ tw_215)
  refine lv_iload_n hx hb dX5_placeOf_0 rfl (lv_at hl 1 rfl) ?_
  refine x_if_ne (tgt := 6) hx hb dX5_placeOf_1 (by decide) (by omega) (fun c1 => ?_) (fun c1 => ?_)
  · refine lv_iload_n hx hb dX5_placeOf_6 rfl (lv_at hl 1 rfl) ?_
    refine lv_aload_n hx hb dX5_placeOf_7 rfl (lv_at hl 0 rfl) ?_
    refine va_get (D := (dC, dI)) (ci := 5) (v := .int (nI nx)) (C := RX5) (T := TX5) (N := 11) hx hb hts in_X5 hown hK hP 0 rfl rfl 7 (by decide) f53 (fun _ h9 => h9) rfl dX5_placeOf_8 ?_
    refine lv_aload_n hx hb dX5_placeOf_11 rfl (lv_at hl 0 rfl) ?_
    refine va_get (D := (dC, dI)) (ci := 5) (v := .int (nI wt)) (C := RX5) (T := TX5) (N := 11) hx hb hts in_X5 hown hK hP 0 rfl rfl 8 (by decide) f66 (fun _ h9 => h9) rfl dX5_placeOf_12 ?_
    refine x_isub hx hb dX5_placeOf_15 (by omega) ?_
    refine x_icmp_ge (tgt := 23) hx hb dX5_placeOf_16 (by decide) (by omega) (by omega) (fun c16 => ?_) (fun c16 => ?_)
    · refine lv_iconst (v := nI 2) hx hb dX5_placeOf_23 (by decide) ?_
      exact hret dX5_placeOf_24 (by first | rw [plc, if_neg c1, if_pos c16] | rw [plc, if_neg c1, if_neg (Nat.not_lt.mpr c16)]) hP hD hS
    · refine lv_iconst (v := nI 1) hx hb dX5_placeOf_19 (by decide) ?_
      refine lv_goto (tgt := 24) hx hb dX5_placeOf_20 (by decide) ?_
      exact hret dX5_placeOf_24 (by first | rw [plc, if_neg c1, if_pos c16] | rw [plc, if_neg c1, if_neg (Nat.not_lt.mpr c16)]) hP hD hS
  · refine lv_iconst (v := nI 0) hx hb dX5_placeOf_4 (by decide) ?_
    exact hret dX5_placeOf_5 (by rw [plc, if_pos c1]) hP hD hS

set_option maxHeartbeats 4000000 in
set_option maxRecDepth 100000 in
theorem c_SL_shouldBeWhole {l : Launch} {dC : Nat → ClassId} {dI : Nat → Nat → Nat} {A : Nat → Prop} {a : Nat → Nat} {cB cI cL : ClassId} {h1 h2 s1 s2 : Nat} {op : Bool} {nx wt sf lf dn : Nat} {dg : Nat → Nat} {un : Nat} {ug : Nat → Nat} {qn : Nat} {qt qg : Nat → Nat} {tn : Nat} {tk tv : Nat → Int64} {ts : Nat → Nat} {ef eg ex : Nat} {eF : Nat → Nat} {pf pg px : Nat} {pF : Nat → Nat} (hun : un ≤ 64) (hqn : qn ≤ 64) (hug : ∀ j, ug j < 8) (hqt : ∀ j, qt j < 64) (heg : eg < 2 ^ 30) (b : Nat) (hb1 : b < 2 ^ 31) : Met l yX5_shouldBeWhole (Cond.code yX5_shouldBeWhole cX5_shouldBeWhole 2 (some .boolean) :: TB) { frames := 2, cells := 0, slots := 0, locals := 43 } (xPre Nst (dC, dI) A (tyS cB cI cL) (wS a cB cI cL h1 h2 s1 s2 op nx wt sf lf dn dg un ug qn qt qg tn tk tv ts ef eg ex eF pf pg px pF) [.ref (a 0), .int (nI b)]) (xQi (dC, dI) A (bI (sbw un ug qt qn eg b)) (wS a cB cI cL h1 h2 s1 s2 op nx wt sf lf dn dg un ug qn qt qg tn tk tv ts ef eg ex eF pf pg px pF)) 0 0 A := by
  refine x_ofWz (cc := cX5_shouldBeWhole) (maxL := 2) (by decide) rfl (Nat.le_of_ble_eq_true rfl) (x_narZ _) ?_
  intro p e s m args below meth c Q hx hb hml hts hown hK hN hP hD hS hret ls hl
  have hl : lv_has ls 2 [(0, .ref (a 0)), (1, .int (nI b))] := hl
  have hown : s.vm.findClass RX5 = some m.cls := hown
  have f21 := hts _ (List.mem_cons_of_mem _ tw_208)
  have in_X5 := (fun q hq => List.mem_cons_of_mem _ (inX5 q hq) : ∀ q ∈ wsX50, q ∈ (Cond.code yX5_shouldBeWhole cX5_shouldBeWhole 2 (some .boolean) :: TB))
  have n164 := hN (.methodLinkNest RX5 164 yX4_of "SegmentLog") (by decide +kernel)
  have ini_X4 := hts _ (List.mem_cons_of_mem _ tw_86)
  have im_yX4_of := hts _ (List.mem_cons_of_mem _ tw_500)
  have se_yX4_of := hts _ (List.mem_cons_of_mem _ tw_50)
  have f28 := hts _ (List.mem_cons_of_mem _ tw_209)
  have n197 := hN (.methodLinkNest RX5 197 yX2_holds "SegmentLog") (by decide +kernel)
  have ini_X2 := hts _ (List.mem_cons_of_mem _ tw_88)
  have im_yX2_holds := hts _ (List.mem_cons_of_mem _ tw_568)
  have se_yX2_holds := hts _ (List.mem_cons_of_mem _ tw_57)
  have f42 := hts _ (List.mem_cons_of_mem _ tw_211)
  have f118 := hN (.fieldLinkNest RX5 118 "SegmentLog$Head" "generation" "I" "SegmentLog") (by decide +kernel)
  have in_X1 := (fun q hq => List.mem_cons_of_mem _ (inX1 q hq) : ∀ q ∈ wsX10, q ∈ (Cond.code yX5_shouldBeWhole cX5_shouldBeWhole 2 (some .boolean) :: TB))
  refine lv_aload_n hx hb dX5_shouldBeWhole_0 rfl (lv_at hl 0 rfl) ?_
  refine va_get (D := (dC, dI)) (ci := 5) (v := .ref (a 3)) (C := RX5) (T := TX5) (N := 11) hx hb hts in_X5 hown hK hP 0 rfl rfl 1 (by decide) f21 (fun _ h9 => h9) rfl dX5_shouldBeWhole_1 ?_
  refine lv_iload_n hx hb dX5_shouldBeWhole_4 rfl (lv_at hl 1 rfl) ?_
  refine x_calli (va_runVN (As := [.int (nI b)]) (rest := []) ⟨hx, hb, hml, hown, hts⟩ (c_Us_of (show okU (fun ug' => wS a cB cI cL h1 h2 s1 s2 op nx wt sf lf dn dg un ug' qn qt qg tn tk tv ts ef eg ex eF pf pg px pF) 3 4 (a 3) (a 4) cI un from ⟨fun _ => rfl, fun _ => rfl, fun _ _ => rfl⟩) (tyS_I cB cI cL) (by omega) ug hug b (by omega)) ⟨(va_cnB 1 hts (tbG tw_501) rfl rfl rfl n164 ini_X4 (by decide +kernel) ⟨Nat.le_of_ble_eq_true rfl, Nat.le_of_ble_eq_true rfl⟩), im_yX4_of, se_yX4_of⟩ ⟨x_blind, va_recv hK hP (ci := 4) (q0 := 3) rfl rfl, x_pre hK hP hD hN⟩ rfl rfl hl.1 rfl (lv_room (Nat.le_of_ble_eq_true rfl)) dX5_shouldBeWhole_5 ⟨Nat.zero_le _, Nat.zero_le _⟩) hS (fun H locs hP hD hS => ?_)
  have hP : va_P (dC, dI) vwCl (wS a cB cI cL h1 h2 s1 s2 op nx wt sf lf dn dg un ug qn qt qg tn tk tv ts ef eg ex eF pf pg px pF) H := hP
  have hD : va_D A (wS a cB cI cL h1 h2 s1 s2 op nx wt sf lf dn dg un ug qn qt qg tn tk tv ts ef eg ex eF pf pg px pF) := hD
  have hv5 : uof un ug b < 8 := uof_lt hug
  rcases (show uof un ug b = 1 ∨ uof un ug b = 2 ∨ uof un ug b = 3 ∨ (uof un ug b < 1 ∨ 3 < uof un ug b) by omega) with c8 | c8 | c8 | c8
  · refine x_tabIn (tgt := 36) hx hb dX5_shouldBeWhole_8 c8 (by decide) (by decide) (by decide) rfl (by decide) ?_
    refine lv_aload_n hx hb dX5_shouldBeWhole_36 rfl (lv_at hl 0 rfl) ?_
    refine va_get (D := (dC, dI)) (ci := 5) (v := .ref (a 5)) (C := RX5) (T := TX5) (N := 11) hx hb hts in_X5 hown hK hP 0 rfl rfl 2 (by decide) f28 (fun _ h9 => h9) rfl dX5_shouldBeWhole_37 ?_
    refine lv_iload_n hx hb dX5_shouldBeWhole_40 rfl (lv_at hl 1 rfl) ?_
    refine x_calli (va_runVN (As := [.int (nI b)]) (rest := []) ⟨hx, hb, hml, hown, hts⟩ (c_Qu_holds (by omega) hqt b (by omega)) ⟨(va_cnB 1 hts (tbG tw_569) rfl rfl rfl n197 ini_X2 (by decide +kernel) ⟨Nat.le_of_ble_eq_true rfl, Nat.le_of_ble_eq_true rfl⟩), im_yX2_holds, se_yX2_holds⟩ ⟨x_blind, va_recv hK hP (ci := 2) (q0 := 5) rfl rfl, x_pre hK hP hD hN⟩ rfl rfl hl.1 rfl (lv_room (Nat.le_of_ble_eq_true rfl)) dX5_shouldBeWhole_41 ⟨Nat.zero_le _, Nat.zero_le _⟩) hS (fun H locs hP hD hS => ?_)
    have hP : va_P (dC, dI) vwCl (wS a cB cI cL h1 h2 s1 s2 op nx wt sf lf dn dg un ug qn qt qg tn tk tv ts ef eg ex eF pf pg px pF) H := hP
    have hD : va_D A (wS a cB cI cL h1 h2 s1 s2 op nx wt sf lf dn dg un ug qn qt qg tn tk tv ts ef eg ex eF pf pg px pF) := hD
    refine x_if_ne_b (tgt := 51) hx hb dX5_shouldBeWhole_44 (by decide) (fun c44 => ?_) (fun c44 => ?_)
    · refine lv_iconst (v := nI 0) hx hb dX5_shouldBeWhole_51 (by decide) ?_
      exact hret dX5_shouldBeWhole_52 (by simp [sbw, c8, c44, bI]; try rfl) hP hD hS
    · refine lv_iconst (v := nI 1) hx hb dX5_shouldBeWhole_47 (by decide) ?_
      refine lv_goto (tgt := 52) hx hb dX5_shouldBeWhole_48 (by decide) ?_
      exact hret dX5_shouldBeWhole_52 (by simp [sbw, c8, c44, bI]; try rfl) hP hD hS
  · refine x_tabIn (tgt := 53) hx hb dX5_shouldBeWhole_8 c8 (by decide) (by decide) (by decide) rfl (by decide) ?_
    refine lv_iconst (v := nI 1) hx hb dX5_shouldBeWhole_53 (by decide) ?_
    exact hret dX5_shouldBeWhole_54 (by simp [sbw, c8, bI]; try rfl) hP hD hS
  · refine x_tabIn (tgt := 55) hx hb dX5_shouldBeWhole_8 c8 (by decide) (by decide) (by decide) rfl (by decide) ?_
    refine lv_aload_n hx hb dX5_shouldBeWhole_55 rfl (lv_at hl 0 rfl) ?_
    refine va_get (D := (dC, dI)) (ci := 5) (v := .ref h1) (C := RX5) (T := TX5) (N := 11) hx hb hts in_X5 hown hK hP 0 rfl rfl 4 (by decide) f42 (fun _ h9 => h9) rfl dX5_shouldBeWhole_56 ?_
    refine va_getN (D := (dC, dI)) (ci := 1) (v := .int (nI eg)) (C := RX1) (T := TX1) (N := 4) hx hb hts in_X1 hown hK hP 13 rfl rfl 2 (by decide) (va_Nw.use (A := args) rfl f118) (fun _ h9 => h9) rfl dX5_shouldBeWhole_59 ?_
    refine x_if_le (tgt := 82) hx hb dX5_shouldBeWhole_62 (by decide) (by omega) (fun c62 => ?_) (fun c62 => ?_)
    · refine lv_iconst (v := nI 0) hx hb dX5_shouldBeWhole_82 (by decide) ?_
      exact hret dX5_shouldBeWhole_83 (by first | (simp [sbw, c8, c62, c75, bI]; done) | (simp [sbw, c8, c62, c75, bI]; rfl) | (simp [sbw, c8, c62, bI]; rfl)) hP hD hS
    · refine lv_aload_n hx hb dX5_shouldBeWhole_65 rfl (lv_at hl 0 rfl) ?_
      refine va_get (D := (dC, dI)) (ci := 5) (v := .ref h1) (C := RX5) (T := TX5) (N := 11) hx hb hts in_X5 hown hK hP 0 rfl rfl 4 (by decide) f42 (fun _ h9 => h9) rfl dX5_shouldBeWhole_66 ?_
      refine va_getN (D := (dC, dI)) (ci := 1) (v := .int (nI eg)) (C := RX1) (T := TX1) (N := 4) hx hb hts in_X1 hown hK hP 13 rfl rfl 2 (by decide) (va_Nw.use (A := args) rfl f118) (fun _ h9 => h9) rfl dX5_shouldBeWhole_69 ?_
      refine lv_iconst (v := nI 2) hx hb dX5_shouldBeWhole_72 (by decide) ?_
      refine x_irem hx hb dX5_shouldBeWhole_73 (by omega) (by omega) (by omega) ?_
      refine lv_iload_n hx hb dX5_shouldBeWhole_74 rfl (lv_at hl 1 rfl) ?_
      refine x_icmp_ne (tgt := 82) hx hb dX5_shouldBeWhole_75 (by decide) (by omega) (by omega) (fun c75 => ?_) (fun c75 => ?_)
      · refine lv_iconst (v := nI 0) hx hb dX5_shouldBeWhole_82 (by decide) ?_
        exact hret dX5_shouldBeWhole_83 (by first | (simp [sbw, c8, c62, c75, bI]; done) | (simp [sbw, c8, c62, c75, bI]; rfl) | (simp [sbw, c8, c62, bI]; rfl)) hP hD hS
      · refine lv_iconst (v := nI 1) hx hb dX5_shouldBeWhole_78 (by decide) ?_
        refine lv_goto (tgt := 83) hx hb dX5_shouldBeWhole_79 (by decide) ?_
        exact hret dX5_shouldBeWhole_83 (by first | (simp [sbw, c8, c62, c75, bI]; done) | (simp [sbw, c8, c62, c75, bI]; rfl) | (simp [sbw, c8, c62, bI]; rfl)) hP hD hS
  · refine x_tabOut (tgt := 84) hx hb dX5_shouldBeWhole_8 (by omega) (by omega) (by decide) ?_
    refine lv_iconst (v := nI 0) hx hb dX5_shouldBeWhole_84 (by decide) ?_
    exact hret dX5_shouldBeWhole_85 (by rw [sbw, if_neg (by omega), if_neg (by omega), if_neg (by omega)]; rfl) hP hD hS

set_option maxHeartbeats 4000000 in
set_option maxRecDepth 100000 in
theorem c_SL_countOpen {l : Launch} {dC : Nat → ClassId} {dI : Nat → Nat → Nat} {A : Nat → Prop} {a : Nat → Nat} {cB cI cL : ClassId} {h1 h2 s1 s2 : Nat} {op : Bool} {nx wt sf lf dn : Nat} {dg : Nat → Nat} {un : Nat} {ug : Nat → Nat} {qn : Nat} {qt qg : Nat → Nat} {tn : Nat} {tk tv : Nat → Int64} {ts : Nat → Nat} {ef eg ex : Nat} {eF : Nat → Nat} {pf pg px : Nat} {pF : Nat → Nat} (hun : un ≤ 64) (hug : ∀ j, ug j < 8) (w : Nat) (hw1 : w < 2 ^ 31) : Met l yX5_countOpen (Cond.code yX5_countOpen cX5_countOpen 2 (some .int) :: TB) { frames := 1, cells := 0, slots := 0, locals := 23 } (xPre Nst (dC, dI) A (tyS cB cI cL) (wS a cB cI cL h1 h2 s1 s2 op nx wt sf lf dn dg un ug qn qt qg tn tk tv ts ef eg ex eF pf pg px pF) [.ref (a 0), .int (nI w)]) (xQi (dC, dI) A (nI (cnO un ug ef tn wt qn eg nx lf w)) (wS a cB cI cL h1 h2 s1 s2 op nx wt sf lf dn dg un ug qn qt qg tn tk tv ts ef eg ex eF pf pg px pF)) 0 0 A := by
  refine x_ofWi (cc := cX5_countOpen) (maxL := 2) (by decide) rfl (Nat.le_of_ble_eq_true rfl) ?_
  intro p e s m args below meth c Q hx hb hml hts hown hK hN hP hD hS hret ls hl
  have hl : lv_has ls 2 [(0, .ref (a 0)), (1, .int (nI w))] := hl
  have hown : s.vm.findClass RX5 = some m.cls := hown
  have f21 := hts _ (List.mem_cons_of_mem _ tw_208)
  have in_X5 := (fun q hq => List.mem_cons_of_mem _ (inX5 q hq) : ∀ q ∈ wsX50, q ∈ (Cond.code yX5_countOpen cX5_countOpen 2 (some .int) :: TB))
  have n186 := hN (.methodLinkNest RX5 186 yX4_howMany "SegmentLog") (by decide +kernel)
  have ini_X4 := hts _ (List.mem_cons_of_mem _ tw_86)
  have im_yX4_howMany := hts _ (List.mem_cons_of_mem _ tw_585)
  have se_yX4_howMany := hts _ (List.mem_cons_of_mem _ tw_59)
  have f42 := hts _ (List.mem_cons_of_mem _ tw_211)
  have f91 := hN (.fieldLinkNest RX5 91 "SegmentLog$Head" "files" "I" "SegmentLog") (by decide +kernel)
  have in_X1 := (fun q hq => List.mem_cons_of_mem _ (inX1 q hq) : ∀ q ∈ wsX10, q ∈ (Cond.code yX5_countOpen cX5_countOpen 2 (some .int) :: TB))
  have f35 := hts _ (List.mem_cons_of_mem _ tw_210)
  have f94 := hN (.fieldLinkNest RX5 94 "SegmentLog$Table" "size" "I" "SegmentLog") (by decide +kernel)
  have in_X3 := (fun q hq => List.mem_cons_of_mem _ (inX3 q hq) : ∀ q ∈ wsX30, q ∈ (Cond.code yX5_countOpen cX5_countOpen 2 (some .int) :: TB))
  have f66 := hts _ (List.mem_cons_of_mem _ tw_215)
  have f28 := hts _ (List.mem_cons_of_mem _ tw_209)
  have f189 := hN (.fieldLinkNest RX5 189 "SegmentLog$Queue" "size" "I" "SegmentLog") (by decide +kernel)
  have in_X2 := (fun q hq => List.mem_cons_of_mem _ (inX2 q hq) : ∀ q ∈ wsX20, q ∈ (Cond.code yX5_countOpen cX5_countOpen 2 (some .int) :: TB))
  have f118 := hN (.fieldLinkNest RX5 118 "SegmentLog$Head" "generation" "I" "SegmentLog") (by decide +kernel)
  have f53 := hts _ (List.mem_cons_of_mem _ tw_214)
  have f190 := hts _ (List.mem_cons_of_mem _ tw_217)
  refine lv_iload_n hx hb dX5_countOpen_0 rfl (lv_at hl 1 rfl) ?_
  rcases (show w = 1 ∨ w = 2 ∨ w = 3 ∨ w = 4 ∨ w = 5 ∨ w = 6 ∨ w = 7 ∨ w = 8 ∨ w = 9 ∨ (w < 1 ∨ 9 < w) by omega) with c1 | c1 | c1 | c1 | c1 | c1 | c1 | c1 | c1 | c1
  · refine x_tabIn (tgt := 52) hx hb dX5_countOpen_1 c1 (by decide) (by decide) (by decide) rfl (by decide) ?_
    refine lv_aload_n hx hb dX5_countOpen_52 rfl (lv_at hl 0 rfl) ?_
    refine va_get (D := (dC, dI)) (ci := 5) (v := .ref (a 3)) (C := RX5) (T := TX5) (N := 11) hx hb hts in_X5 hown hK hP 0 rfl rfl 1 (by decide) f21 (fun _ h9 => h9) rfl dX5_countOpen_53 ?_
    refine lv_iconst (v := nI 0) hx hb dX5_countOpen_56 (by decide) ?_
    refine x_calli (va_runVN (As := [.int (nI 0)]) (rest := []) ⟨hx, hb, hml, hown, hts⟩ (c_Us_howMany (show okU (fun ug' => wS a cB cI cL h1 h2 s1 s2 op nx wt sf lf dn dg un ug' qn qt qg tn tk tv ts ef eg ex eF pf pg px pF) 3 4 (a 3) (a 4) cI un from ⟨fun _ => rfl, fun _ => rfl, fun _ _ => rfl⟩) (tyS_I cB cI cL) (by omega) ug hug 0 (by omega)) ⟨(va_cnB 1 hts (tbG tw_586) rfl rfl rfl n186 ini_X4 (by decide +kernel) ⟨Nat.le_of_ble_eq_true rfl, Nat.le_of_ble_eq_true rfl⟩), im_yX4_howMany, se_yX4_howMany⟩ ⟨x_blind, va_recv hK hP (ci := 4) (q0 := 3) rfl rfl, x_pre hK hP hD hN⟩ rfl rfl hl.1 rfl (lv_room (Nat.le_of_ble_eq_true rfl)) dX5_countOpen_57 ⟨Nat.zero_le _, Nat.zero_le _⟩) hS (fun H locs hP hD hS => ?_)
    have hP : va_P (dC, dI) vwCl (wS a cB cI cL h1 h2 s1 s2 op nx wt sf lf dn dg un ug qn qt qg tn tk tv ts ef eg ex eF pf pg px pF) H := hP
    have hD : va_D A (wS a cB cI cL h1 h2 s1 s2 op nx wt sf lf dn dg un ug qn qt qg tn tk tv ts ef eg ex eF pf pg px pF) := hD
    exact hret dX5_countOpen_60 (by first | (subst c1; rfl) | (rw [cnO]; repeat rw [if_neg (by omega)])) hP hD hS
  · refine x_tabIn (tgt := 61) hx hb dX5_countOpen_1 c1 (by decide) (by decide) (by decide) rfl (by decide) ?_
    refine lv_aload_n hx hb dX5_countOpen_61 rfl (lv_at hl 0 rfl) ?_
    refine va_get (D := (dC, dI)) (ci := 5) (v := .ref h1) (C := RX5) (T := TX5) (N := 11) hx hb hts in_X5 hown hK hP 0 rfl rfl 4 (by decide) f42 (fun _ h9 => h9) rfl dX5_countOpen_62 ?_
    refine va_getN (D := (dC, dI)) (ci := 1) (v := .int (nI ef)) (C := RX1) (T := TX1) (N := 4) hx hb hts in_X1 hown hK hP 13 rfl rfl 1 (by decide) (va_Nw.use (A := args) rfl f91) (fun _ h9 => h9) rfl dX5_countOpen_65 ?_
    exact hret dX5_countOpen_68 (by first | (subst c1; rfl) | (rw [cnO]; repeat rw [if_neg (by omega)])) hP hD hS
  · refine x_tabIn (tgt := 69) hx hb dX5_countOpen_1 c1 (by decide) (by decide) (by decide) rfl (by decide) ?_
    refine lv_aload_n hx hb dX5_countOpen_69 rfl (lv_at hl 0 rfl) ?_
    refine va_get (D := (dC, dI)) (ci := 5) (v := .ref (a 9)) (C := RX5) (T := TX5) (N := 11) hx hb hts in_X5 hown hK hP 0 rfl rfl 3 (by decide) f35 (fun _ h9 => h9) rfl dX5_countOpen_70 ?_
    refine va_getN (D := (dC, dI)) (ci := 3) (v := .int (nI tn)) (C := RX3) (T := TX3) (N := 4) hx hb hts in_X3 hown hK hP 9 rfl rfl 3 (by decide) (va_Nw.use (A := args) rfl f94) (fun _ h9 => h9) rfl dX5_countOpen_73 ?_
    exact hret dX5_countOpen_76 (by first | (subst c1; rfl) | (rw [cnO]; repeat rw [if_neg (by omega)])) hP hD hS
  · refine x_tabIn (tgt := 77) hx hb dX5_countOpen_1 c1 (by decide) (by decide) (by decide) rfl (by decide) ?_
    refine lv_aload_n hx hb dX5_countOpen_77 rfl (lv_at hl 0 rfl) ?_
    refine va_get (D := (dC, dI)) (ci := 5) (v := .int (nI wt)) (C := RX5) (T := TX5) (N := 11) hx hb hts in_X5 hown hK hP 0 rfl rfl 8 (by decide) f66 (fun _ h9 => h9) rfl dX5_countOpen_78 ?_
    exact hret dX5_countOpen_81 (by first | (subst c1; rfl) | (rw [cnO]; repeat rw [if_neg (by omega)])) hP hD hS
  · refine x_tabIn (tgt := 82) hx hb dX5_countOpen_1 c1 (by decide) (by decide) (by decide) rfl (by decide) ?_
    refine lv_aload_n hx hb dX5_countOpen_82 rfl (lv_at hl 0 rfl) ?_
    refine va_get (D := (dC, dI)) (ci := 5) (v := .ref (a 3)) (C := RX5) (T := TX5) (N := 11) hx hb hts in_X5 hown hK hP 0 rfl rfl 1 (by decide) f21 (fun _ h9 => h9) rfl dX5_countOpen_83 ?_
    refine lv_iconst (v := nI 1) hx hb dX5_countOpen_86 (by decide) ?_
    refine x_calli (va_runVN (As := [.int (nI 1)]) (rest := []) ⟨hx, hb, hml, hown, hts⟩ (c_Us_howMany (show okU (fun ug' => wS a cB cI cL h1 h2 s1 s2 op nx wt sf lf dn dg un ug' qn qt qg tn tk tv ts ef eg ex eF pf pg px pF) 3 4 (a 3) (a 4) cI un from ⟨fun _ => rfl, fun _ => rfl, fun _ _ => rfl⟩) (tyS_I cB cI cL) (by omega) ug hug 1 (by omega)) ⟨(va_cnB 1 hts (tbG tw_586) rfl rfl rfl n186 ini_X4 (by decide +kernel) ⟨Nat.le_of_ble_eq_true rfl, Nat.le_of_ble_eq_true rfl⟩), im_yX4_howMany, se_yX4_howMany⟩ ⟨x_blind, va_recv hK hP (ci := 4) (q0 := 3) rfl rfl, x_pre hK hP hD hN⟩ rfl rfl hl.1 rfl (lv_room (Nat.le_of_ble_eq_true rfl)) dX5_countOpen_87 ⟨Nat.zero_le _, Nat.zero_le _⟩) hS (fun H locs hP hD hS => ?_)
    have hP : va_P (dC, dI) vwCl (wS a cB cI cL h1 h2 s1 s2 op nx wt sf lf dn dg un ug qn qt qg tn tk tv ts ef eg ex eF pf pg px pF) H := hP
    have hD : va_D A (wS a cB cI cL h1 h2 s1 s2 op nx wt sf lf dn dg un ug qn qt qg tn tk tv ts ef eg ex eF pf pg px pF) := hD
    exact hret dX5_countOpen_90 (by first | (subst c1; rfl) | (rw [cnO]; repeat rw [if_neg (by omega)])) hP hD hS
  · refine x_tabIn (tgt := 91) hx hb dX5_countOpen_1 c1 (by decide) (by decide) (by decide) rfl (by decide) ?_
    refine lv_aload_n hx hb dX5_countOpen_91 rfl (lv_at hl 0 rfl) ?_
    refine va_get (D := (dC, dI)) (ci := 5) (v := .ref (a 5)) (C := RX5) (T := TX5) (N := 11) hx hb hts in_X5 hown hK hP 0 rfl rfl 2 (by decide) f28 (fun _ h9 => h9) rfl dX5_countOpen_92 ?_
    refine va_getN (D := (dC, dI)) (ci := 2) (v := .int (nI qn)) (C := RX2) (T := TX2) (N := 3) hx hb hts in_X2 hown hK hP 5 rfl rfl 2 (by decide) (va_Nw.use (A := args) rfl f189) (fun _ h9 => h9) rfl dX5_countOpen_95 ?_
    exact hret dX5_countOpen_98 (by first | (subst c1; rfl) | (rw [cnO]; repeat rw [if_neg (by omega)])) hP hD hS
  · refine x_tabIn (tgt := 99) hx hb dX5_countOpen_1 c1 (by decide) (by decide) (by decide) rfl (by decide) ?_
    refine lv_aload_n hx hb dX5_countOpen_99 rfl (lv_at hl 0 rfl) ?_
    refine va_get (D := (dC, dI)) (ci := 5) (v := .ref h1) (C := RX5) (T := TX5) (N := 11) hx hb hts in_X5 hown hK hP 0 rfl rfl 4 (by decide) f42 (fun _ h9 => h9) rfl dX5_countOpen_100 ?_
    refine va_getN (D := (dC, dI)) (ci := 1) (v := .int (nI eg)) (C := RX1) (T := TX1) (N := 4) hx hb hts in_X1 hown hK hP 13 rfl rfl 2 (by decide) (va_Nw.use (A := args) rfl f118) (fun _ h9 => h9) rfl dX5_countOpen_103 ?_
    exact hret dX5_countOpen_106 (by first | (subst c1; rfl) | (rw [cnO]; repeat rw [if_neg (by omega)])) hP hD hS
  · refine x_tabIn (tgt := 107) hx hb dX5_countOpen_1 c1 (by decide) (by decide) (by decide) rfl (by decide) ?_
    refine lv_aload_n hx hb dX5_countOpen_107 rfl (lv_at hl 0 rfl) ?_
    refine va_get (D := (dC, dI)) (ci := 5) (v := .int (nI nx)) (C := RX5) (T := TX5) (N := 11) hx hb hts in_X5 hown hK hP 0 rfl rfl 7 (by decide) f53 (fun _ h9 => h9) rfl dX5_countOpen_108 ?_
    exact hret dX5_countOpen_111 (by first | (subst c1; rfl) | (rw [cnO]; repeat rw [if_neg (by omega)])) hP hD hS
  · refine x_tabIn (tgt := 112) hx hb dX5_countOpen_1 c1 (by decide) (by decide) (by decide) rfl (by decide) ?_
    refine lv_iconst (v := nI 1) hx hb dX5_countOpen_112 (by decide) ?_
    exact hret dX5_countOpen_113 (by first | (subst c1; rfl) | (rw [cnO]; repeat rw [if_neg (by omega)])) hP hD hS
  · refine x_tabOut (tgt := 114) hx hb dX5_countOpen_1 (by omega) (by omega) (by decide) ?_
    refine lv_aload_n hx hb dX5_countOpen_114 rfl (lv_at hl 0 rfl) ?_
    refine va_get (D := (dC, dI)) (ci := 5) (v := .int (nI lf)) (C := RX5) (T := TX5) (N := 11) hx hb hts in_X5 hown hK hP 0 rfl rfl 10 (by decide) f190 (fun _ h9 => h9) rfl dX5_countOpen_115 ?_
    exact hret dX5_countOpen_118 (by first | (subst c1; rfl) | (rw [cnO]; repeat rw [if_neg (by omega)])) hP hD hS

set_option maxHeartbeats 4000000 in
set_option maxRecDepth 100000 in
theorem c_SL_forget {l : Launch} {dC : Nat → ClassId} {dI : Nat → Nat → Nat} {A : Nat → Prop} {a : Nat → Nat} {cB cI cL : ClassId} {h1 h2 s1 s2 : Nat} {op : Bool} {nx wt sf lf dn : Nat} {dg : Nat → Nat} {un : Nat} {ug : Nat → Nat} {qn : Nat} {qt qg : Nat → Nat} {tn : Nat} {tk tv : Nat → Int64} {ts : Nat → Nat} {ef eg ex : Nat} {eF : Nat → Nat} {pf pg px : Nat} {pF : Nat → Nat} (hdn : dn ≤ 64) (hug : ∀ j, ug j < 8) : Met l yX5_forget (Cond.code yX5_forget cX5_forget 1 none :: TB) { frames := 2, cells := 0, slots := 0, locals := 46 } (xPre Nst (dC, dI) A (tyS cB cI cL) (wS a cB cI cL h1 h2 s1 s2 op nx wt sf lf dn dg un ug qn qt qg tn tk tv ts ef eg ex eF pf pg px pF) [.ref (a 0)]) (xQv (dC, dI) A (wS a cB cI cL h1 h2 s1 s2 op ex 0 0 0 dn dg dn (uclr dn ug) 0 qt qg 0 tk tv ts ef eg ex eF pf pg px pF)) 0 0 A := by
  refine x_ofWv (cc := cX5_forget) (maxL := 1) (by decide) rfl (Nat.le_of_ble_eq_true rfl) ?_
  intro p e s m args below meth c Q hx hb hml hts hown hK hN hP hD hS hret ls hl
  have hl : lv_has ls 1 [(0, .ref (a 0))] := hl
  have hown : s.vm.findClass RX5 = some m.cls := hown
  have f21 := hts _ (List.mem_cons_of_mem _ tw_208)
  have in_X5 := (fun q hq => List.mem_cons_of_mem _ (inX5 q hq) : ∀ q ∈ wsX50, q ∈ (Cond.code yX5_forget cX5_forget 1 none :: TB))
  have f14 := hts _ (List.mem_cons_of_mem _ tw_207)
  have f173 := hN (.fieldLinkNest RX5 173 "SegmentLog$Blocks" "size" "I" "SegmentLog") (by decide +kernel)
  have in_X0 := (fun q hq => List.mem_cons_of_mem _ (inX0 q hq) : ∀ q ∈ wsX00, q ∈ (Cond.code yX5_forget cX5_forget 1 none :: TB))
  have n193 := hN (.methodLinkNest RX5 193 yX4_clear "SegmentLog") (by decide +kernel)
  have ini_X4 := hts _ (List.mem_cons_of_mem _ tw_86)
  have im_yX4_clear := hts _ (List.mem_cons_of_mem _ tw_123)
  have se_yX4_clear := hts _ (List.mem_cons_of_mem _ tw_0)
  have f28 := hts _ (List.mem_cons_of_mem _ tw_209)
  have n195 := hN (.methodLinkNest RX5 195 yX2_clear "SegmentLog") (by decide +kernel)
  have ini_X2 := hts _ (List.mem_cons_of_mem _ tw_88)
  have im_yX2_clear := hts _ (List.mem_cons_of_mem _ tw_269)
  have se_yX2_clear := hts _ (List.mem_cons_of_mem _ tw_8)
  have f35 := hts _ (List.mem_cons_of_mem _ tw_210)
  have n196 := hN (.methodLinkNest RX5 196 yX3_clear "SegmentLog") (by decide +kernel)
  have ini_X3 := hts _ (List.mem_cons_of_mem _ tw_89)
  have im_yX3_clear := hts _ (List.mem_cons_of_mem _ tw_273)
  have se_yX3_clear := hts _ (List.mem_cons_of_mem _ tw_9)
  have f42 := hts _ (List.mem_cons_of_mem _ tw_211)
  have f90 := hN (.fieldLinkNest RX5 90 "SegmentLog$Head" "next" "I" "SegmentLog") (by decide +kernel)
  have in_X1 := (fun q hq => List.mem_cons_of_mem _ (inX1 q hq) : ∀ q ∈ wsX10, q ∈ (Cond.code yX5_forget cX5_forget 1 none :: TB))
  have f53 := hts _ (List.mem_cons_of_mem _ tw_214)
  have f66 := hts _ (List.mem_cons_of_mem _ tw_215)
  have f80 := hts _ (List.mem_cons_of_mem _ tw_216)
  have f190 := hts _ (List.mem_cons_of_mem _ tw_217)
  refine lv_aload_n hx hb dX5_forget_0 rfl (lv_at hl 0 rfl) ?_
  refine va_get (D := (dC, dI)) (ci := 5) (v := .ref (a 3)) (C := RX5) (T := TX5) (N := 11) hx hb hts in_X5 hown hK hP 0 rfl rfl 1 (by decide) f21 (fun _ h9 => h9) rfl dX5_forget_1 ?_
  refine lv_aload_n hx hb dX5_forget_4 rfl (lv_at hl 0 rfl) ?_
  refine va_get (D := (dC, dI)) (ci := 5) (v := .ref (a 1)) (C := RX5) (T := TX5) (N := 11) hx hb hts in_X5 hown hK hP 0 rfl rfl 0 (by decide) f14 (fun _ h9 => h9) rfl dX5_forget_5 ?_
  refine va_getN (D := (dC, dI)) (ci := 0) (v := .int (nI dn)) (C := RX0) (T := TX0) (N := 2) hx hb hts in_X0 hown hK hP 1 rfl rfl 1 (by decide) (va_Nw.use (A := args) rfl f173) (fun _ h9 => h9) rfl dX5_forget_8 ?_
  refine x_callv (va_runVN (As := [.int (nI dn)]) (rest := []) ⟨hx, hb, hml, hown, hts⟩ (c_Us_clear (show okUn (fun un' ug' => wS a cB cI cL h1 h2 s1 s2 op nx wt sf lf dn dg un' ug' qn qt qg tn tk tv ts ef eg ex eF pf pg px pF) 3 4 (a 3) (a 4) cI from ⟨fun _ _ => rfl, fun _ _ => rfl, fun _ _ _ => rfl, fun _ _ _ => rfl⟩) (tyS_I cB cI cL) un ug hug dn (by omega)) ⟨(va_cnB 1 hts (tbG tw_124) rfl rfl rfl n193 ini_X4 (by decide +kernel) ⟨Nat.le_of_ble_eq_true rfl, Nat.le_of_ble_eq_true rfl⟩), im_yX4_clear, se_yX4_clear⟩ ⟨x_blind, va_recv hK hP (ci := 4) (q0 := 3) rfl rfl, x_pre hK hP hD hN⟩ rfl rfl hl.1 rfl (lv_room (Nat.le_of_ble_eq_true rfl)) dX5_forget_11 ⟨Nat.zero_le _, Nat.zero_le _⟩) hS (fun H locs hP hD hS => ?_)
  have hP : va_P (dC, dI) vwCl (wS a cB cI cL h1 h2 s1 s2 op nx wt sf lf dn dg dn (uclr dn ug) qn qt qg tn tk tv ts ef eg ex eF pf pg px pF) H := hP
  have hD : va_D A (wS a cB cI cL h1 h2 s1 s2 op nx wt sf lf dn dg dn (uclr dn ug) qn qt qg tn tk tv ts ef eg ex eF pf pg px pF) := hD
  refine lv_aload_n hx hb dX5_forget_14 rfl (lv_at hl 0 rfl) ?_
  refine va_get (D := (dC, dI)) (ci := 5) (v := .ref (a 5)) (C := RX5) (T := TX5) (N := 11) hx hb hts in_X5 hown hK hP 0 rfl rfl 2 (by decide) f28 (fun _ h9 => h9) rfl dX5_forget_15 ?_
  refine x_callv (va_runVN (As := []) (rest := []) ⟨hx, hb, hml, hown, hts⟩ c_Qu_clear ⟨(va_cnB 0 hts (tbG tw_270) rfl rfl rfl n195 ini_X2 (by decide +kernel) ⟨Nat.le_of_ble_eq_true rfl, Nat.le_of_ble_eq_true rfl⟩), im_yX2_clear, se_yX2_clear⟩ ⟨x_blind, va_recv hK hP (ci := 2) (q0 := 5) rfl rfl, x_pre hK hP hD hN⟩ rfl rfl hl.1 rfl (lv_room (Nat.le_of_ble_eq_true rfl)) dX5_forget_18 ⟨Nat.zero_le _, Nat.zero_le _⟩) hS (fun H locs hP hD hS => ?_)
  have hP : va_P (dC, dI) vwCl (wS a cB cI cL h1 h2 s1 s2 op nx wt sf lf dn dg dn (uclr dn ug) 0 qt qg tn tk tv ts ef eg ex eF pf pg px pF) H := hP
  have hD : va_D A (wS a cB cI cL h1 h2 s1 s2 op nx wt sf lf dn dg dn (uclr dn ug) 0 qt qg tn tk tv ts ef eg ex eF pf pg px pF) := hD
  refine lv_aload_n hx hb dX5_forget_21 rfl (lv_at hl 0 rfl) ?_
  refine va_get (D := (dC, dI)) (ci := 5) (v := .ref (a 9)) (C := RX5) (T := TX5) (N := 11) hx hb hts in_X5 hown hK hP 0 rfl rfl 3 (by decide) f35 (fun _ h9 => h9) rfl dX5_forget_22 ?_
  refine x_callv (va_runVN (As := []) (rest := []) ⟨hx, hb, hml, hown, hts⟩ c_Ta_clear ⟨(va_cnB 0 hts (tbG tw_274) rfl rfl rfl n196 ini_X3 (by decide +kernel) ⟨Nat.le_of_ble_eq_true rfl, Nat.le_of_ble_eq_true rfl⟩), im_yX3_clear, se_yX3_clear⟩ ⟨x_blind, va_recv hK hP (ci := 3) (q0 := 9) rfl rfl, x_pre hK hP hD hN⟩ rfl rfl hl.1 rfl (lv_room (Nat.le_of_ble_eq_true rfl)) dX5_forget_25 ⟨Nat.zero_le _, Nat.zero_le _⟩) hS (fun H locs hP hD hS => ?_)
  have hP : va_P (dC, dI) vwCl (wS a cB cI cL h1 h2 s1 s2 op nx wt sf lf dn dg dn (uclr dn ug) 0 qt qg 0 tk tv ts ef eg ex eF pf pg px pF) H := hP
  have hD : va_D A (wS a cB cI cL h1 h2 s1 s2 op nx wt sf lf dn dg dn (uclr dn ug) 0 qt qg 0 tk tv ts ef eg ex eF pf pg px pF) := hD
  refine lv_aload_n hx hb dX5_forget_28 rfl (lv_at hl 0 rfl) ?_
  refine lv_aload_n hx hb dX5_forget_29 rfl (lv_at hl 0 rfl) ?_
  refine va_get (D := (dC, dI)) (ci := 5) (v := .ref h1) (C := RX5) (T := TX5) (N := 11) hx hb hts in_X5 hown hK hP 0 rfl rfl 4 (by decide) f42 (fun _ h9 => h9) rfl dX5_forget_30 ?_
  refine va_getN (D := (dC, dI)) (ci := 1) (v := .int (nI ex)) (C := RX1) (T := TX1) (N := 4) hx hb hts in_X1 hown hK hP 13 rfl rfl 3 (by decide) (va_Nw.use (A := args) rfl f90) (fun _ h9 => h9) rfl dX5_forget_33 ?_
  refine va_put (D := (dC, dI)) (ci := 5) (v := .int (nI ex)) (ty := .int) (C := RX5) (T := TX5) (N := 11) hx hb hts in_X5 tyX5 tyX5_ok nmX5 hown hK hP hD hS 0 rfl rfl 7 (by decide) f53 (fun _ h9 => h9) rfl (by decide +kernel) rfl rfl (Nat.le_of_ble_eq_true rfl) dX5_forget_36 (fun H locs hP hD hS => ?_)
  have hP : va_P (dC, dI) vwCl (wS a cB cI cL h1 h2 s1 s2 op ex wt sf lf dn dg dn (uclr dn ug) 0 qt qg 0 tk tv ts ef eg ex eF pf pg px pF) H := hP
  have hD : va_D A (wS a cB cI cL h1 h2 s1 s2 op ex wt sf lf dn dg dn (uclr dn ug) 0 qt qg 0 tk tv ts ef eg ex eF pf pg px pF) := hD
  refine lv_aload_n hx hb dX5_forget_39 rfl (lv_at hl 0 rfl) ?_
  refine lv_iconst (v := nI 0) hx hb dX5_forget_40 (by decide) ?_
  refine va_put (D := (dC, dI)) (ci := 5) (v := .int (nI 0)) (ty := .int) (C := RX5) (T := TX5) (N := 11) hx hb hts in_X5 tyX5 tyX5_ok nmX5 hown hK hP hD hS 0 rfl rfl 8 (by decide) f66 (fun _ h9 => h9) rfl (by decide +kernel) rfl rfl (Nat.le_of_ble_eq_true rfl) dX5_forget_41 (fun H locs hP hD hS => ?_)
  have hP : va_P (dC, dI) vwCl (wS a cB cI cL h1 h2 s1 s2 op ex 0 sf lf dn dg dn (uclr dn ug) 0 qt qg 0 tk tv ts ef eg ex eF pf pg px pF) H := hP
  have hD : va_D A (wS a cB cI cL h1 h2 s1 s2 op ex 0 sf lf dn dg dn (uclr dn ug) 0 qt qg 0 tk tv ts ef eg ex eF pf pg px pF) := hD
  refine lv_aload_n hx hb dX5_forget_44 rfl (lv_at hl 0 rfl) ?_
  refine lv_iconst (v := nI 0) hx hb dX5_forget_45 (by decide) ?_
  refine va_put (D := (dC, dI)) (ci := 5) (v := .int (nI 0)) (ty := .int) (C := RX5) (T := TX5) (N := 11) hx hb hts in_X5 tyX5 tyX5_ok nmX5 hown hK hP hD hS 0 rfl rfl 9 (by decide) f80 (fun _ h9 => h9) rfl (by decide +kernel) rfl rfl (Nat.le_of_ble_eq_true rfl) dX5_forget_46 (fun H locs hP hD hS => ?_)
  have hP : va_P (dC, dI) vwCl (wS a cB cI cL h1 h2 s1 s2 op ex 0 0 lf dn dg dn (uclr dn ug) 0 qt qg 0 tk tv ts ef eg ex eF pf pg px pF) H := hP
  have hD : va_D A (wS a cB cI cL h1 h2 s1 s2 op ex 0 0 lf dn dg dn (uclr dn ug) 0 qt qg 0 tk tv ts ef eg ex eF pf pg px pF) := hD
  refine lv_aload_n hx hb dX5_forget_49 rfl (lv_at hl 0 rfl) ?_
  refine lv_iconst (v := nI 0) hx hb dX5_forget_50 (by decide) ?_
  refine va_put (D := (dC, dI)) (ci := 5) (v := .int (nI 0)) (ty := .int) (C := RX5) (T := TX5) (N := 11) hx hb hts in_X5 tyX5 tyX5_ok nmX5 hown hK hP hD hS 0 rfl rfl 10 (by decide) f190 (fun _ h9 => h9) rfl (by decide +kernel) rfl rfl (Nat.le_of_ble_eq_true rfl) dX5_forget_51 (fun H locs hP hD hS => ?_)
  have hP : va_P (dC, dI) vwCl (wS a cB cI cL h1 h2 s1 s2 op ex 0 0 0 dn dg dn (uclr dn ug) 0 qt qg 0 tk tv ts ef eg ex eF pf pg px pF) H := hP
  have hD : va_D A (wS a cB cI cL h1 h2 s1 s2 op ex 0 0 0 dn dg dn (uclr dn ug) 0 qt qg 0 tk tv ts ef eg ex eF pf pg px pF) := hD
  exact hret dX5_forget_54 hP hD hS

set_option maxHeartbeats 4000000 in
set_option maxRecDepth 100000 in
theorem c_SL_queueRecord {l : Launch} {dC : Nat → ClassId} {dI : Nat → Nat → Nat} {A : Nat → Prop} {a : Nat → Nat} {cB cI cL : ClassId} {h1 h2 s1 s2 : Nat} {op : Bool} {nx wt sf lf dn : Nat} {dg : Nat → Nat} {un : Nat} {ug : Nat → Nat} {qn : Nat} {qt qg : Nat → Nat} {tn : Nat} {tk tv : Nat → Int64} {ts : Nat → Nat} {ef eg ex : Nat} {eF : Nat → Nat} {pf pg px : Nat} {pF : Nat → Nat} (htn : tn ≤ 192) (hqg : ∀ j, qg j < 256) (z p1 i : Nat) (hs1 : z < 2 ^ 31) (hp1 : p1 < 2 ^ 20) (hi : i < tn) : Met l yX5_queueRecord (Cond.code yX5_queueRecord cX5_queueRecord 5 none :: TB) { frames := 3, cells := 0, slots := 0, locals := 73 } (xPre Nst (dC, dI) A (tyS cB cI cL) (wS a cB cI cL h1 h2 s1 s2 op nx wt sf lf dn dg un ug qn qt qg tn tk tv ts ef eg ex eF pf pg px pF) [.ref (a 0), .int (nI z), .int (nI p1), .int (nI i)]) (xQv (dC, dI) A (wS a cB cI cL h1 h2 s1 s2 op nx wt sf lf dn dg un ug qn qt (qrec z p1 (tk i) (tv i) qg) tn tk tv ts ef eg ex eF pf pg px pF)) 0 0 A := by
  refine x_ofWv (cc := cX5_queueRecord) (maxL := 5) (by decide) rfl (Nat.le_of_ble_eq_true rfl) ?_
  intro p e s m args below meth c Q hx hb hml hts hown hK hN hP hD hS hret ls hl
  have hl : lv_has ls 5 [(0, .ref (a 0)), (1, .int (nI z)), (2, .int (nI p1)), (3, .int (nI i))] := hl
  have hown : s.vm.findClass RX5 = some m.cls := hown
  have f28 := hts _ (List.mem_cons_of_mem _ tw_209)
  have in_X5 := (fun q hq => List.mem_cons_of_mem _ (inX5 q hq) : ∀ q ∈ wsX50, q ∈ (Cond.code yX5_queueRecord cX5_queueRecord 5 none :: TB))
  have f209 := hN (.fieldLinkNest RX5 209 "SegmentLog$Queue" "images" "LSegmentLog$Blocks;" "SegmentLog") (by decide +kernel)
  have in_X2 := (fun q hq => List.mem_cons_of_mem _ (inX2 q hq) : ∀ q ∈ wsX20, q ∈ (Cond.code yX5_queueRecord cX5_queueRecord 5 none :: TB))
  have f35 := hts _ (List.mem_cons_of_mem _ tw_210)
  have n148 := hN (.methodLinkNest RX5 148 yX3_key "SegmentLog") (by decide +kernel)
  have ini_X3 := hts _ (List.mem_cons_of_mem _ tw_89)
  have im_yX3_key := hts _ (List.mem_cons_of_mem _ tw_320)
  have se_yX3_key := hts _ (List.mem_cons_of_mem _ tw_19)
  have n212 := hN (.methodLinkNest RX5 212 yX0_putNumber "SegmentLog") (by decide +kernel)
  have ini_X0 := hts _ (List.mem_cons_of_mem _ tw_85)
  have im_yX0_putNumber := hts _ (List.mem_cons_of_mem _ tw_307)
  have se_yX0_putNumber := hts _ (List.mem_cons_of_mem _ tw_16)
  have n140 := hN (.methodLinkNest RX5 140 yX3_value "SegmentLog") (by decide +kernel)
  have im_yX3_value := hts _ (List.mem_cons_of_mem _ tw_328)
  have se_yX3_value := hts _ (List.mem_cons_of_mem _ tw_21)
  refine lv_bipush (v := nI 8) hx hb dX5_queueRecord_0 (by decide) ?_
  refine lv_iload_n hx hb dX5_queueRecord_2 rfl (lv_at hl 2 rfl) ?_
  refine lv_bipush (v := nI 16) hx hb dX5_queueRecord_3 (by decide) ?_
  refine x_imul hx hb dX5_queueRecord_5 ?_
  refine x_iadd hx hb dX5_queueRecord_6 ?_
  refine lv_istore (lv' := [(4, .int (nI (8 + (p1 * 16)))), (0, .ref (a 0)), (1, .int (nI z)), (2, .int (nI p1)), (3, .int (nI i))]) hx hb dX5_queueRecord_7 hl (by decide) rfl (fun ls hl => ?_)
  refine lv_aload_n hx hb dX5_queueRecord_9 rfl (lv_at hl 1 rfl) ?_
  refine va_get (D := (dC, dI)) (ci := 5) (v := .ref (a 5)) (C := RX5) (T := TX5) (N := 11) hx hb hts in_X5 hown hK hP 0 rfl rfl 2 (by decide) f28 (fun _ h9 => h9) rfl dX5_queueRecord_10 ?_
  refine va_getN (D := (dC, dI)) (ci := 2) (v := .ref (a 6)) (C := RX2) (T := TX2) (N := 3) hx hb hts in_X2 hown hK hP 5 rfl rfl 0 (by decide) (va_Nw.use (A := args) rfl f209) (fun _ h9 => h9) rfl dX5_queueRecord_13 ?_
  refine lv_iload_n hx hb dX5_queueRecord_16 rfl (lv_at hl 2 rfl) ?_
  refine lv_iload hx hb dX5_queueRecord_17 (lv_at hl 0 rfl) ?_
  refine lv_bipush (v := nI 8) hx hb dX5_queueRecord_19 (by decide) ?_
  refine lv_aload_n hx hb dX5_queueRecord_21 rfl (lv_at hl 1 rfl) ?_
  refine va_get (D := (dC, dI)) (ci := 5) (v := .ref (a 9)) (C := RX5) (T := TX5) (N := 11) hx hb hts in_X5 hown hK hP 0 rfl rfl 3 (by decide) f35 (fun _ h9 => h9) rfl dX5_queueRecord_22 ?_
  refine lv_iload_n hx hb dX5_queueRecord_25 rfl (lv_at hl 4 rfl) ?_
  refine x_calll (va_runVN (As := [.int (nI i)]) (rest := [.int (nI 8), .int (nI (8 + (p1 * 16))), .int (nI z), .ref (a 6)]) ⟨hx, hb, hml, hown, hts⟩ (c_Ta_key (by omega) i (by omega)) ⟨(va_cnB 1 hts (tbG tw_321) rfl rfl rfl n148 ini_X3 (by decide +kernel) ⟨Nat.le_of_ble_eq_true rfl, Nat.le_of_ble_eq_true rfl⟩), im_yX3_key, se_yX3_key⟩ ⟨x_blind, va_recv hK hP (ci := 3) (q0 := 9) rfl rfl, x_pre hK hP hD hN⟩ rfl rfl hl.1 rfl (lv_room (Nat.le_of_ble_eq_true rfl)) dX5_queueRecord_26 ⟨Nat.zero_le _, Nat.zero_le _⟩) hS (fun H locs hP hD hS => ?_)
  have hP : va_P (dC, dI) vwCl (wS a cB cI cL h1 h2 s1 s2 op nx wt sf lf dn dg un ug qn qt qg tn tk tv ts ef eg ex eF pf pg px pF) H := hP
  have hD : va_D A (wS a cB cI cL h1 h2 s1 s2 op nx wt sf lf dn dg un ug qn qt qg tn tk tv ts ef eg ex eF pf pg px pF) := hD
  refine x_callv (va_runVN (As := [.int (nI z), .int (nI (8 + (p1 * 16))), .int (nI 8), .long (tk i)]) (rest := []) ⟨hx, hb, hml, hown, hts⟩ (c_Bl_putLong (show okB (fun qg' => wS a cB cI cL h1 h2 s1 s2 op nx wt sf lf dn dg un ug qn qt qg' tn tk tv ts ef eg ex eF pf pg px pF) 6 7 (a 6) (a 7) cB 64 from ⟨fun _ => rfl, fun _ => rfl, fun _ _ => rfl⟩) (tyS_B cB cI cL) (by omega) qg hqg z (8 + (p1 * 16)) 8 (tk i) (by omega) (by omega)) ⟨(va_cnB 4 hts (tbG tw_308) rfl rfl rfl n212 ini_X0 (by decide +kernel) ⟨Nat.le_of_ble_eq_true rfl, Nat.le_of_ble_eq_true rfl⟩), im_yX0_putNumber, se_yX0_putNumber⟩ ⟨x_blind, va_recv hK hP (ci := 0) (q0 := 6) rfl rfl, x_pre hK hP hD hN⟩ rfl rfl hl.1 rfl (lv_room (Nat.le_of_ble_eq_true rfl)) dX5_queueRecord_29 ⟨Nat.zero_le _, Nat.zero_le _⟩) hS (fun H locs hP hD hS => ?_)
  have hP : va_P (dC, dI) vwCl (wS a cB cI cL h1 h2 s1 s2 op nx wt sf lf dn dg un ug qn qt (pnum 64 z 8 qg (8 + (p1 * 16)) (uL (tk i))) tn tk tv ts ef eg ex eF pf pg px pF) H := hP
  have hD : va_D A (wS a cB cI cL h1 h2 s1 s2 op nx wt sf lf dn dg un ug qn qt (pnum 64 z 8 qg (8 + (p1 * 16)) (uL (tk i))) tn tk tv ts ef eg ex eF pf pg px pF) := hD
  refine lv_aload_n hx hb dX5_queueRecord_32 rfl (lv_at hl 1 rfl) ?_
  refine va_get (D := (dC, dI)) (ci := 5) (v := .ref (a 5)) (C := RX5) (T := TX5) (N := 11) hx hb hts in_X5 hown hK hP 0 rfl rfl 2 (by decide) f28 (fun _ h9 => h9) rfl dX5_queueRecord_33 ?_
  refine va_getN (D := (dC, dI)) (ci := 2) (v := .ref (a 6)) (C := RX2) (T := TX2) (N := 3) hx hb hts in_X2 hown hK hP 5 rfl rfl 0 (by decide) (va_Nw.use (A := args) rfl f209) (fun _ h9 => h9) rfl dX5_queueRecord_36 ?_
  refine lv_iload_n hx hb dX5_queueRecord_39 rfl (lv_at hl 2 rfl) ?_
  refine lv_iload hx hb dX5_queueRecord_40 (lv_at hl 0 rfl) ?_
  refine lv_bipush (v := nI 8) hx hb dX5_queueRecord_42 (by decide) ?_
  refine x_iadd hx hb dX5_queueRecord_44 ?_
  refine lv_bipush (v := nI 8) hx hb dX5_queueRecord_45 (by decide) ?_
  refine lv_aload_n hx hb dX5_queueRecord_47 rfl (lv_at hl 1 rfl) ?_
  refine va_get (D := (dC, dI)) (ci := 5) (v := .ref (a 9)) (C := RX5) (T := TX5) (N := 11) hx hb hts in_X5 hown hK hP 0 rfl rfl 3 (by decide) f35 (fun _ h9 => h9) rfl dX5_queueRecord_48 ?_
  refine lv_iload_n hx hb dX5_queueRecord_51 rfl (lv_at hl 4 rfl) ?_
  refine x_calll (va_runVN (As := [.int (nI i)]) (rest := [.int (nI 8), .int (nI ((8 + (p1 * 16)) + 8)), .int (nI z), .ref (a 6)]) ⟨hx, hb, hml, hown, hts⟩ (c_Ta_value (by omega) i (by omega)) ⟨(va_cnB 1 hts (tbG tw_329) rfl rfl rfl n140 ini_X3 (by decide +kernel) ⟨Nat.le_of_ble_eq_true rfl, Nat.le_of_ble_eq_true rfl⟩), im_yX3_value, se_yX3_value⟩ ⟨x_blind, va_recv hK hP (ci := 3) (q0 := 9) rfl rfl, x_pre hK hP hD hN⟩ rfl rfl hl.1 rfl (lv_room (Nat.le_of_ble_eq_true rfl)) dX5_queueRecord_52 ⟨Nat.zero_le _, Nat.zero_le _⟩) hS (fun H locs hP hD hS => ?_)
  have hP : va_P (dC, dI) vwCl (wS a cB cI cL h1 h2 s1 s2 op nx wt sf lf dn dg un ug qn qt (pnum 64 z 8 qg (8 + (p1 * 16)) (uL (tk i))) tn tk tv ts ef eg ex eF pf pg px pF) H := hP
  have hD : va_D A (wS a cB cI cL h1 h2 s1 s2 op nx wt sf lf dn dg un ug qn qt (pnum 64 z 8 qg (8 + (p1 * 16)) (uL (tk i))) tn tk tv ts ef eg ex eF pf pg px pF) := hD
  refine x_callv (va_runVN (As := [.int (nI z), .int (nI ((8 + (p1 * 16)) + 8)), .int (nI 8), .long (tv i)]) (rest := []) ⟨hx, hb, hml, hown, hts⟩ (c_Bl_putLong (show okB (fun qg' => wS a cB cI cL h1 h2 s1 s2 op nx wt sf lf dn dg un ug qn qt qg' tn tk tv ts ef eg ex eF pf pg px pF) 6 7 (a 6) (a 7) cB 64 from ⟨fun _ => rfl, fun _ => rfl, fun _ _ => rfl⟩) (tyS_B cB cI cL) (by omega) (pnum 64 z 8 qg (8 + (p1 * 16)) (uL (tk i))) (pnum_lt hqg) z ((8 + (p1 * 16)) + 8) 8 (tv i) (by omega) (by omega)) ⟨(va_cnB 4 hts (tbG tw_308) rfl rfl rfl n212 ini_X0 (by decide +kernel) ⟨Nat.le_of_ble_eq_true rfl, Nat.le_of_ble_eq_true rfl⟩), im_yX0_putNumber, se_yX0_putNumber⟩ ⟨x_blind, va_recv hK hP (ci := 0) (q0 := 6) rfl rfl, x_pre hK hP hD hN⟩ rfl rfl hl.1 rfl (lv_room (Nat.le_of_ble_eq_true rfl)) dX5_queueRecord_55 ⟨Nat.zero_le _, Nat.zero_le _⟩) hS (fun H locs hP hD hS => ?_)
  have hP : va_P (dC, dI) vwCl (wS a cB cI cL h1 h2 s1 s2 op nx wt sf lf dn dg un ug qn qt (pnum 64 z 8 (pnum 64 z 8 qg (8 + (p1 * 16)) (uL (tk i))) ((8 + (p1 * 16)) + 8) (uL (tv i))) tn tk tv ts ef eg ex eF pf pg px pF) H := hP
  have hD : va_D A (wS a cB cI cL h1 h2 s1 s2 op nx wt sf lf dn dg un ug qn qt (pnum 64 z 8 (pnum 64 z 8 qg (8 + (p1 * 16)) (uL (tk i))) ((8 + (p1 * 16)) + 8) (uL (tv i))) tn tk tv ts ef eg ex eF pf pg px pF) := hD
  have e1 : (pnum 64 z 8 (pnum 64 z 8 qg (8 + (p1 * 16)) (uL (tk i))) ((8 + (p1 * 16)) + 8) (uL (tv i))) = (qrec z p1 (tk i) (tv i) qg) := by rfl
  have h9 : wS a cB cI cL h1 h2 s1 s2 op nx wt sf lf dn dg un ug qn qt (pnum 64 z 8 (pnum 64 z 8 qg (8 + (p1 * 16)) (uL (tk i))) ((8 + (p1 * 16)) + 8) (uL (tv i))) tn tk tv ts ef eg ex eF pf pg px pF = wS a cB cI cL h1 h2 s1 s2 op nx wt sf lf dn dg un ug qn qt (qrec z p1 (tk i) (tv i) qg) tn tk tv ts ef eg ex eF pf pg px pF := by rw [e1]
  have hP := x_wP h9 hP
  have hD := x_wD h9 hD
  exact hret dX5_queueRecord_58 hP hD hS

set_option maxHeartbeats 4000000 in
set_option maxRecDepth 100000 in
theorem c_SL_readRecord {l : Launch} {dC : Nat → ClassId} {dI : Nat → Nat → Nat} {A : Nat → Prop} {a : Nat → Nat} {cB cI cL : ClassId} {h1 h2 s1 s2 : Nat} {op : Bool} {nx wt sf lf dn : Nat} {dg : Nat → Nat} {un : Nat} {ug : Nat → Nat} {qn : Nat} {qt qg : Nat → Nat} {tn : Nat} {tk tv : Nat → Int64} {ts : Nat → Nat} {ef eg ex : Nat} {eF : Nat → Nat} {pf pg px : Nat} {pF : Nat → Nat} (hdn : dn ≤ 64) (htn : tn ≤ 192) (hdg : ∀ j, dg j < 256) (hs : ∀ j, ts j < 2 ^ 31) (b p1 q : Nat) (hb1 : b < 2 ^ 31) (hp1 : p1 < 2 ^ 20) (hq1 : q < 2 ^ 31) : Met l yX5_readRecord (Cond.code yX5_readRecord cX5_readRecord 5 none :: TB) { frames := 3, cells := 0, slots := 0, locals := 70 } (xPre Nst (dC, dI) A (tyS cB cI cL) (wS a cB cI cL h1 h2 s1 s2 op nx wt sf lf dn dg un ug qn qt qg tn tk tv ts ef eg ex eF pf pg px pF) [.ref (a 0), .int (nI b), .int (nI p1), .int (nI q)]) (xQv (dC, dI) A (wS a cB cI cL h1 h2 s1 s2 op nx wt sf lf dn dg un ug qn qt qg ((rdR dn dg b p1 q (tn, tk, tv, ts)).1) ((rdR dn dg b p1 q (tn, tk, tv, ts)).2.1) ((rdR dn dg b p1 q (tn, tk, tv, ts)).2.2.1) ((rdR dn dg b p1 q (tn, tk, tv, ts)).2.2.2) ef eg ex eF pf pg px pF)) 0 0 A := by
  refine x_ofWv (cc := cX5_readRecord) (maxL := 5) (by decide) rfl (Nat.le_of_ble_eq_true rfl) ?_
  intro p e s m args below meth c Q hx hb hml hts hown hK hN hP hD hS hret ls hl
  have hl : lv_has ls 5 [(0, .ref (a 0)), (1, .int (nI b)), (2, .int (nI p1)), (3, .int (nI q))] := hl
  have hown : s.vm.findClass RX5 = some m.cls := hown
  have w8 : num dn dg b 8 (8 + p1 * 16) < 18446744073709551616 := num_lt hdg 8 _
  have w9 : num dn dg b 8 (8 + p1 * 16 + 8) < 18446744073709551616 := num_lt hdg 8 _
  have f35 := hts _ (List.mem_cons_of_mem _ tw_210)
  have in_X5 := (fun q hq => List.mem_cons_of_mem _ (inX5 q hq) : ∀ q ∈ wsX50, q ∈ (Cond.code yX5_readRecord cX5_readRecord 5 none :: TB))
  have f14 := hts _ (List.mem_cons_of_mem _ tw_207)
  have n258 := hN (.methodLinkNest RX5 258 yX0_number "SegmentLog") (by decide +kernel)
  have ini_X0 := hts _ (List.mem_cons_of_mem _ tw_85)
  have im_yX0_number := hts _ (List.mem_cons_of_mem _ tw_451)
  have se_yX0_number := hts _ (List.mem_cons_of_mem _ tw_42)
  have n73 := hN (.methodLinkNest RX5 73 yX3_insert "SegmentLog") (by decide +kernel)
  have ini_X3 := hts _ (List.mem_cons_of_mem _ tw_89)
  have im_yX3_insert := hts _ (List.mem_cons_of_mem _ tw_289)
  have se_yX3_insert := hts _ (List.mem_cons_of_mem _ tw_12)
  refine lv_bipush (v := nI 8) hx hb dX5_readRecord_0 (by decide) ?_
  refine lv_iload_n hx hb dX5_readRecord_2 rfl (lv_at hl 2 rfl) ?_
  refine lv_bipush (v := nI 16) hx hb dX5_readRecord_3 (by decide) ?_
  refine x_imul hx hb dX5_readRecord_5 ?_
  refine x_iadd hx hb dX5_readRecord_6 ?_
  refine lv_istore (lv' := [(4, .int (nI (8 + (p1 * 16)))), (0, .ref (a 0)), (1, .int (nI b)), (2, .int (nI p1)), (3, .int (nI q))]) hx hb dX5_readRecord_7 hl (by decide) rfl (fun ls hl => ?_)
  refine lv_aload_n hx hb dX5_readRecord_9 rfl (lv_at hl 1 rfl) ?_
  refine va_get (D := (dC, dI)) (ci := 5) (v := .ref (a 9)) (C := RX5) (T := TX5) (N := 11) hx hb hts in_X5 hown hK hP 0 rfl rfl 3 (by decide) f35 (fun _ h9 => h9) rfl dX5_readRecord_10 ?_
  refine lv_aload_n hx hb dX5_readRecord_13 rfl (lv_at hl 1 rfl) ?_
  refine va_get (D := (dC, dI)) (ci := 5) (v := .ref (a 1)) (C := RX5) (T := TX5) (N := 11) hx hb hts in_X5 hown hK hP 0 rfl rfl 0 (by decide) f14 (fun _ h9 => h9) rfl dX5_readRecord_14 ?_
  refine lv_iload_n hx hb dX5_readRecord_17 rfl (lv_at hl 2 rfl) ?_
  refine lv_iload hx hb dX5_readRecord_18 (lv_at hl 0 rfl) ?_
  refine lv_bipush (v := nI 8) hx hb dX5_readRecord_20 (by decide) ?_
  refine x_calll (va_runVN (As := [.int (nI b), .int (nI (8 + (p1 * 16))), .int (nI 8)]) (rest := [.ref (a 9)]) ⟨hx, hb, hml, hown, hts⟩ (c_Bl_number (show okB (fun dg' => wS a cB cI cL h1 h2 s1 s2 op nx wt sf lf dn dg' un ug qn qt qg tn tk tv ts ef eg ex eF pf pg px pF) 1 2 (a 1) (a 2) cB dn from ⟨fun _ => rfl, fun _ => rfl, fun _ _ => rfl⟩) (tyS_B cB cI cL) (by omega) dg hdg b (8 + (p1 * 16)) 8 (by omega) (by omega) (by omega)) ⟨(va_cnB 3 hts (tbG tw_452) rfl rfl rfl n258 ini_X0 (by decide +kernel) ⟨Nat.le_of_ble_eq_true rfl, Nat.le_of_ble_eq_true rfl⟩), im_yX0_number, se_yX0_number⟩ ⟨x_blind, va_recv hK hP (ci := 0) (q0 := 1) rfl rfl, x_pre hK hP hD hN⟩ rfl rfl hl.1 rfl (lv_room (Nat.le_of_ble_eq_true rfl)) dX5_readRecord_22 ⟨Nat.zero_le _, Nat.zero_le _⟩) hS (fun H locs hP hD hS => ?_)
  have hP : va_P (dC, dI) vwCl (wS a cB cI cL h1 h2 s1 s2 op nx wt sf lf dn dg un ug qn qt qg tn tk tv ts ef eg ex eF pf pg px pF) H := hP
  have hD : va_D A (wS a cB cI cL h1 h2 s1 s2 op nx wt sf lf dn dg un ug qn qt qg tn tk tv ts ef eg ex eF pf pg px pF) := hD
  refine lv_aload_n hx hb dX5_readRecord_25 rfl (lv_at hl 1 rfl) ?_
  refine va_get (D := (dC, dI)) (ci := 5) (v := .ref (a 1)) (C := RX5) (T := TX5) (N := 11) hx hb hts in_X5 hown hK hP 0 rfl rfl 0 (by decide) f14 (fun _ h9 => h9) rfl dX5_readRecord_26 ?_
  refine lv_iload_n hx hb dX5_readRecord_29 rfl (lv_at hl 2 rfl) ?_
  refine lv_iload hx hb dX5_readRecord_30 (lv_at hl 0 rfl) ?_
  refine lv_bipush (v := nI 8) hx hb dX5_readRecord_32 (by decide) ?_
  refine x_iadd hx hb dX5_readRecord_34 ?_
  refine lv_bipush (v := nI 8) hx hb dX5_readRecord_35 (by decide) ?_
  refine x_calll (va_runVN (As := [.int (nI b), .int (nI ((8 + (p1 * 16)) + 8)), .int (nI 8)]) (rest := [.long (lN (num dn dg b 8 (8 + (p1 * 16)))), .ref (a 9)]) ⟨hx, hb, hml, hown, hts⟩ (c_Bl_number (show okB (fun dg' => wS a cB cI cL h1 h2 s1 s2 op nx wt sf lf dn dg' un ug qn qt qg tn tk tv ts ef eg ex eF pf pg px pF) 1 2 (a 1) (a 2) cB dn from ⟨fun _ => rfl, fun _ => rfl, fun _ _ => rfl⟩) (tyS_B cB cI cL) (by omega) dg hdg b ((8 + (p1 * 16)) + 8) 8 (by omega) (by omega) (by omega)) ⟨(va_cnB 3 hts (tbG tw_452) rfl rfl rfl n258 ini_X0 (by decide +kernel) ⟨Nat.le_of_ble_eq_true rfl, Nat.le_of_ble_eq_true rfl⟩), im_yX0_number, se_yX0_number⟩ ⟨x_blind, va_recv hK hP (ci := 0) (q0 := 1) rfl rfl, x_pre hK hP hD hN⟩ rfl rfl hl.1 rfl (lv_room (Nat.le_of_ble_eq_true rfl)) dX5_readRecord_37 ⟨Nat.zero_le _, Nat.zero_le _⟩) hS (fun H locs hP hD hS => ?_)
  have hP : va_P (dC, dI) vwCl (wS a cB cI cL h1 h2 s1 s2 op nx wt sf lf dn dg un ug qn qt qg tn tk tv ts ef eg ex eF pf pg px pF) H := hP
  have hD : va_D A (wS a cB cI cL h1 h2 s1 s2 op nx wt sf lf dn dg un ug qn qt qg tn tk tv ts ef eg ex eF pf pg px pF) := hD
  refine lv_iload_n hx hb dX5_readRecord_40 rfl (lv_at hl 4 rfl) ?_
  refine x_callv (va_runVN (As := [.long (lN (num dn dg b 8 (8 + (p1 * 16)))), .long (lN (num dn dg b 8 ((8 + (p1 * 16)) + 8))), .int (nI q)]) (rest := []) ⟨hx, hb, hml, hown, hts⟩ (c_Ta_insert (by omega) hs (lN (num dn dg b 8 (8 + (p1 * 16)))) (lN (num dn dg b 8 ((8 + (p1 * 16)) + 8))) q (by omega)) ⟨(va_cnB 3 hts (tbG tw_290) rfl rfl rfl n73 ini_X3 (by decide +kernel) ⟨Nat.le_of_ble_eq_true rfl, Nat.le_of_ble_eq_true rfl⟩), im_yX3_insert, se_yX3_insert⟩ ⟨x_blind, va_recv hK hP (ci := 3) (q0 := 9) rfl rfl, x_pre hK hP hD hN⟩ rfl rfl hl.1 rfl (lv_room (Nat.le_of_ble_eq_true rfl)) dX5_readRecord_41 ⟨Nat.zero_le _, Nat.zero_le _⟩) hS (fun H locs hP hD hS => ?_)
  have hP : va_P (dC, dI) vwCl (wS a cB cI cL h1 h2 s1 s2 op nx wt sf lf dn dg un ug qn qt qg ((tI (tn, tk, tv, ts) (lN (num dn dg b 8 (8 + (p1 * 16)))) (lN (num dn dg b 8 ((8 + (p1 * 16)) + 8))) q).1) ((tI (tn, tk, tv, ts) (lN (num dn dg b 8 (8 + (p1 * 16)))) (lN (num dn dg b 8 ((8 + (p1 * 16)) + 8))) q).2.1) ((tI (tn, tk, tv, ts) (lN (num dn dg b 8 (8 + (p1 * 16)))) (lN (num dn dg b 8 ((8 + (p1 * 16)) + 8))) q).2.2.1) ((tI (tn, tk, tv, ts) (lN (num dn dg b 8 (8 + (p1 * 16)))) (lN (num dn dg b 8 ((8 + (p1 * 16)) + 8))) q).2.2.2) ef eg ex eF pf pg px pF) H := hP
  have hD : va_D A (wS a cB cI cL h1 h2 s1 s2 op nx wt sf lf dn dg un ug qn qt qg ((tI (tn, tk, tv, ts) (lN (num dn dg b 8 (8 + (p1 * 16)))) (lN (num dn dg b 8 ((8 + (p1 * 16)) + 8))) q).1) ((tI (tn, tk, tv, ts) (lN (num dn dg b 8 (8 + (p1 * 16)))) (lN (num dn dg b 8 ((8 + (p1 * 16)) + 8))) q).2.1) ((tI (tn, tk, tv, ts) (lN (num dn dg b 8 (8 + (p1 * 16)))) (lN (num dn dg b 8 ((8 + (p1 * 16)) + 8))) q).2.2.1) ((tI (tn, tk, tv, ts) (lN (num dn dg b 8 (8 + (p1 * 16)))) (lN (num dn dg b 8 ((8 + (p1 * 16)) + 8))) q).2.2.2) ef eg ex eF pf pg px pF) := hD
  have e1 : ((tI (tn, tk, tv, ts) (lN (num dn dg b 8 (8 + (p1 * 16)))) (lN (num dn dg b 8 ((8 + (p1 * 16)) + 8))) q).1) = ((rdR dn dg b p1 q (tn, tk, tv, ts)).1) := by rfl
  have h9 : wS a cB cI cL h1 h2 s1 s2 op nx wt sf lf dn dg un ug qn qt qg ((tI (tn, tk, tv, ts) (lN (num dn dg b 8 (8 + (p1 * 16)))) (lN (num dn dg b 8 ((8 + (p1 * 16)) + 8))) q).1) ((tI (tn, tk, tv, ts) (lN (num dn dg b 8 (8 + (p1 * 16)))) (lN (num dn dg b 8 ((8 + (p1 * 16)) + 8))) q).2.1) ((tI (tn, tk, tv, ts) (lN (num dn dg b 8 (8 + (p1 * 16)))) (lN (num dn dg b 8 ((8 + (p1 * 16)) + 8))) q).2.2.1) ((tI (tn, tk, tv, ts) (lN (num dn dg b 8 (8 + (p1 * 16)))) (lN (num dn dg b 8 ((8 + (p1 * 16)) + 8))) q).2.2.2) ef eg ex eF pf pg px pF = wS a cB cI cL h1 h2 s1 s2 op nx wt sf lf dn dg un ug qn qt qg ((rdR dn dg b p1 q (tn, tk, tv, ts)).1) ((tI (tn, tk, tv, ts) (lN (num dn dg b 8 (8 + (p1 * 16)))) (lN (num dn dg b 8 ((8 + (p1 * 16)) + 8))) q).2.1) ((tI (tn, tk, tv, ts) (lN (num dn dg b 8 (8 + (p1 * 16)))) (lN (num dn dg b 8 ((8 + (p1 * 16)) + 8))) q).2.2.1) ((tI (tn, tk, tv, ts) (lN (num dn dg b 8 (8 + (p1 * 16)))) (lN (num dn dg b 8 ((8 + (p1 * 16)) + 8))) q).2.2.2) ef eg ex eF pf pg px pF := by rw [e1]
  have hP := x_wP h9 hP
  have hD := x_wD h9 hD
  have e2 : ((tI (tn, tk, tv, ts) (lN (num dn dg b 8 (8 + (p1 * 16)))) (lN (num dn dg b 8 ((8 + (p1 * 16)) + 8))) q).2.1) = ((rdR dn dg b p1 q (tn, tk, tv, ts)).2.1) := by rfl
  have h9 : wS a cB cI cL h1 h2 s1 s2 op nx wt sf lf dn dg un ug qn qt qg ((rdR dn dg b p1 q (tn, tk, tv, ts)).1) ((tI (tn, tk, tv, ts) (lN (num dn dg b 8 (8 + (p1 * 16)))) (lN (num dn dg b 8 ((8 + (p1 * 16)) + 8))) q).2.1) ((tI (tn, tk, tv, ts) (lN (num dn dg b 8 (8 + (p1 * 16)))) (lN (num dn dg b 8 ((8 + (p1 * 16)) + 8))) q).2.2.1) ((tI (tn, tk, tv, ts) (lN (num dn dg b 8 (8 + (p1 * 16)))) (lN (num dn dg b 8 ((8 + (p1 * 16)) + 8))) q).2.2.2) ef eg ex eF pf pg px pF = wS a cB cI cL h1 h2 s1 s2 op nx wt sf lf dn dg un ug qn qt qg ((rdR dn dg b p1 q (tn, tk, tv, ts)).1) ((rdR dn dg b p1 q (tn, tk, tv, ts)).2.1) ((tI (tn, tk, tv, ts) (lN (num dn dg b 8 (8 + (p1 * 16)))) (lN (num dn dg b 8 ((8 + (p1 * 16)) + 8))) q).2.2.1) ((tI (tn, tk, tv, ts) (lN (num dn dg b 8 (8 + (p1 * 16)))) (lN (num dn dg b 8 ((8 + (p1 * 16)) + 8))) q).2.2.2) ef eg ex eF pf pg px pF := by rw [e2]
  have hP := x_wP h9 hP
  have hD := x_wD h9 hD
  have e3 : ((tI (tn, tk, tv, ts) (lN (num dn dg b 8 (8 + (p1 * 16)))) (lN (num dn dg b 8 ((8 + (p1 * 16)) + 8))) q).2.2.1) = ((rdR dn dg b p1 q (tn, tk, tv, ts)).2.2.1) := by rfl
  have h9 : wS a cB cI cL h1 h2 s1 s2 op nx wt sf lf dn dg un ug qn qt qg ((rdR dn dg b p1 q (tn, tk, tv, ts)).1) ((rdR dn dg b p1 q (tn, tk, tv, ts)).2.1) ((tI (tn, tk, tv, ts) (lN (num dn dg b 8 (8 + (p1 * 16)))) (lN (num dn dg b 8 ((8 + (p1 * 16)) + 8))) q).2.2.1) ((tI (tn, tk, tv, ts) (lN (num dn dg b 8 (8 + (p1 * 16)))) (lN (num dn dg b 8 ((8 + (p1 * 16)) + 8))) q).2.2.2) ef eg ex eF pf pg px pF = wS a cB cI cL h1 h2 s1 s2 op nx wt sf lf dn dg un ug qn qt qg ((rdR dn dg b p1 q (tn, tk, tv, ts)).1) ((rdR dn dg b p1 q (tn, tk, tv, ts)).2.1) ((rdR dn dg b p1 q (tn, tk, tv, ts)).2.2.1) ((tI (tn, tk, tv, ts) (lN (num dn dg b 8 (8 + (p1 * 16)))) (lN (num dn dg b 8 ((8 + (p1 * 16)) + 8))) q).2.2.2) ef eg ex eF pf pg px pF := by rw [e3]
  have hP := x_wP h9 hP
  have hD := x_wD h9 hD
  have e4 : ((tI (tn, tk, tv, ts) (lN (num dn dg b 8 (8 + (p1 * 16)))) (lN (num dn dg b 8 ((8 + (p1 * 16)) + 8))) q).2.2.2) = ((rdR dn dg b p1 q (tn, tk, tv, ts)).2.2.2) := by rfl
  have h9 : wS a cB cI cL h1 h2 s1 s2 op nx wt sf lf dn dg un ug qn qt qg ((rdR dn dg b p1 q (tn, tk, tv, ts)).1) ((rdR dn dg b p1 q (tn, tk, tv, ts)).2.1) ((rdR dn dg b p1 q (tn, tk, tv, ts)).2.2.1) ((tI (tn, tk, tv, ts) (lN (num dn dg b 8 (8 + (p1 * 16)))) (lN (num dn dg b 8 ((8 + (p1 * 16)) + 8))) q).2.2.2) ef eg ex eF pf pg px pF = wS a cB cI cL h1 h2 s1 s2 op nx wt sf lf dn dg un ug qn qt qg ((rdR dn dg b p1 q (tn, tk, tv, ts)).1) ((rdR dn dg b p1 q (tn, tk, tv, ts)).2.1) ((rdR dn dg b p1 q (tn, tk, tv, ts)).2.2.1) ((rdR dn dg b p1 q (tn, tk, tv, ts)).2.2.2) ef eg ex eF pf pg px pF := by rw [e4]
  have hP := x_wP h9 hP
  have hD := x_wD h9 hD
  exact hret dX5_readRecord_44 hP hD hS

set_option maxHeartbeats 4000000 in
set_option maxRecDepth 100000 in
theorem c_SL_isFileBlock {l : Launch} {dC : Nat → ClassId} {dI : Nat → Nat → Nat} {A : Nat → Prop} {a : Nat → Nat} {cB cI cL : ClassId} {h1 h2 s1 s2 : Nat} {op : Bool} {nx wt sf lf dn : Nat} {dg : Nat → Nat} {un : Nat} {ug : Nat → Nat} {qn : Nat} {qt qg : Nat → Nat} {tn : Nat} {tk tv : Nat → Int64} {ts : Nat → Nat} {ef eg ex : Nat} {eF : Nat → Nat} {pf pg px : Nat} {pF : Nat → Nat} (hdn : dn ≤ 64) (hdg : ∀ j, dg j < 256) (heF : ∀ j, eF j < 1048576) (hef : ef ≤ 5) (i p1 : Nat) (hi1 : i < 2 ^ 20) (hp1 : p1 < 2 ^ 20) (hr1 : p1 * 3 ≤ hfl ef eF i 3) : Met l yX5_isFileBlock (Cond.code yX5_isFileBlock cX5_isFileBlock 4 (some .boolean) :: TB) { frames := 4, cells := 0, slots := 0, locals := 92 } (xPre Nst (dC, dI) A (tyS cB cI cL) (wS a cB cI cL h1 h2 s1 s2 op nx wt sf lf dn dg un ug qn qt qg tn tk tv ts ef eg ex eF pf pg px pF) [.ref (a 0), .int (nI i), .int (nI p1)]) (xQi (dC, dI) A (bI (ifb dn dg ef eF i p1)) (wS a cB cI cL h1 h2 s1 s2 op nx wt sf lf dn dg un ug qn qt qg tn tk tv ts ef eg ex eF pf pg px pF)) 0 0 A := by
  refine x_ofWz (cc := cX5_isFileBlock) (maxL := 4) (by decide) rfl (Nat.le_of_ble_eq_true rfl) (x_narZ _) ?_
  intro p e s m args below meth c Q hx hb hml hts hown hK hN hP hD hS hret ls hl
  have hl : lv_has ls 4 [(0, .ref (a 0)), (1, .int (nI i)), (2, .int (nI p1))] := hl
  have hown : s.vm.findClass RX5 = some m.cls := hown
  have w2 := num2_lt (n := dn) (b := hfl ef eF i 1 + p1) hdg 2
  have w4 := num2_lt (n := dn) (b := hfl ef eF i 1 + p1) hdg 4
  have w6 := num2_lt (n := dn) (b := hfl ef eF i 1 + p1) hdg 6
  have f42 := hts _ (List.mem_cons_of_mem _ tw_211)
  have in_X5 := (fun q hq => List.mem_cons_of_mem _ (inX5 q hq) : ∀ q ∈ wsX50, q ∈ (Cond.code yX5_isFileBlock cX5_isFileBlock 4 (some .boolean) :: TB))
  have n157 := hN (.methodLinkNest RX5 157 yX1_field "SegmentLog") (by decide +kernel)
  have ini_X1 := hts _ (List.mem_cons_of_mem _ tw_90)
  have im_yX1_field := hts _ (List.mem_cons_of_mem _ tw_386)
  have se_yX1_field := hts _ (List.mem_cons_of_mem _ tw_30)
  have f14 := hts _ (List.mem_cons_of_mem _ tw_207)
  have n161 := hN (.methodLinkNest RX5 161 yX0_has "SegmentLog") (by decide +kernel)
  have ini_X0 := hts _ (List.mem_cons_of_mem _ tw_85)
  have im_yX0_has := hts _ (List.mem_cons_of_mem _ tw_259)
  have se_yX0_has := hts _ (List.mem_cons_of_mem _ tw_6)
  have n177 := hN (.methodLinkNest RX5 177 yX0_isWhole "SegmentLog") (by decide +kernel)
  have im_yX0_isWhole := hts _ (List.mem_cons_of_mem _ tw_447)
  have se_yX0_isWhole := hts _ (List.mem_cons_of_mem _ tw_41)
  have n167 := hN (.methodLinkNest RX5 167 yX0_value "SegmentLog") (by decide +kernel)
  have im_yX0_value := hts _ (List.mem_cons_of_mem _ tw_344)
  have se_yX0_value := hts _ (List.mem_cons_of_mem _ tw_25)
  have n258 := hN (.methodLinkNest RX5 258 yX0_number "SegmentLog") (by decide +kernel)
  have im_yX0_number := hts _ (List.mem_cons_of_mem _ tw_451)
  have se_yX0_number := hts _ (List.mem_cons_of_mem _ tw_42)
  refine lv_aload_n hx hb dX5_isFileBlock_0 rfl (lv_at hl 0 rfl) ?_
  refine va_get (D := (dC, dI)) (ci := 5) (v := .ref h1) (C := RX5) (T := TX5) (N := 11) hx hb hts in_X5 hown hK hP 0 rfl rfl 4 (by decide) f42 (fun _ h9 => h9) rfl dX5_isFileBlock_1 ?_
  refine lv_iload_n hx hb dX5_isFileBlock_4 rfl (lv_at hl 1 rfl) ?_
  refine lv_iconst (v := nI 1) hx hb dX5_isFileBlock_5 (by decide) ?_
  refine x_calli (va_runVN (As := [.int (nI i), .int (nI 1)]) (rest := []) ⟨hx, hb, hml, hown, hts⟩ (c_He_field (show okH (fun ef' eg' ex' eF' => wS a cB cI cL h1 h2 s1 s2 op nx wt sf lf dn dg un ug qn qt qg tn tk tv ts ef' eg' ex' eF' pf pg px pF) 13 14 h1 h2 cI from ⟨fun _ _ _ _ => rfl, fun _ _ _ _ => rfl, fun _ _ _ _ _ _ _ => rfl, fun _ _ _ _ _ => rfl⟩) (tyS_I cB cI cL) ef eg ex eF i 1 (by omega) (by omega) (by omega)) ⟨(va_cnB 2 hts (tbG tw_387) rfl rfl rfl n157 ini_X1 (by decide +kernel) ⟨Nat.le_of_ble_eq_true rfl, Nat.le_of_ble_eq_true rfl⟩), im_yX1_field, se_yX1_field⟩ ⟨x_blind, va_recv hK hP (ci := 1) (q0 := 13) rfl rfl, x_pre hK hP hD hN⟩ rfl rfl hl.1 rfl (lv_room (Nat.le_of_ble_eq_true rfl)) dX5_isFileBlock_6 ⟨Nat.zero_le _, Nat.zero_le _⟩) hS (fun H locs hP hD hS => ?_)
  have hP : va_P (dC, dI) vwCl (wS a cB cI cL h1 h2 s1 s2 op nx wt sf lf dn dg un ug qn qt qg tn tk tv ts ef eg ex eF pf pg px pF) H := hP
  have hD : va_D A (wS a cB cI cL h1 h2 s1 s2 op nx wt sf lf dn dg un ug qn qt qg tn tk tv ts ef eg ex eF pf pg px pF) := hD
  have hv6 : hfl ef eF i 1 < 1048576 := hfl_lt heF
  refine lv_iload_n hx hb dX5_isFileBlock_9 rfl (lv_at hl 2 rfl) ?_
  refine x_iadd hx hb dX5_isFileBlock_10 ?_
  refine lv_istore_n (lv' := [(3, .int (nI ((hfl ef eF i 1) + p1))), (0, .ref (a 0)), (1, .int (nI i)), (2, .int (nI p1))]) hx hb dX5_isFileBlock_11 rfl hl (by decide) rfl (fun ls hl => ?_)
  refine lv_aload_n hx hb dX5_isFileBlock_12 rfl (lv_at hl 1 rfl) ?_
  refine va_get (D := (dC, dI)) (ci := 5) (v := .ref (a 1)) (C := RX5) (T := TX5) (N := 11) hx hb hts in_X5 hown hK hP 0 rfl rfl 0 (by decide) f14 (fun _ h9 => h9) rfl dX5_isFileBlock_13 ?_
  refine lv_iload_n hx hb dX5_isFileBlock_16 rfl (lv_at hl 0 rfl) ?_
  refine lv_iconst (v := nI 0) hx hb dX5_isFileBlock_17 (by decide) ?_
  refine x_calli (va_runVN (As := [.int (nI ((hfl ef eF i 1) + p1)), .int (nI 0)]) (rest := []) ⟨hx, hb, hml, hown, hts⟩ (c_Bl_hasN (show okB (fun dg' => wS a cB cI cL h1 h2 s1 s2 op nx wt sf lf dn dg' un ug qn qt qg tn tk tv ts ef eg ex eF pf pg px pF) 1 2 (a 1) (a 2) cB dn from ⟨fun _ => rfl, fun _ => rfl, fun _ _ => rfl⟩) (tyS_B cB cI cL) (by omega) dg ((hfl ef eF i 1) + p1) 0 (by omega) (by omega)) ⟨(va_cnB 2 hts (tbG tw_260) rfl rfl rfl n161 ini_X0 (by decide +kernel) ⟨Nat.le_of_ble_eq_true rfl, Nat.le_of_ble_eq_true rfl⟩), im_yX0_has, se_yX0_has⟩ ⟨x_blind, va_recv hK hP (ci := 0) (q0 := 1) rfl rfl, x_pre hK hP hD hN⟩ rfl rfl hl.1 rfl (lv_room (Nat.le_of_ble_eq_true rfl)) dX5_isFileBlock_18 ⟨Nat.zero_le _, Nat.zero_le _⟩) hS (fun H locs hP hD hS => ?_)
  have hP : va_P (dC, dI) vwCl (wS a cB cI cL h1 h2 s1 s2 op nx wt sf lf dn dg un ug qn qt qg tn tk tv ts ef eg ex eF pf pg px pF) H := hP
  have hD : va_D A (wS a cB cI cL h1 h2 s1 s2 op nx wt sf lf dn dg un ug qn qt qg tn tk tv ts ef eg ex eF pf pg px pF) := hD
  refine x_if_eq_b (tgt := 142) hx hb dX5_isFileBlock_21 (by decide) (fun c21 => ?_) (fun c21 => ?_)
  · refine lv_iconst (v := nI 0) hx hb dX5_isFileBlock_142 (by decide) ?_
    exact hret dX5_isFileBlock_143 (by first | exact ifb_t ⟨(of_decide_eq_true c21).1, c32, c45, c70, lN_inj (by omega) (by omega) c94, lN_inj (by omega) (by omega) c110, lN_inj (by omega) (by omega) c135⟩ | exact ifb_f (fun q => of_decide_eq_false c21 ⟨q.1, by decide⟩) | exact ifb_f (fun q => absurd (c32.symm.trans q.2.1) (by decide)) | exact ifb_f (fun q => c45 q.2.2.1) | exact ifb_f (fun q => c70 q.2.2.2.1) | exact ifb_f (fun q => c94 (by rw [q.2.2.2.2.1])) | exact ifb_f (fun q => c110 (by rw [q.2.2.2.2.2.1])) | exact ifb_f (fun q => c135 (by rw [q.2.2.2.2.2.2]))) hP hD hS
  · refine lv_aload_n hx hb dX5_isFileBlock_24 rfl (lv_at hl 1 rfl) ?_
    refine va_get (D := (dC, dI)) (ci := 5) (v := .ref (a 1)) (C := RX5) (T := TX5) (N := 11) hx hb hts in_X5 hown hK hP 0 rfl rfl 0 (by decide) f14 (fun _ h9 => h9) rfl dX5_isFileBlock_25 ?_
    refine lv_iload_n hx hb dX5_isFileBlock_28 rfl (lv_at hl 0 rfl) ?_
    refine x_calli (va_runVN (As := [.int (nI ((hfl ef eF i 1) + p1))]) (rest := []) ⟨hx, hb, hml, hown, hts⟩ (c_Bl_isWhole (show okB (fun dg' => wS a cB cI cL h1 h2 s1 s2 op nx wt sf lf dn dg' un ug qn qt qg tn tk tv ts ef eg ex eF pf pg px pF) 1 2 (a 1) (a 2) cB dn from ⟨fun _ => rfl, fun _ => rfl, fun _ _ => rfl⟩) (tyS_B cB cI cL) (by omega) dg hdg ((hfl ef eF i 1) + p1) (by omega)) ⟨(va_cnB 1 hts (tbG tw_448) rfl rfl rfl n177 ini_X0 (by decide +kernel) ⟨Nat.le_of_ble_eq_true rfl, Nat.le_of_ble_eq_true rfl⟩), im_yX0_isWhole, se_yX0_isWhole⟩ ⟨x_blind, va_recv hK hP (ci := 0) (q0 := 1) rfl rfl, x_pre hK hP hD hN⟩ rfl rfl hl.1 rfl (lv_room (Nat.le_of_ble_eq_true rfl)) dX5_isFileBlock_29 ⟨Nat.zero_le _, Nat.zero_le _⟩) hS (fun H locs hP hD hS => ?_)
    have hP : va_P (dC, dI) vwCl (wS a cB cI cL h1 h2 s1 s2 op nx wt sf lf dn dg un ug qn qt qg tn tk tv ts ef eg ex eF pf pg px pF) H := hP
    have hD : va_D A (wS a cB cI cL h1 h2 s1 s2 op nx wt sf lf dn dg un ug qn qt qg tn tk tv ts ef eg ex eF pf pg px pF) := hD
    refine x_if_eq_b (tgt := 142) hx hb dX5_isFileBlock_32 (by decide) (fun c32 => ?_) (fun c32 => ?_)
    · refine lv_iconst (v := nI 0) hx hb dX5_isFileBlock_142 (by decide) ?_
      exact hret dX5_isFileBlock_143 (by first | exact ifb_t ⟨(of_decide_eq_true c21).1, c32, c45, c70, lN_inj (by omega) (by omega) c94, lN_inj (by omega) (by omega) c110, lN_inj (by omega) (by omega) c135⟩ | exact ifb_f (fun q => of_decide_eq_false c21 ⟨q.1, by decide⟩) | exact ifb_f (fun q => absurd (c32.symm.trans q.2.1) (by decide)) | exact ifb_f (fun q => c45 q.2.2.1) | exact ifb_f (fun q => c70 q.2.2.2.1) | exact ifb_f (fun q => c94 (by rw [q.2.2.2.2.1])) | exact ifb_f (fun q => c110 (by rw [q.2.2.2.2.2.1])) | exact ifb_f (fun q => c135 (by rw [q.2.2.2.2.2.2]))) hP hD hS
    · refine lv_aload_n hx hb dX5_isFileBlock_35 rfl (lv_at hl 1 rfl) ?_
      refine va_get (D := (dC, dI)) (ci := 5) (v := .ref (a 1)) (C := RX5) (T := TX5) (N := 11) hx hb hts in_X5 hown hK hP 0 rfl rfl 0 (by decide) f14 (fun _ h9 => h9) rfl dX5_isFileBlock_36 ?_
      refine lv_iload_n hx hb dX5_isFileBlock_39 rfl (lv_at hl 0 rfl) ?_
      refine lv_iconst (v := nI 0) hx hb dX5_isFileBlock_40 (by decide) ?_
      refine x_calli (va_runVN (As := [.int (nI ((hfl ef eF i 1) + p1)), .int (nI 0)]) (rest := []) ⟨hx, hb, hml, hown, hts⟩ (c_Bl_value (show okB (fun dg' => wS a cB cI cL h1 h2 s1 s2 op nx wt sf lf dn dg' un ug qn qt qg tn tk tv ts ef eg ex eF pf pg px pF) 1 2 (a 1) (a 2) cB dn from ⟨fun _ => rfl, fun _ => rfl, fun _ _ => rfl⟩) (tyS_B cB cI cL) (by omega) dg hdg ((hfl ef eF i 1) + p1) 0 (by omega) (by omega)) ⟨(va_cnB 2 hts (tbG tw_345) rfl rfl rfl n167 ini_X0 (by decide +kernel) ⟨Nat.le_of_ble_eq_true rfl, Nat.le_of_ble_eq_true rfl⟩), im_yX0_value, se_yX0_value⟩ ⟨x_blind, va_recv hK hP (ci := 0) (q0 := 1) rfl rfl, x_pre hK hP hD hN⟩ rfl rfl hl.1 rfl (lv_room (Nat.le_of_ble_eq_true rfl)) dX5_isFileBlock_41 ⟨Nat.zero_le _, Nat.zero_le _⟩) hS (fun H locs hP hD hS => ?_)
      have hP : va_P (dC, dI) vwCl (wS a cB cI cL h1 h2 s1 s2 op nx wt sf lf dn dg un ug qn qt qg tn tk tv ts ef eg ex eF pf pg px pF) H := hP
      have hD : va_D A (wS a cB cI cL h1 h2 s1 s2 op nx wt sf lf dn dg un ug qn qt qg tn tk tv ts ef eg ex eF pf pg px pF) := hD
      have hv41 : bv dn dg ((hfl ef eF i 1) + p1) 0 < 256 := bv_lt hdg
      refine lv_iconst (v := nI 2) hx hb dX5_isFileBlock_44 (by decide) ?_
      refine x_icmp_ne (tgt := 142) hx hb dX5_isFileBlock_45 (by decide) (by omega) (by omega) (fun c45 => ?_) (fun c45 => ?_)
      · refine lv_iconst (v := nI 0) hx hb dX5_isFileBlock_142 (by decide) ?_
        exact hret dX5_isFileBlock_143 (by first | exact ifb_t ⟨(of_decide_eq_true c21).1, c32, c45, c70, lN_inj (by omega) (by omega) c94, lN_inj (by omega) (by omega) c110, lN_inj (by omega) (by omega) c135⟩ | exact ifb_f (fun q => of_decide_eq_false c21 ⟨q.1, by decide⟩) | exact ifb_f (fun q => absurd (c32.symm.trans q.2.1) (by decide)) | exact ifb_f (fun q => c45 q.2.2.1) | exact ifb_f (fun q => c70 q.2.2.2.1) | exact ifb_f (fun q => c94 (by rw [q.2.2.2.2.1])) | exact ifb_f (fun q => c110 (by rw [q.2.2.2.2.2.1])) | exact ifb_f (fun q => c135 (by rw [q.2.2.2.2.2.2]))) hP hD hS
      · refine lv_aload_n hx hb dX5_isFileBlock_48 rfl (lv_at hl 1 rfl) ?_
        refine va_get (D := (dC, dI)) (ci := 5) (v := .ref (a 1)) (C := RX5) (T := TX5) (N := 11) hx hb hts in_X5 hown hK hP 0 rfl rfl 0 (by decide) f14 (fun _ h9 => h9) rfl dX5_isFileBlock_49 ?_
        refine lv_iload_n hx hb dX5_isFileBlock_52 rfl (lv_at hl 0 rfl) ?_
        refine lv_iconst (v := nI 1) hx hb dX5_isFileBlock_53 (by decide) ?_
        refine x_calli (va_runVN (As := [.int (nI ((hfl ef eF i 1) + p1)), .int (nI 1)]) (rest := []) ⟨hx, hb, hml, hown, hts⟩ (c_Bl_value (show okB (fun dg' => wS a cB cI cL h1 h2 s1 s2 op nx wt sf lf dn dg' un ug qn qt qg tn tk tv ts ef eg ex eF pf pg px pF) 1 2 (a 1) (a 2) cB dn from ⟨fun _ => rfl, fun _ => rfl, fun _ _ => rfl⟩) (tyS_B cB cI cL) (by omega) dg hdg ((hfl ef eF i 1) + p1) 1 (by omega) (by omega)) ⟨(va_cnB 2 hts (tbG tw_345) rfl rfl rfl n167 ini_X0 (by decide +kernel) ⟨Nat.le_of_ble_eq_true rfl, Nat.le_of_ble_eq_true rfl⟩), im_yX0_value, se_yX0_value⟩ ⟨x_blind, va_recv hK hP (ci := 0) (q0 := 1) rfl rfl, x_pre hK hP hD hN⟩ rfl rfl hl.1 rfl (lv_room (Nat.le_of_ble_eq_true rfl)) dX5_isFileBlock_54 ⟨Nat.zero_le _, Nat.zero_le _⟩) hS (fun H locs hP hD hS => ?_)
        have hP : va_P (dC, dI) vwCl (wS a cB cI cL h1 h2 s1 s2 op nx wt sf lf dn dg un ug qn qt qg tn tk tv ts ef eg ex eF pf pg px pF) H := hP
        have hD : va_D A (wS a cB cI cL h1 h2 s1 s2 op nx wt sf lf dn dg un ug qn qt qg tn tk tv ts ef eg ex eF pf pg px pF) := hD
        have hv54 : bv dn dg ((hfl ef eF i 1) + p1) 1 < 256 := bv_lt hdg
        refine lv_iload_n hx hb dX5_isFileBlock_57 rfl (lv_at hl 3 rfl) ?_
        refine lv_aload_n hx hb dX5_isFileBlock_58 rfl (lv_at hl 1 rfl) ?_
        refine va_get (D := (dC, dI)) (ci := 5) (v := .ref h1) (C := RX5) (T := TX5) (N := 11) hx hb hts in_X5 hown hK hP 0 rfl rfl 4 (by decide) f42 (fun _ h9 => h9) rfl dX5_isFileBlock_59 ?_
        refine lv_iload_n hx hb dX5_isFileBlock_62 rfl (lv_at hl 2 rfl) ?_
        refine lv_iconst (v := nI 3) hx hb dX5_isFileBlock_63 (by decide) ?_
        refine x_calli (va_runVN (As := [.int (nI i), .int (nI 3)]) (rest := [.int (nI p1), .int (nI (bv dn dg ((hfl ef eF i 1) + p1) 1))]) ⟨hx, hb, hml, hown, hts⟩ (c_He_field (show okH (fun ef' eg' ex' eF' => wS a cB cI cL h1 h2 s1 s2 op nx wt sf lf dn dg un ug qn qt qg tn tk tv ts ef' eg' ex' eF' pf pg px pF) 13 14 h1 h2 cI from ⟨fun _ _ _ _ => rfl, fun _ _ _ _ => rfl, fun _ _ _ _ _ _ _ => rfl, fun _ _ _ _ _ => rfl⟩) (tyS_I cB cI cL) ef eg ex eF i 3 (by omega) (by omega) (by omega)) ⟨(va_cnB 2 hts (tbG tw_387) rfl rfl rfl n157 ini_X1 (by decide +kernel) ⟨Nat.le_of_ble_eq_true rfl, Nat.le_of_ble_eq_true rfl⟩), im_yX1_field, se_yX1_field⟩ ⟨x_blind, va_recv hK hP (ci := 1) (q0 := 13) rfl rfl, x_pre hK hP hD hN⟩ rfl rfl hl.1 rfl (lv_room (Nat.le_of_ble_eq_true rfl)) dX5_isFileBlock_64 ⟨Nat.zero_le _, Nat.zero_le _⟩) hS (fun H locs hP hD hS => ?_)
        have hP : va_P (dC, dI) vwCl (wS a cB cI cL h1 h2 s1 s2 op nx wt sf lf dn dg un ug qn qt qg tn tk tv ts ef eg ex eF pf pg px pF) H := hP
        have hD : va_D A (wS a cB cI cL h1 h2 s1 s2 op nx wt sf lf dn dg un ug qn qt qg tn tk tv ts ef eg ex eF pf pg px pF) := hD
        have hv64 : hfl ef eF i 3 < 1048576 := hfl_lt heF
        refine x_calli (va_runS (As := [.int (nI p1), .int (nI (hfl ef eF i 3))]) (rest := [.int (nI (bv dn dg ((hfl ef eF i 1) + p1) 1))]) ⟨hx, hb, hml, hown, hts⟩ (c_SL_recordsAt p1 (hfl ef eF i 3) (by omega) (by omega)) (va_cwS 2 hts (tbS tw_398 tw_399 tw_84 tw_400) rfl rfl rfl (by decide +kernel) ⟨Nat.le_of_ble_eq_true rfl, Nat.le_of_ble_eq_true rfl⟩) ⟨x_blind, x_pre hK hP hD hN⟩ rfl rfl hl.1 rfl (lv_room (Nat.le_of_ble_eq_true rfl)) dX5_isFileBlock_67 ⟨Nat.zero_le _, Nat.zero_le _⟩) hS (fun H locs hP hD hS => ?_)
        have hP : va_P (dC, dI) vwCl (wS a cB cI cL h1 h2 s1 s2 op nx wt sf lf dn dg un ug qn qt qg tn tk tv ts ef eg ex eF pf pg px pF) H := hP
        have hD : va_D A (wS a cB cI cL h1 h2 s1 s2 op nx wt sf lf dn dg un ug qn qt qg tn tk tv ts ef eg ex eF pf pg px pF) := hD
        refine x_icmp_ne (tgt := 142) hx hb dX5_isFileBlock_70 (by decide) (by omega) (by omega) (fun c70 => ?_) (fun c70 => ?_)
        · refine lv_iconst (v := nI 0) hx hb dX5_isFileBlock_142 (by decide) ?_
          exact hret dX5_isFileBlock_143 (by first | exact ifb_t ⟨(of_decide_eq_true c21).1, c32, c45, c70, lN_inj (by omega) (by omega) c94, lN_inj (by omega) (by omega) c110, lN_inj (by omega) (by omega) c135⟩ | exact ifb_f (fun q => of_decide_eq_false c21 ⟨q.1, by decide⟩) | exact ifb_f (fun q => absurd (c32.symm.trans q.2.1) (by decide)) | exact ifb_f (fun q => c45 q.2.2.1) | exact ifb_f (fun q => c70 q.2.2.2.1) | exact ifb_f (fun q => c94 (by rw [q.2.2.2.2.1])) | exact ifb_f (fun q => c110 (by rw [q.2.2.2.2.2.1])) | exact ifb_f (fun q => c135 (by rw [q.2.2.2.2.2.2]))) hP hD hS
        · refine lv_aload_n hx hb dX5_isFileBlock_73 rfl (lv_at hl 1 rfl) ?_
          refine va_get (D := (dC, dI)) (ci := 5) (v := .ref (a 1)) (C := RX5) (T := TX5) (N := 11) hx hb hts in_X5 hown hK hP 0 rfl rfl 0 (by decide) f14 (fun _ h9 => h9) rfl dX5_isFileBlock_74 ?_
          refine lv_iload_n hx hb dX5_isFileBlock_77 rfl (lv_at hl 0 rfl) ?_
          refine lv_iconst (v := nI 2) hx hb dX5_isFileBlock_78 (by decide) ?_
          refine lv_iconst (v := nI 2) hx hb dX5_isFileBlock_79 (by decide) ?_
          refine x_calll (va_runVN (As := [.int (nI ((hfl ef eF i 1) + p1)), .int (nI 2), .int (nI 2)]) (rest := []) ⟨hx, hb, hml, hown, hts⟩ (c_Bl_number (show okB (fun dg' => wS a cB cI cL h1 h2 s1 s2 op nx wt sf lf dn dg' un ug qn qt qg tn tk tv ts ef eg ex eF pf pg px pF) 1 2 (a 1) (a 2) cB dn from ⟨fun _ => rfl, fun _ => rfl, fun _ _ => rfl⟩) (tyS_B cB cI cL) (by omega) dg hdg ((hfl ef eF i 1) + p1) 2 2 (by omega) (by omega) (by omega)) ⟨(va_cnB 3 hts (tbG tw_452) rfl rfl rfl n258 ini_X0 (by decide +kernel) ⟨Nat.le_of_ble_eq_true rfl, Nat.le_of_ble_eq_true rfl⟩), im_yX0_number, se_yX0_number⟩ ⟨x_blind, va_recv hK hP (ci := 0) (q0 := 1) rfl rfl, x_pre hK hP hD hN⟩ rfl rfl hl.1 rfl (lv_room (Nat.le_of_ble_eq_true rfl)) dX5_isFileBlock_80 ⟨Nat.zero_le _, Nat.zero_le _⟩) hS (fun H locs hP hD hS => ?_)
          have hP : va_P (dC, dI) vwCl (wS a cB cI cL h1 h2 s1 s2 op nx wt sf lf dn dg un ug qn qt qg tn tk tv ts ef eg ex eF pf pg px pF) H := hP
          have hD : va_D A (wS a cB cI cL h1 h2 s1 s2 op nx wt sf lf dn dg un ug qn qt qg tn tk tv ts ef eg ex eF pf pg px pF) := hD
          refine lv_aload_n hx hb dX5_isFileBlock_83 rfl (lv_at hl 1 rfl) ?_
          refine va_get (D := (dC, dI)) (ci := 5) (v := .ref h1) (C := RX5) (T := TX5) (N := 11) hx hb hts in_X5 hown hK hP 0 rfl rfl 4 (by decide) f42 (fun _ h9 => h9) rfl dX5_isFileBlock_84 ?_
          refine lv_iload_n hx hb dX5_isFileBlock_87 rfl (lv_at hl 2 rfl) ?_
          refine lv_iconst (v := nI 0) hx hb dX5_isFileBlock_88 (by decide) ?_
          refine x_calli (va_runVN (As := [.int (nI i), .int (nI 0)]) (rest := [.long (lN (num dn dg ((hfl ef eF i 1) + p1) 2 2))]) ⟨hx, hb, hml, hown, hts⟩ (c_He_field (show okH (fun ef' eg' ex' eF' => wS a cB cI cL h1 h2 s1 s2 op nx wt sf lf dn dg un ug qn qt qg tn tk tv ts ef' eg' ex' eF' pf pg px pF) 13 14 h1 h2 cI from ⟨fun _ _ _ _ => rfl, fun _ _ _ _ => rfl, fun _ _ _ _ _ _ _ => rfl, fun _ _ _ _ _ => rfl⟩) (tyS_I cB cI cL) ef eg ex eF i 0 (by omega) (by omega) (by omega)) ⟨(va_cnB 2 hts (tbG tw_387) rfl rfl rfl n157 ini_X1 (by decide +kernel) ⟨Nat.le_of_ble_eq_true rfl, Nat.le_of_ble_eq_true rfl⟩), im_yX1_field, se_yX1_field⟩ ⟨x_blind, va_recv hK hP (ci := 1) (q0 := 13) rfl rfl, x_pre hK hP hD hN⟩ rfl rfl hl.1 rfl (lv_room (Nat.le_of_ble_eq_true rfl)) dX5_isFileBlock_89 ⟨Nat.zero_le _, Nat.zero_le _⟩) hS (fun H locs hP hD hS => ?_)
          have hP : va_P (dC, dI) vwCl (wS a cB cI cL h1 h2 s1 s2 op nx wt sf lf dn dg un ug qn qt qg tn tk tv ts ef eg ex eF pf pg px pF) H := hP
          have hD : va_D A (wS a cB cI cL h1 h2 s1 s2 op nx wt sf lf dn dg un ug qn qt qg tn tk tv ts ef eg ex eF pf pg px pF) := hD
          have hv89 : hfl ef eF i 0 < 1048576 := hfl_lt heF
          refine lv_i2l (v := lN (hfl ef eF i 0)) hx hb dX5_isFileBlock_92 (nI_l (by omega)) ?_
          refine W.lcmp hx hb dX5_isFileBlock_93 ?_
          refine x_lif_ne (tgt := 142) hx hb dX5_isFileBlock_94 (by decide) (fun c94 => ?_) (fun c94 => ?_)
          · refine lv_iconst (v := nI 0) hx hb dX5_isFileBlock_142 (by decide) ?_
            exact hret dX5_isFileBlock_143 (by first | exact ifb_t ⟨(of_decide_eq_true c21).1, c32, c45, c70, lN_inj (by omega) (by omega) c94, lN_inj (by omega) (by omega) c110, lN_inj (by omega) (by omega) c135⟩ | exact ifb_f (fun q => of_decide_eq_false c21 ⟨q.1, by decide⟩) | exact ifb_f (fun q => absurd (c32.symm.trans q.2.1) (by decide)) | exact ifb_f (fun q => c45 q.2.2.1) | exact ifb_f (fun q => c70 q.2.2.2.1) | exact ifb_f (fun q => c94 (by rw [q.2.2.2.2.1])) | exact ifb_f (fun q => c110 (by rw [q.2.2.2.2.2.1])) | exact ifb_f (fun q => c135 (by rw [q.2.2.2.2.2.2]))) hP hD hS
          · refine lv_aload_n hx hb dX5_isFileBlock_97 rfl (lv_at hl 1 rfl) ?_
            refine va_get (D := (dC, dI)) (ci := 5) (v := .ref (a 1)) (C := RX5) (T := TX5) (N := 11) hx hb hts in_X5 hown hK hP 0 rfl rfl 0 (by decide) f14 (fun _ h9 => h9) rfl dX5_isFileBlock_98 ?_
            refine lv_iload_n hx hb dX5_isFileBlock_101 rfl (lv_at hl 0 rfl) ?_
            refine lv_iconst (v := nI 4) hx hb dX5_isFileBlock_102 (by decide) ?_
            refine lv_iconst (v := nI 2) hx hb dX5_isFileBlock_103 (by decide) ?_
            refine x_calll (va_runVN (As := [.int (nI ((hfl ef eF i 1) + p1)), .int (nI 4), .int (nI 2)]) (rest := []) ⟨hx, hb, hml, hown, hts⟩ (c_Bl_number (show okB (fun dg' => wS a cB cI cL h1 h2 s1 s2 op nx wt sf lf dn dg' un ug qn qt qg tn tk tv ts ef eg ex eF pf pg px pF) 1 2 (a 1) (a 2) cB dn from ⟨fun _ => rfl, fun _ => rfl, fun _ _ => rfl⟩) (tyS_B cB cI cL) (by omega) dg hdg ((hfl ef eF i 1) + p1) 4 2 (by omega) (by omega) (by omega)) ⟨(va_cnB 3 hts (tbG tw_452) rfl rfl rfl n258 ini_X0 (by decide +kernel) ⟨Nat.le_of_ble_eq_true rfl, Nat.le_of_ble_eq_true rfl⟩), im_yX0_number, se_yX0_number⟩ ⟨x_blind, va_recv hK hP (ci := 0) (q0 := 1) rfl rfl, x_pre hK hP hD hN⟩ rfl rfl hl.1 rfl (lv_room (Nat.le_of_ble_eq_true rfl)) dX5_isFileBlock_104 ⟨Nat.zero_le _, Nat.zero_le _⟩) hS (fun H locs hP hD hS => ?_)
            have hP : va_P (dC, dI) vwCl (wS a cB cI cL h1 h2 s1 s2 op nx wt sf lf dn dg un ug qn qt qg tn tk tv ts ef eg ex eF pf pg px pF) H := hP
            have hD : va_D A (wS a cB cI cL h1 h2 s1 s2 op nx wt sf lf dn dg un ug qn qt qg tn tk tv ts ef eg ex eF pf pg px pF) := hD
            refine lv_iload_n hx hb dX5_isFileBlock_107 rfl (lv_at hl 3 rfl) ?_
            refine lv_i2l (v := lN p1) hx hb dX5_isFileBlock_108 (nI_l (by omega)) ?_
            refine W.lcmp hx hb dX5_isFileBlock_109 ?_
            refine x_lif_ne (tgt := 142) hx hb dX5_isFileBlock_110 (by decide) (fun c110 => ?_) (fun c110 => ?_)
            · refine lv_iconst (v := nI 0) hx hb dX5_isFileBlock_142 (by decide) ?_
              exact hret dX5_isFileBlock_143 (by first | exact ifb_t ⟨(of_decide_eq_true c21).1, c32, c45, c70, lN_inj (by omega) (by omega) c94, lN_inj (by omega) (by omega) c110, lN_inj (by omega) (by omega) c135⟩ | exact ifb_f (fun q => of_decide_eq_false c21 ⟨q.1, by decide⟩) | exact ifb_f (fun q => absurd (c32.symm.trans q.2.1) (by decide)) | exact ifb_f (fun q => c45 q.2.2.1) | exact ifb_f (fun q => c70 q.2.2.2.1) | exact ifb_f (fun q => c94 (by rw [q.2.2.2.2.1])) | exact ifb_f (fun q => c110 (by rw [q.2.2.2.2.2.1])) | exact ifb_f (fun q => c135 (by rw [q.2.2.2.2.2.2]))) hP hD hS
            · refine lv_aload_n hx hb dX5_isFileBlock_113 rfl (lv_at hl 1 rfl) ?_
              refine va_get (D := (dC, dI)) (ci := 5) (v := .ref (a 1)) (C := RX5) (T := TX5) (N := 11) hx hb hts in_X5 hown hK hP 0 rfl rfl 0 (by decide) f14 (fun _ h9 => h9) rfl dX5_isFileBlock_114 ?_
              refine lv_iload_n hx hb dX5_isFileBlock_117 rfl (lv_at hl 0 rfl) ?_
              refine lv_bipush (v := nI 6) hx hb dX5_isFileBlock_118 (by decide) ?_
              refine lv_iconst (v := nI 2) hx hb dX5_isFileBlock_120 (by decide) ?_
              refine x_calll (va_runVN (As := [.int (nI ((hfl ef eF i 1) + p1)), .int (nI 6), .int (nI 2)]) (rest := []) ⟨hx, hb, hml, hown, hts⟩ (c_Bl_number (show okB (fun dg' => wS a cB cI cL h1 h2 s1 s2 op nx wt sf lf dn dg' un ug qn qt qg tn tk tv ts ef eg ex eF pf pg px pF) 1 2 (a 1) (a 2) cB dn from ⟨fun _ => rfl, fun _ => rfl, fun _ _ => rfl⟩) (tyS_B cB cI cL) (by omega) dg hdg ((hfl ef eF i 1) + p1) 6 2 (by omega) (by omega) (by omega)) ⟨(va_cnB 3 hts (tbG tw_452) rfl rfl rfl n258 ini_X0 (by decide +kernel) ⟨Nat.le_of_ble_eq_true rfl, Nat.le_of_ble_eq_true rfl⟩), im_yX0_number, se_yX0_number⟩ ⟨x_blind, va_recv hK hP (ci := 0) (q0 := 1) rfl rfl, x_pre hK hP hD hN⟩ rfl rfl hl.1 rfl (lv_room (Nat.le_of_ble_eq_true rfl)) dX5_isFileBlock_121 ⟨Nat.zero_le _, Nat.zero_le _⟩) hS (fun H locs hP hD hS => ?_)
              have hP : va_P (dC, dI) vwCl (wS a cB cI cL h1 h2 s1 s2 op nx wt sf lf dn dg un ug qn qt qg tn tk tv ts ef eg ex eF pf pg px pF) H := hP
              have hD : va_D A (wS a cB cI cL h1 h2 s1 s2 op nx wt sf lf dn dg un ug qn qt qg tn tk tv ts ef eg ex eF pf pg px pF) := hD
              refine lv_aload_n hx hb dX5_isFileBlock_124 rfl (lv_at hl 1 rfl) ?_
              refine va_get (D := (dC, dI)) (ci := 5) (v := .ref h1) (C := RX5) (T := TX5) (N := 11) hx hb hts in_X5 hown hK hP 0 rfl rfl 4 (by decide) f42 (fun _ h9 => h9) rfl dX5_isFileBlock_125 ?_
              refine lv_iload_n hx hb dX5_isFileBlock_128 rfl (lv_at hl 2 rfl) ?_
              refine lv_iconst (v := nI 2) hx hb dX5_isFileBlock_129 (by decide) ?_
              refine x_calli (va_runVN (As := [.int (nI i), .int (nI 2)]) (rest := [.long (lN (num dn dg ((hfl ef eF i 1) + p1) 2 6))]) ⟨hx, hb, hml, hown, hts⟩ (c_He_field (show okH (fun ef' eg' ex' eF' => wS a cB cI cL h1 h2 s1 s2 op nx wt sf lf dn dg un ug qn qt qg tn tk tv ts ef' eg' ex' eF' pf pg px pF) 13 14 h1 h2 cI from ⟨fun _ _ _ _ => rfl, fun _ _ _ _ => rfl, fun _ _ _ _ _ _ _ => rfl, fun _ _ _ _ _ => rfl⟩) (tyS_I cB cI cL) ef eg ex eF i 2 (by omega) (by omega) (by omega)) ⟨(va_cnB 2 hts (tbG tw_387) rfl rfl rfl n157 ini_X1 (by decide +kernel) ⟨Nat.le_of_ble_eq_true rfl, Nat.le_of_ble_eq_true rfl⟩), im_yX1_field, se_yX1_field⟩ ⟨x_blind, va_recv hK hP (ci := 1) (q0 := 13) rfl rfl, x_pre hK hP hD hN⟩ rfl rfl hl.1 rfl (lv_room (Nat.le_of_ble_eq_true rfl)) dX5_isFileBlock_130 ⟨Nat.zero_le _, Nat.zero_le _⟩) hS (fun H locs hP hD hS => ?_)
              have hP : va_P (dC, dI) vwCl (wS a cB cI cL h1 h2 s1 s2 op nx wt sf lf dn dg un ug qn qt qg tn tk tv ts ef eg ex eF pf pg px pF) H := hP
              have hD : va_D A (wS a cB cI cL h1 h2 s1 s2 op nx wt sf lf dn dg un ug qn qt qg tn tk tv ts ef eg ex eF pf pg px pF) := hD
              have hv130 : hfl ef eF i 2 < 1048576 := hfl_lt heF
              refine lv_i2l (v := lN (hfl ef eF i 2)) hx hb dX5_isFileBlock_133 (nI_l (by omega)) ?_
              refine W.lcmp hx hb dX5_isFileBlock_134 ?_
              refine x_lif_ne (tgt := 142) hx hb dX5_isFileBlock_135 (by decide) (fun c135 => ?_) (fun c135 => ?_)
              · refine lv_iconst (v := nI 0) hx hb dX5_isFileBlock_142 (by decide) ?_
                exact hret dX5_isFileBlock_143 (by first | exact ifb_t ⟨(of_decide_eq_true c21).1, c32, c45, c70, lN_inj (by omega) (by omega) c94, lN_inj (by omega) (by omega) c110, lN_inj (by omega) (by omega) c135⟩ | exact ifb_f (fun q => of_decide_eq_false c21 ⟨q.1, by decide⟩) | exact ifb_f (fun q => absurd (c32.symm.trans q.2.1) (by decide)) | exact ifb_f (fun q => c45 q.2.2.1) | exact ifb_f (fun q => c70 q.2.2.2.1) | exact ifb_f (fun q => c94 (by rw [q.2.2.2.2.1])) | exact ifb_f (fun q => c110 (by rw [q.2.2.2.2.2.1])) | exact ifb_f (fun q => c135 (by rw [q.2.2.2.2.2.2]))) hP hD hS
              · refine lv_iconst (v := nI 1) hx hb dX5_isFileBlock_138 (by decide) ?_
                refine lv_goto (tgt := 143) hx hb dX5_isFileBlock_139 (by decide) ?_
                exact hret dX5_isFileBlock_143 (by first | exact ifb_t ⟨(of_decide_eq_true c21).1, c32, c45, c70, lN_inj (by omega) (by omega) c94, lN_inj (by omega) (by omega) c110, lN_inj (by omega) (by omega) c135⟩ | exact ifb_f (fun q => of_decide_eq_false c21 ⟨q.1, by decide⟩) | exact ifb_f (fun q => absurd (c32.symm.trans q.2.1) (by decide)) | exact ifb_f (fun q => c45 q.2.2.1) | exact ifb_f (fun q => c70 q.2.2.2.1) | exact ifb_f (fun q => c94 (by rw [q.2.2.2.2.1])) | exact ifb_f (fun q => c110 (by rw [q.2.2.2.2.2.1])) | exact ifb_f (fun q => c135 (by rw [q.2.2.2.2.2.2]))) hP hD hS

set_option maxHeartbeats 4000000 in
set_option maxRecDepth 100000 in
theorem c_SL_nextLogBlock {l : Launch} {dC : Nat → ClassId} {dI : Nat → Nat → Nat} {A : Nat → Prop} {a : Nat → Nat} {cB cI cL : ClassId} {h1 h2 s1 s2 : Nat} {op : Bool} {nx wt sf lf dn : Nat} {dg : Nat → Nat} {un : Nat} {ug : Nat → Nat} {qn : Nat} {qt qg : Nat → Nat} {tn : Nat} {tk tv : Nat → Int64} {ts : Nat → Nat} {ef eg ex : Nat} {eF : Nat → Nat} {pf pg px : Nat} {pF : Nat → Nat} (hdn : dn ≤ 64) (hun : un ≤ 64) (hdg : ∀ j, dg j < 256) (hug : ∀ j, ug j < 8) (hnx : nx < 2 ^ 30) : Met l yX5_nextLogBlock (Cond.code yX5_nextLogBlock cX5_nextLogBlock 3 (some .int) :: TB) { frames := 3, cells := 0, slots := 0, locals := 70 } (xPre Nst (dC, dI) A (tyS cB cI cL) (wS a cB cI cL h1 h2 s1 s2 op nx wt sf lf dn dg un ug qn qt qg tn tk tv ts ef eg ex eF pf pg px pF) [.ref (a 0)]) (xQi (dC, dI) A (oI (nlb dn dg un ug nx (dn - 2) 2)) (wS a cB cI cL h1 h2 s1 s2 op nx wt sf lf dn dg un ug qn qt qg tn tk tv ts ef eg ex eF pf pg px pF)) 0 0 A := by
  refine x_ofWi (cc := cX5_nextLogBlock) (maxL := 3) (by decide) rfl (Nat.le_of_ble_eq_true rfl) ?_
  intro p e s m args below meth c Q hx hb hml hts hown hK hN hP hD hS hret ls hl
  have hl : lv_has ls 3 [(0, .ref (a 0))] := hl
  have hown : s.vm.findClass RX5 = some m.cls := hown
  have f14 := hts _ (List.mem_cons_of_mem _ tw_207)
  have in_X5 := (fun q hq => List.mem_cons_of_mem _ (inX5 q hq) : ∀ q ∈ wsX50, q ∈ (Cond.code yX5_nextLogBlock cX5_nextLogBlock 3 (some .int) :: TB))
  have f173 := hN (.fieldLinkNest RX5 173 "SegmentLog$Blocks" "size" "I" "SegmentLog") (by decide +kernel)
  have in_X0 := (fun q hq => List.mem_cons_of_mem _ (inX0 q hq) : ∀ q ∈ wsX00, q ∈ (Cond.code yX5_nextLogBlock cX5_nextLogBlock 3 (some .int) :: TB))
  have n167 := hN (.methodLinkNest RX5 167 yX0_value "SegmentLog") (by decide +kernel)
  have ini_X0 := hts _ (List.mem_cons_of_mem _ tw_85)
  have im_yX0_value := hts _ (List.mem_cons_of_mem _ tw_344)
  have se_yX0_value := hts _ (List.mem_cons_of_mem _ tw_25)
  have f21 := hts _ (List.mem_cons_of_mem _ tw_208)
  have n164 := hN (.methodLinkNest RX5 164 yX4_of "SegmentLog") (by decide +kernel)
  have ini_X4 := hts _ (List.mem_cons_of_mem _ tw_86)
  have im_yX4_of := hts _ (List.mem_cons_of_mem _ tw_500)
  have se_yX4_of := hts _ (List.mem_cons_of_mem _ tw_50)
  have n258 := hN (.methodLinkNest RX5 258 yX0_number "SegmentLog") (by decide +kernel)
  have im_yX0_number := hts _ (List.mem_cons_of_mem _ tw_451)
  have se_yX0_number := hts _ (List.mem_cons_of_mem _ tw_42)
  have f53 := hts _ (List.mem_cons_of_mem _ tw_214)
  refine lv_iconst (v := nI 2) hx hb dX5_nextLogBlock_0 (by decide) ?_
  refine lv_istore_n (lv' := [(1, .int (nI 2)), (0, .ref (a 0))]) hx hb dX5_nextLogBlock_1 rfl hl (by decide) rfl (fun ls hl => ?_)
  have L2 : ∀ (fu2 : Nat) (b : Nat), (dn - b < fu2) → (2 ≤ b ∧ b ≤ 64) → (nlb dn dg un ug nx (dn - b) b = nlb dn dg un ug nx (dn - 2) 2) → ∀ (H : Heap) (locs : List Loc), va_P (dC, dI) vwCl (wS a cB cI cL h1 h2 s1 s2 op nx wt sf lf dn dg un ug qn qt qg tn tk tv ts ef eg ex eF pf pg px pF) H → va_D A (wS a cB cI cL h1 h2 s1 s2 op nx wt sf lf dn dg un ug qn qt qg tn tk tv ts ef eg ex eF pf pg px pF) → va_S A s.heap H locs → ∀ (ls : Array Slot), lv_has ls 3 [(0, .ref (a 0)), (1, .int (nI b))] → W p l e { frames := 3, cells := 0, slots := 0, locals := 70 } s m args below meth c H locs 0 0 Q (F0 m 2 ls []) := by
    intro fu2
    induction fu2 with
    | zero => intro b hm; exact absurd hm (Nat.not_lt_zero _)
    | succ fu2 ih2 =>
      intro b hm i2_0 i2_1 H locs hP hD hS ls hl
      have w6 : num dn dg b 6 2 < 281474976710656 := num_lt hdg 6 2
      refine lv_iload_n hx hb dX5_nextLogBlock_2 rfl (lv_at hl 1 rfl) ?_
      refine lv_aload_n hx hb dX5_nextLogBlock_3 rfl (lv_at hl 0 rfl) ?_
      refine va_get (D := (dC, dI)) (ci := 5) (v := .ref (a 1)) (C := RX5) (T := TX5) (N := 11) hx hb hts in_X5 hown hK hP 0 rfl rfl 0 (by decide) f14 (fun _ h9 => h9) rfl dX5_nextLogBlock_4 ?_
      refine va_getN (D := (dC, dI)) (ci := 0) (v := .int (nI dn)) (C := RX0) (T := TX0) (N := 2) hx hb hts in_X0 hown hK hP 1 rfl rfl 1 (by decide) (va_Nw.use (A := args) rfl f173) (fun _ h9 => h9) rfl dX5_nextLogBlock_7 ?_
      refine x_icmp_ge (tgt := 73) hx hb dX5_nextLogBlock_10 (by decide) (by omega) (by omega) (fun c10 => ?_) (fun c10 => ?_)
      · refine lv_bipush (v := (-2)) hx hb dX5_nextLogBlock_73 (by decide) ?_
        exact hret dX5_nextLogBlock_75 (by have h := i2_1; rw [show dn - b = 0 by omega, nlb] at h; rw [← h]; rfl) hP hD hS
      · refine lv_aload_n hx hb dX5_nextLogBlock_13 rfl (lv_at hl 0 rfl) ?_
        refine va_get (D := (dC, dI)) (ci := 5) (v := .ref (a 1)) (C := RX5) (T := TX5) (N := 11) hx hb hts in_X5 hown hK hP 0 rfl rfl 0 (by decide) f14 (fun _ h9 => h9) rfl dX5_nextLogBlock_14 ?_
        refine lv_iload_n hx hb dX5_nextLogBlock_17 rfl (lv_at hl 1 rfl) ?_
        refine lv_iconst (v := nI 1) hx hb dX5_nextLogBlock_18 (by decide) ?_
        refine x_calli (va_runVN (As := [.int (nI b), .int (nI 1)]) (rest := []) ⟨hx, hb, hml, hown, hts⟩ (c_Bl_value (show okB (fun dg' => wS a cB cI cL h1 h2 s1 s2 op nx wt sf lf dn dg' un ug qn qt qg tn tk tv ts ef eg ex eF pf pg px pF) 1 2 (a 1) (a 2) cB dn from ⟨fun _ => rfl, fun _ => rfl, fun _ _ => rfl⟩) (tyS_B cB cI cL) (by omega) dg hdg b 1 (by omega) (by omega)) ⟨(va_cnB 2 hts (tbG tw_345) rfl rfl rfl n167 ini_X0 (by decide +kernel) ⟨Nat.le_of_ble_eq_true rfl, Nat.le_of_ble_eq_true rfl⟩), im_yX0_value, se_yX0_value⟩ ⟨x_blind, va_recv hK hP (ci := 0) (q0 := 1) rfl rfl, x_pre hK hP hD hN⟩ rfl rfl hl.1 rfl (lv_room (Nat.le_of_ble_eq_true rfl)) dX5_nextLogBlock_19 ⟨Nat.zero_le _, Nat.zero_le _⟩) hS (fun H locs hP hD hS => ?_)
        have hP : va_P (dC, dI) vwCl (wS a cB cI cL h1 h2 s1 s2 op nx wt sf lf dn dg un ug qn qt qg tn tk tv ts ef eg ex eF pf pg px pF) H := hP
        have hD : va_D A (wS a cB cI cL h1 h2 s1 s2 op nx wt sf lf dn dg un ug qn qt qg tn tk tv ts ef eg ex eF pf pg px pF) := hD
        have hv19 : bv dn dg b 1 < 256 := bv_lt hdg
        refine lv_istore_n (lv' := [(2, .int (nI (bv dn dg b 1))), (0, .ref (a 0)), (1, .int (nI b))]) hx hb dX5_nextLogBlock_22 rfl hl (by decide) rfl (fun ls hl => ?_)
        refine lv_aload_n hx hb dX5_nextLogBlock_23 rfl (lv_at hl 1 rfl) ?_
        refine va_get (D := (dC, dI)) (ci := 5) (v := .ref (a 3)) (C := RX5) (T := TX5) (N := 11) hx hb hts in_X5 hown hK hP 0 rfl rfl 1 (by decide) f21 (fun _ h9 => h9) rfl dX5_nextLogBlock_24 ?_
        refine lv_iload_n hx hb dX5_nextLogBlock_27 rfl (lv_at hl 2 rfl) ?_
        refine x_calli (va_runVN (As := [.int (nI b)]) (rest := []) ⟨hx, hb, hml, hown, hts⟩ (c_Us_of (show okU (fun ug' => wS a cB cI cL h1 h2 s1 s2 op nx wt sf lf dn dg un ug' qn qt qg tn tk tv ts ef eg ex eF pf pg px pF) 3 4 (a 3) (a 4) cI un from ⟨fun _ => rfl, fun _ => rfl, fun _ _ => rfl⟩) (tyS_I cB cI cL) (by omega) ug hug b (by omega)) ⟨(va_cnB 1 hts (tbG tw_501) rfl rfl rfl n164 ini_X4 (by decide +kernel) ⟨Nat.le_of_ble_eq_true rfl, Nat.le_of_ble_eq_true rfl⟩), im_yX4_of, se_yX4_of⟩ ⟨x_blind, va_recv hK hP (ci := 4) (q0 := 3) rfl rfl, x_pre hK hP hD hN⟩ rfl rfl hl.1 rfl (lv_room (Nat.le_of_ble_eq_true rfl)) dX5_nextLogBlock_28 ⟨Nat.zero_le _, Nat.zero_le _⟩) hS (fun H locs hP hD hS => ?_)
        have hP : va_P (dC, dI) vwCl (wS a cB cI cL h1 h2 s1 s2 op nx wt sf lf dn dg un ug qn qt qg tn tk tv ts ef eg ex eF pf pg px pF) H := hP
        have hD : va_D A (wS a cB cI cL h1 h2 s1 s2 op nx wt sf lf dn dg un ug qn qt qg tn tk tv ts ef eg ex eF pf pg px pF) := hD
        have hv28 : uof un ug b < 8 := uof_lt hug
        refine lv_iconst (v := nI 4) hx hb dX5_nextLogBlock_31 (by decide) ?_
        refine x_icmp_ne (tgt := 67) hx hb dX5_nextLogBlock_32 (by decide) (by omega) (by omega) (fun c32 => ?_) (fun c32 => ?_)
        · refine lv_iinc (v := nI (b + 1)) (lv' := [(1, .int (nI (b + 1))), (2, .int (nI (bv dn dg b 1))), (0, .ref (a 0))]) hx hb dX5_nextLogBlock_67 hl (k := 2) rfl (x_inc _) (by decide) rfl (fun ls hl => ?_)
          refine lv_goto (tgt := 2) hx hb dX5_nextLogBlock_70 (by decide) ?_
          exact ih2 (b + 1) (by omega) (by omega) (by have h := i2_1; have hh : ¬ (uof un ug b = 4 ∧ 1 ≤ bv dn dg b 1 ∧ bv dn dg b 1 ≤ 3 ∧ num dn dg b 6 2 = nx) := (by first | omega | exact fun q => c62 (by rw [q.2.2.2])); rw [show dn - b = (dn - (b + 1)) + 1 by omega, nlb, if_neg hh] at h; exact h) _ _ hP hD hS ls (lv_sub hl [2, 0] rfl)
        · refine lv_iload_n hx hb dX5_nextLogBlock_35 rfl (lv_at hl 0 rfl) ?_
          refine lv_iconst (v := nI 1) hx hb dX5_nextLogBlock_36 (by decide) ?_
          refine x_icmp_lt (tgt := 67) hx hb dX5_nextLogBlock_37 (by decide) (by omega) (by omega) (fun c37 => ?_) (fun c37 => ?_)
          · refine lv_iinc (v := nI (b + 1)) (lv' := [(1, .int (nI (b + 1))), (2, .int (nI (bv dn dg b 1))), (0, .ref (a 0))]) hx hb dX5_nextLogBlock_67 hl (k := 2) rfl (x_inc _) (by decide) rfl (fun ls hl => ?_)
            refine lv_goto (tgt := 2) hx hb dX5_nextLogBlock_70 (by decide) ?_
            exact ih2 (b + 1) (by omega) (by omega) (by have h := i2_1; have hh : ¬ (uof un ug b = 4 ∧ 1 ≤ bv dn dg b 1 ∧ bv dn dg b 1 ≤ 3 ∧ num dn dg b 6 2 = nx) := (by first | omega | exact fun q => c62 (by rw [q.2.2.2])); rw [show dn - b = (dn - (b + 1)) + 1 by omega, nlb, if_neg hh] at h; exact h) _ _ hP hD hS ls (lv_sub hl [2, 0] rfl)
          · refine lv_iload_n hx hb dX5_nextLogBlock_40 rfl (lv_at hl 0 rfl) ?_
            refine lv_iconst (v := nI 3) hx hb dX5_nextLogBlock_41 (by decide) ?_
            refine x_icmp_gt (tgt := 67) hx hb dX5_nextLogBlock_42 (by decide) (by omega) (by omega) (fun c42 => ?_) (fun c42 => ?_)
            · refine lv_iinc (v := nI (b + 1)) (lv' := [(1, .int (nI (b + 1))), (2, .int (nI (bv dn dg b 1))), (0, .ref (a 0))]) hx hb dX5_nextLogBlock_67 hl (k := 2) rfl (x_inc _) (by decide) rfl (fun ls hl => ?_)
              refine lv_goto (tgt := 2) hx hb dX5_nextLogBlock_70 (by decide) ?_
              exact ih2 (b + 1) (by omega) (by omega) (by have h := i2_1; have hh : ¬ (uof un ug b = 4 ∧ 1 ≤ bv dn dg b 1 ∧ bv dn dg b 1 ≤ 3 ∧ num dn dg b 6 2 = nx) := (by first | omega | exact fun q => c62 (by rw [q.2.2.2])); rw [show dn - b = (dn - (b + 1)) + 1 by omega, nlb, if_neg hh] at h; exact h) _ _ hP hD hS ls (lv_sub hl [2, 0] rfl)
            · refine lv_aload_n hx hb dX5_nextLogBlock_45 rfl (lv_at hl 1 rfl) ?_
              refine va_get (D := (dC, dI)) (ci := 5) (v := .ref (a 1)) (C := RX5) (T := TX5) (N := 11) hx hb hts in_X5 hown hK hP 0 rfl rfl 0 (by decide) f14 (fun _ h9 => h9) rfl dX5_nextLogBlock_46 ?_
              refine lv_iload_n hx hb dX5_nextLogBlock_49 rfl (lv_at hl 2 rfl) ?_
              refine lv_iconst (v := nI 2) hx hb dX5_nextLogBlock_50 (by decide) ?_
              refine lv_bipush (v := nI 6) hx hb dX5_nextLogBlock_51 (by decide) ?_
              refine x_calll (va_runVN (As := [.int (nI b), .int (nI 2), .int (nI 6)]) (rest := []) ⟨hx, hb, hml, hown, hts⟩ (c_Bl_number (show okB (fun dg' => wS a cB cI cL h1 h2 s1 s2 op nx wt sf lf dn dg' un ug qn qt qg tn tk tv ts ef eg ex eF pf pg px pF) 1 2 (a 1) (a 2) cB dn from ⟨fun _ => rfl, fun _ => rfl, fun _ _ => rfl⟩) (tyS_B cB cI cL) (by omega) dg hdg b 2 6 (by omega) (by omega) (by omega)) ⟨(va_cnB 3 hts (tbG tw_452) rfl rfl rfl n258 ini_X0 (by decide +kernel) ⟨Nat.le_of_ble_eq_true rfl, Nat.le_of_ble_eq_true rfl⟩), im_yX0_number, se_yX0_number⟩ ⟨x_blind, va_recv hK hP (ci := 0) (q0 := 1) rfl rfl, x_pre hK hP hD hN⟩ rfl rfl hl.1 rfl (lv_room (Nat.le_of_ble_eq_true rfl)) dX5_nextLogBlock_53 ⟨Nat.zero_le _, Nat.zero_le _⟩) hS (fun H locs hP hD hS => ?_)
              have hP : va_P (dC, dI) vwCl (wS a cB cI cL h1 h2 s1 s2 op nx wt sf lf dn dg un ug qn qt qg tn tk tv ts ef eg ex eF pf pg px pF) H := hP
              have hD : va_D A (wS a cB cI cL h1 h2 s1 s2 op nx wt sf lf dn dg un ug qn qt qg tn tk tv ts ef eg ex eF pf pg px pF) := hD
              refine lv_aload_n hx hb dX5_nextLogBlock_56 rfl (lv_at hl 1 rfl) ?_
              refine va_get (D := (dC, dI)) (ci := 5) (v := .int (nI nx)) (C := RX5) (T := TX5) (N := 11) hx hb hts in_X5 hown hK hP 0 rfl rfl 7 (by decide) f53 (fun _ h9 => h9) rfl dX5_nextLogBlock_57 ?_
              refine lv_i2l (v := lN nx) hx hb dX5_nextLogBlock_60 (nI_l (by omega)) ?_
              refine W.lcmp hx hb dX5_nextLogBlock_61 ?_
              refine x_lif_ne (tgt := 67) hx hb dX5_nextLogBlock_62 (by decide) (fun c62 => ?_) (fun c62 => ?_)
              · refine lv_iinc (v := nI (b + 1)) (lv' := [(1, .int (nI (b + 1))), (2, .int (nI (bv dn dg b 1))), (0, .ref (a 0))]) hx hb dX5_nextLogBlock_67 hl (k := 2) rfl (x_inc _) (by decide) rfl (fun ls hl => ?_)
                refine lv_goto (tgt := 2) hx hb dX5_nextLogBlock_70 (by decide) ?_
                exact ih2 (b + 1) (by omega) (by omega) (by have h := i2_1; have hh : ¬ (uof un ug b = 4 ∧ 1 ≤ bv dn dg b 1 ∧ bv dn dg b 1 ≤ 3 ∧ num dn dg b 6 2 = nx) := (by first | omega | exact fun q => c62 (by rw [q.2.2.2])); rw [show dn - b = (dn - (b + 1)) + 1 by omega, nlb, if_neg hh] at h; exact h) _ _ hP hD hS ls (lv_sub hl [2, 0] rfl)
              · refine lv_iload_n hx hb dX5_nextLogBlock_65 rfl (lv_at hl 2 rfl) ?_
                exact hret dX5_nextLogBlock_66 (by have h := i2_1; have hh : uof un ug b = 4 ∧ 1 ≤ bv dn dg b 1 ∧ bv dn dg b 1 ≤ 3 ∧ num dn dg b 6 2 = nx := ⟨by omega, by omega, by omega, lN_inj (by omega) (by omega) c62⟩; rw [show dn - b = (dn - (b + 1)) + 1 by omega, nlb, if_pos hh] at h; rw [← h]; rfl) hP hD hS
  exact L2 (dn - 2 + 1) 2 (by omega) (by omega) (by rfl) _ _ hP hD hS ls (lv_sub hl [1, 0] rfl)

set_option maxHeartbeats 4000000 in
set_option maxRecDepth 100000 in
theorem c_SL_firstWrongBlock {l : Launch} {dC : Nat → ClassId} {dI : Nat → Nat → Nat} {A : Nat → Prop} {a : Nat → Nat} {cB cI cL : ClassId} {h1 h2 s1 s2 : Nat} {op : Bool} {nx wt sf lf dn : Nat} {dg : Nat → Nat} {un : Nat} {ug : Nat → Nat} {qn : Nat} {qt qg : Nat → Nat} {tn : Nat} {tk tv : Nat → Int64} {ts : Nat → Nat} {ef eg ex : Nat} {eF : Nat → Nat} {pf pg px : Nat} {pF : Nat → Nat} (hdn : dn ≤ 64) (hdg : ∀ j, dg j < 256) (heF : ∀ j, eF j < 1048576) (hef : ef ≤ 5) (hgo : ∀ i, i < ef → (hfl ef eF i 3 + 2) / 3 = hfl ef eF i 2) : Met l yX5_firstWrongBlock (Cond.code yX5_firstWrongBlock cX5_firstWrongBlock 3 (some .int) :: TB) { frames := 5, cells := 0, slots := 0, locals := 115 } (xPre Nst (dC, dI) A (tyS cB cI cL) (wS a cB cI cL h1 h2 s1 s2 op nx wt sf lf dn dg un ug qn qt qg tn tk tv ts ef eg ex eF pf pg px pF) [.ref (a 0)]) (xQi (dC, dI) A (oI (fwO dn dg ef eF ef 0)) (wS a cB cI cL h1 h2 s1 s2 op nx wt sf lf dn dg un ug qn qt qg tn tk tv ts ef eg ex eF pf pg px pF)) 0 0 A := by
  refine x_ofWi (cc := cX5_firstWrongBlock) (maxL := 3) (by decide) rfl (Nat.le_of_ble_eq_true rfl) ?_
  intro p e s m args below meth c Q hx hb hml hts hown hK hN hP hD hS hret ls hl
  have hl : lv_has ls 3 [(0, .ref (a 0))] := hl
  have hown : s.vm.findClass RX5 = some m.cls := hown
  have f42 := hts _ (List.mem_cons_of_mem _ tw_211)
  have in_X5 := (fun q hq => List.mem_cons_of_mem _ (inX5 q hq) : ∀ q ∈ wsX50, q ∈ (Cond.code yX5_firstWrongBlock cX5_firstWrongBlock 3 (some .int) :: TB))
  have f91 := hN (.fieldLinkNest RX5 91 "SegmentLog$Head" "files" "I" "SegmentLog") (by decide +kernel)
  have in_X1 := (fun q hq => List.mem_cons_of_mem _ (inX1 q hq) : ∀ q ∈ wsX10, q ∈ (Cond.code yX5_firstWrongBlock cX5_firstWrongBlock 3 (some .int) :: TB))
  have n157 := hN (.methodLinkNest RX5 157 yX1_field "SegmentLog") (by decide +kernel)
  have ini_X1 := hts _ (List.mem_cons_of_mem _ tw_90)
  have im_yX1_field := hts _ (List.mem_cons_of_mem _ tw_386)
  have se_yX1_field := hts _ (List.mem_cons_of_mem _ tw_30)
  refine lv_iconst (v := nI 0) hx hb dX5_firstWrongBlock_0 (by decide) ?_
  refine lv_istore_n (lv' := [(1, .int (nI 0)), (0, .ref (a 0))]) hx hb dX5_firstWrongBlock_1 rfl hl (by decide) rfl (fun ls hl => ?_)
  have L2 : ∀ (fu2 : Nat) (i : Nat), (ef - i < fu2) → (i ≤ ef) → (fwO dn dg ef eF (ef - i) i = fwO dn dg ef eF ef 0) → ∀ (H : Heap) (locs : List Loc), va_P (dC, dI) vwCl (wS a cB cI cL h1 h2 s1 s2 op nx wt sf lf dn dg un ug qn qt qg tn tk tv ts ef eg ex eF pf pg px pF) H → va_D A (wS a cB cI cL h1 h2 s1 s2 op nx wt sf lf dn dg un ug qn qt qg tn tk tv ts ef eg ex eF pf pg px pF) → va_S A s.heap H locs → ∀ (ls : Array Slot), lv_has ls 3 [(0, .ref (a 0)), (1, .int (nI i))] → W p l e { frames := 5, cells := 0, slots := 0, locals := 115 } s m args below meth c H locs 0 0 Q (F0 m 2 ls []) := by
    intro fu2
    induction fu2 with
    | zero => intro i hm; exact absurd hm (Nat.not_lt_zero _)
    | succ fu2 ih2 =>
      intro i hm i2_0 i2_1 H locs hP hD hS ls hl
      refine lv_iload_n hx hb dX5_firstWrongBlock_2 rfl (lv_at hl 1 rfl) ?_
      refine lv_aload_n hx hb dX5_firstWrongBlock_3 rfl (lv_at hl 0 rfl) ?_
      refine va_get (D := (dC, dI)) (ci := 5) (v := .ref h1) (C := RX5) (T := TX5) (N := 11) hx hb hts in_X5 hown hK hP 0 rfl rfl 4 (by decide) f42 (fun _ h9 => h9) rfl dX5_firstWrongBlock_4 ?_
      refine va_getN (D := (dC, dI)) (ci := 1) (v := .int (nI ef)) (C := RX1) (T := TX1) (N := 4) hx hb hts in_X1 hown hK hP 13 rfl rfl 1 (by decide) (va_Nw.use (A := args) rfl f91) (fun _ h9 => h9) rfl dX5_firstWrongBlock_7 ?_
      refine x_icmp_ge (tgt := 61) hx hb dX5_firstWrongBlock_10 (by decide) (by omega) (by omega) (fun c10 => ?_) (fun c10 => ?_)
      · refine lv_bipush (v := (-2)) hx hb dX5_firstWrongBlock_61 (by decide) ?_
        exact hret dX5_firstWrongBlock_63 (by have h := i2_1; rw [show ef - i = 0 by omega, fwO] at h; rw [← h]; rfl) hP hD hS
      · refine lv_iconst (v := nI 0) hx hb dX5_firstWrongBlock_13 (by decide) ?_
        refine lv_istore_n (lv' := [(2, .int (nI 0)), (0, .ref (a 0)), (1, .int (nI i))]) hx hb dX5_firstWrongBlock_14 rfl hl (by decide) rfl (fun ls hl => ?_)
        have L15 : ∀ (fu15 : Nat) (p1 : Nat), (hfl ef eF i 2 - p1 < fu15) → (p1 ≤ hfl ef eF i 2) → (fwI dn dg ef eF i (hfl ef eF i 2 - p1) p1 = fwI dn dg ef eF i (hfl ef eF i 2) 0) → ∀ (H : Heap) (locs : List Loc), va_P (dC, dI) vwCl (wS a cB cI cL h1 h2 s1 s2 op nx wt sf lf dn dg un ug qn qt qg tn tk tv ts ef eg ex eF pf pg px pF) H → va_D A (wS a cB cI cL h1 h2 s1 s2 op nx wt sf lf dn dg un ug qn qt qg tn tk tv ts ef eg ex eF pf pg px pF) → va_S A s.heap H locs → ∀ (ls : Array Slot), lv_has ls 3 [(0, .ref (a 0)), (1, .int (nI i)), (2, .int (nI p1))] → W p l e { frames := 5, cells := 0, slots := 0, locals := 115 } s m args below meth c H locs 0 0 Q (F0 m 15 ls []) := by
          intro fu15
          induction fu15 with
          | zero => intro p1 hm; exact absurd hm (Nat.not_lt_zero _)
          | succ fu15 ih15 =>
            intro p1 hm i15_0 i15_1 H locs hP hD hS ls hl
            have q3 := hgo i (by omega)
            have q2 := hfl_lt (n := ef) heF (i := i) (w := 2)
            have q4 := hfl_lt (n := ef) heF (i := i) (w := 1)
            refine lv_iload_n hx hb dX5_firstWrongBlock_15 rfl (lv_at hl 2 rfl) ?_
            refine lv_aload_n hx hb dX5_firstWrongBlock_16 rfl (lv_at hl 0 rfl) ?_
            refine va_get (D := (dC, dI)) (ci := 5) (v := .ref h1) (C := RX5) (T := TX5) (N := 11) hx hb hts in_X5 hown hK hP 0 rfl rfl 4 (by decide) f42 (fun _ h9 => h9) rfl dX5_firstWrongBlock_17 ?_
            refine lv_iload_n hx hb dX5_firstWrongBlock_20 rfl (lv_at hl 1 rfl) ?_
            refine lv_iconst (v := nI 2) hx hb dX5_firstWrongBlock_21 (by decide) ?_
            refine x_calli (va_runVN (As := [.int (nI i), .int (nI 2)]) (rest := [.int (nI p1)]) ⟨hx, hb, hml, hown, hts⟩ (c_He_field (show okH (fun ef' eg' ex' eF' => wS a cB cI cL h1 h2 s1 s2 op nx wt sf lf dn dg un ug qn qt qg tn tk tv ts ef' eg' ex' eF' pf pg px pF) 13 14 h1 h2 cI from ⟨fun _ _ _ _ => rfl, fun _ _ _ _ => rfl, fun _ _ _ _ _ _ _ => rfl, fun _ _ _ _ _ => rfl⟩) (tyS_I cB cI cL) ef eg ex eF i 2 (by omega) (by omega) (by omega)) ⟨(va_cnB 2 hts (tbG tw_387) rfl rfl rfl n157 ini_X1 (by decide +kernel) ⟨Nat.le_of_ble_eq_true rfl, Nat.le_of_ble_eq_true rfl⟩), im_yX1_field, se_yX1_field⟩ ⟨x_blind, va_recv hK hP (ci := 1) (q0 := 13) rfl rfl, x_pre hK hP hD hN⟩ rfl rfl hl.1 rfl (lv_room (Nat.le_of_ble_eq_true rfl)) dX5_firstWrongBlock_22 ⟨Nat.zero_le _, Nat.zero_le _⟩) hS (fun H locs hP hD hS => ?_)
            have hP : va_P (dC, dI) vwCl (wS a cB cI cL h1 h2 s1 s2 op nx wt sf lf dn dg un ug qn qt qg tn tk tv ts ef eg ex eF pf pg px pF) H := hP
            have hD : va_D A (wS a cB cI cL h1 h2 s1 s2 op nx wt sf lf dn dg un ug qn qt qg tn tk tv ts ef eg ex eF pf pg px pF) := hD
            have hv22 : hfl ef eF i 2 < 1048576 := hfl_lt heF
            refine x_icmp_ge (tgt := 55) hx hb dX5_firstWrongBlock_25 (by decide) (by omega) (by omega) (fun c25 => ?_) (fun c25 => ?_)
            · refine lv_iinc (v := nI (i + 1)) (lv' := [(1, .int (nI (i + 1))), (0, .ref (a 0)), (2, .int (nI p1))]) hx hb dX5_firstWrongBlock_55 hl (k := 1) rfl (x_inc _) (by decide) rfl (fun ls hl => ?_)
              refine lv_goto (tgt := 2) hx hb dX5_firstWrongBlock_58 (by decide) ?_
              exact ih2 (i + 1) (by omega) (by omega) (by have h := i2_1; have z := i15_1; rw [show hfl ef eF i 2 - p1 = 0 by omega, fwI] at z; rw [show ef - i = (ef - (i + 1)) + 1 by omega, fwO, ← z] at h; exact h) _ _ hP hD hS ls (lv_sub hl [1, 0] rfl)
            · refine lv_aload_n hx hb dX5_firstWrongBlock_28 rfl (lv_at hl 0 rfl) ?_
              refine lv_iload_n hx hb dX5_firstWrongBlock_29 rfl (lv_at hl 1 rfl) ?_
              refine lv_iload_n hx hb dX5_firstWrongBlock_30 rfl (lv_at hl 2 rfl) ?_
              refine x_calli (va_runV (As := [.int (nI i), .int (nI p1)]) (rest := []) ⟨hx, hb, hml, hown, hts⟩ (c_SL_isFileBlock (by omega) hdg heF (by omega) i p1 (by omega) (by omega) (by omega)) (cwV 2 hts (tbV tw_475 tw_477 tw_46 tw_84 tw_478) rfl rfl rfl (by decide +kernel) ⟨Nat.le_of_ble_eq_true rfl, Nat.le_of_ble_eq_true rfl⟩) ⟨x_blind, va_recv hK hP (ci := 5) (q0 := 0) rfl rfl, x_pre hK hP hD hN⟩ rfl rfl hl.1 rfl (lv_room (Nat.le_of_ble_eq_true rfl)) dX5_firstWrongBlock_31 ⟨Nat.zero_le _, Nat.zero_le _⟩) hS (fun H locs hP hD hS => ?_)
              have hP : va_P (dC, dI) vwCl (wS a cB cI cL h1 h2 s1 s2 op nx wt sf lf dn dg un ug qn qt qg tn tk tv ts ef eg ex eF pf pg px pF) H := hP
              have hD : va_D A (wS a cB cI cL h1 h2 s1 s2 op nx wt sf lf dn dg un ug qn qt qg tn tk tv ts ef eg ex eF pf pg px pF) := hD
              refine x_if_ne_b (tgt := 49) hx hb dX5_firstWrongBlock_34 (by decide) (fun c34 => ?_) (fun c34 => ?_)
              · refine lv_iinc (v := nI (p1 + 1)) (lv' := [(2, .int (nI (p1 + 1))), (0, .ref (a 0)), (1, .int (nI i))]) hx hb dX5_firstWrongBlock_49 hl (k := 2) rfl (x_inc _) (by decide) rfl (fun ls hl => ?_)
                refine lv_goto (tgt := 15) hx hb dX5_firstWrongBlock_52 (by decide) ?_
                exact ih15 (p1 + 1) (by omega) (by omega) (by have h := i15_1; rw [show hfl ef eF i 2 - p1 = (hfl ef eF i 2 - (p1 + 1)) + 1 by omega, fwI, if_pos c34] at h; exact h) _ _ hP hD hS ls (lv_sub hl [1, 2, 0] rfl)
              · have z := i15_1
                rw [show hfl ef eF i 2 - p1 = (hfl ef eF i 2 - (p1 + 1)) + 1 by omega, fwI, if_neg (by rw [c34]; decide)] at z
                have h := i2_1
                rw [show ef - i = (ef - (i + 1)) + 1 by omega, fwO, ← z] at h
                refine lv_aload_n hx hb dX5_firstWrongBlock_37 rfl (lv_at hl 0 rfl) ?_
                refine va_get (D := (dC, dI)) (ci := 5) (v := .ref h1) (C := RX5) (T := TX5) (N := 11) hx hb hts in_X5 hown hK hP 0 rfl rfl 4 (by decide) f42 (fun _ h9 => h9) rfl dX5_firstWrongBlock_38 ?_
                refine lv_iload_n hx hb dX5_firstWrongBlock_41 rfl (lv_at hl 1 rfl) ?_
                refine lv_iconst (v := nI 1) hx hb dX5_firstWrongBlock_42 (by decide) ?_
                refine x_calli (va_runVN (As := [.int (nI i), .int (nI 1)]) (rest := []) ⟨hx, hb, hml, hown, hts⟩ (c_He_field (show okH (fun ef' eg' ex' eF' => wS a cB cI cL h1 h2 s1 s2 op nx wt sf lf dn dg un ug qn qt qg tn tk tv ts ef' eg' ex' eF' pf pg px pF) 13 14 h1 h2 cI from ⟨fun _ _ _ _ => rfl, fun _ _ _ _ => rfl, fun _ _ _ _ _ _ _ => rfl, fun _ _ _ _ _ => rfl⟩) (tyS_I cB cI cL) ef eg ex eF i 1 (by omega) (by omega) (by omega)) ⟨(va_cnB 2 hts (tbG tw_387) rfl rfl rfl n157 ini_X1 (by decide +kernel) ⟨Nat.le_of_ble_eq_true rfl, Nat.le_of_ble_eq_true rfl⟩), im_yX1_field, se_yX1_field⟩ ⟨x_blind, va_recv hK hP (ci := 1) (q0 := 13) rfl rfl, x_pre hK hP hD hN⟩ rfl rfl hl.1 rfl (lv_room (Nat.le_of_ble_eq_true rfl)) dX5_firstWrongBlock_43 ⟨Nat.zero_le _, Nat.zero_le _⟩) hS (fun H locs hP hD hS => ?_)
                have hP : va_P (dC, dI) vwCl (wS a cB cI cL h1 h2 s1 s2 op nx wt sf lf dn dg un ug qn qt qg tn tk tv ts ef eg ex eF pf pg px pF) H := hP
                have hD : va_D A (wS a cB cI cL h1 h2 s1 s2 op nx wt sf lf dn dg un ug qn qt qg tn tk tv ts ef eg ex eF pf pg px pF) := hD
                have hv43 : hfl ef eF i 1 < 1048576 := hfl_lt heF
                refine lv_iload_n hx hb dX5_firstWrongBlock_46 rfl (lv_at hl 2 rfl) ?_
                refine x_iadd hx hb dX5_firstWrongBlock_47 ?_
                exact hret dX5_firstWrongBlock_48 (by rw [← h]; rfl) hP hD hS
        exact L15 (hfl ef eF i 2 - 0 + 1) 0 (by omega) (by omega) (by rfl) _ _ hP hD hS ls (lv_sub hl [1, 2, 0] rfl)
  exact L2 (ef - 0 + 1) 0 (by omega) (by omega) (by rfl) _ _ hP hD hS ls (lv_sub hl [1, 0] rfl)

set_option maxHeartbeats 4000000 in
set_option maxRecDepth 100000 in
theorem c_SL_readLogBlock {l : Launch} {dC : Nat → ClassId} {dI : Nat → Nat → Nat} {A : Nat → Prop} {a : Nat → Nat} {cB cI cL : ClassId} {h1 h2 s1 s2 : Nat} {op : Bool} {nx wt sf lf dn : Nat} {dg : Nat → Nat} {un : Nat} {ug : Nat → Nat} {qn : Nat} {qt qg : Nat → Nat} {tn : Nat} {tk tv : Nat → Int64} {ts : Nat → Nat} {ef eg ex : Nat} {eF : Nat → Nat} {pf pg px : Nat} {pF : Nat → Nat} (hdn : dn ≤ 64) (hun : un ≤ 64) (htn : tn ≤ 192) (hdg : ∀ j, dg j < 256) (hug : ∀ j, ug j < 8) (hs : ∀ j, ts j < 2 ^ 31) (hnx : nx < 2 ^ 30) (b : Nat) (hb1 : b < 2 ^ 20) : Met l yX5_readLogBlock (Cond.code yX5_readLogBlock cX5_readLogBlock 4 none :: TB) { frames := 4, cells := 0, slots := 0, locals := 94 } (xPre Nst (dC, dI) A (tyS cB cI cL) (wS a cB cI cL h1 h2 s1 s2 op nx wt sf lf dn dg un ug qn qt qg tn tk tv ts ef eg ex eF pf pg px pF) [.ref (a 0), .int (nI b)]) (xQv (dC, dI) A (wS a cB cI cL h1 h2 s1 s2 op (nx + bv dn dg b 1) wt sf lf dn dg un (umk un b 1 1 ug 0) qn qt qg ((rlI dn dg b nx (bv dn dg b 1) 0 (tn, tk, tv, ts)).1) ((rlI dn dg b nx (bv dn dg b 1) 0 (tn, tk, tv, ts)).2.1) ((rlI dn dg b nx (bv dn dg b 1) 0 (tn, tk, tv, ts)).2.2.1) ((rlI dn dg b nx (bv dn dg b 1) 0 (tn, tk, tv, ts)).2.2.2) ef eg ex eF pf pg px pF)) 0 0 A := by
  refine x_ofWv (cc := cX5_readLogBlock) (maxL := 4) (by decide) rfl (Nat.le_of_ble_eq_true rfl) ?_
  intro p e s m args below meth c Q hx hb hml hts hown hK hN hP hD hS hret ls hl
  have hl : lv_has ls 4 [(0, .ref (a 0)), (1, .int (nI b))] := hl
  have hown : s.vm.findClass RX5 = some m.cls := hown
  have w1 := bv_lt (n := dn) (b := b) (i := 1) hdg
  have f14 := hts _ (List.mem_cons_of_mem _ tw_207)
  have in_X5 := (fun q hq => List.mem_cons_of_mem _ (inX5 q hq) : ∀ q ∈ wsX50, q ∈ (Cond.code yX5_readLogBlock cX5_readLogBlock 4 none :: TB))
  have n167 := hN (.methodLinkNest RX5 167 yX0_value "SegmentLog") (by decide +kernel)
  have ini_X0 := hts _ (List.mem_cons_of_mem _ tw_85)
  have im_yX0_value := hts _ (List.mem_cons_of_mem _ tw_344)
  have se_yX0_value := hts _ (List.mem_cons_of_mem _ tw_25)
  have f53 := hts _ (List.mem_cons_of_mem _ tw_214)
  have f21 := hts _ (List.mem_cons_of_mem _ tw_208)
  have n225 := hN (.methodLinkNest RX5 225 yX4_mark "SegmentLog") (by decide +kernel)
  have ini_X4 := hts _ (List.mem_cons_of_mem _ tw_86)
  have im_yX4_mark := hts _ (List.mem_cons_of_mem _ tw_130)
  have se_yX4_mark := hts _ (List.mem_cons_of_mem _ tw_1)
  refine lv_aload_n hx hb dX5_readLogBlock_0 rfl (lv_at hl 0 rfl) ?_
  refine va_get (D := (dC, dI)) (ci := 5) (v := .ref (a 1)) (C := RX5) (T := TX5) (N := 11) hx hb hts in_X5 hown hK hP 0 rfl rfl 0 (by decide) f14 (fun _ h9 => h9) rfl dX5_readLogBlock_1 ?_
  refine lv_iload_n hx hb dX5_readLogBlock_4 rfl (lv_at hl 1 rfl) ?_
  refine lv_iconst (v := nI 1) hx hb dX5_readLogBlock_5 (by decide) ?_
  refine x_calli (va_runVN (As := [.int (nI b), .int (nI 1)]) (rest := []) ⟨hx, hb, hml, hown, hts⟩ (c_Bl_value (show okB (fun dg' => wS a cB cI cL h1 h2 s1 s2 op nx wt sf lf dn dg' un ug qn qt qg tn tk tv ts ef eg ex eF pf pg px pF) 1 2 (a 1) (a 2) cB dn from ⟨fun _ => rfl, fun _ => rfl, fun _ _ => rfl⟩) (tyS_B cB cI cL) (by omega) dg hdg b 1 (by omega) (by omega)) ⟨(va_cnB 2 hts (tbG tw_345) rfl rfl rfl n167 ini_X0 (by decide +kernel) ⟨Nat.le_of_ble_eq_true rfl, Nat.le_of_ble_eq_true rfl⟩), im_yX0_value, se_yX0_value⟩ ⟨x_blind, va_recv hK hP (ci := 0) (q0 := 1) rfl rfl, x_pre hK hP hD hN⟩ rfl rfl hl.1 rfl (lv_room (Nat.le_of_ble_eq_true rfl)) dX5_readLogBlock_6 ⟨Nat.zero_le _, Nat.zero_le _⟩) hS (fun H locs hP hD hS => ?_)
  have hP : va_P (dC, dI) vwCl (wS a cB cI cL h1 h2 s1 s2 op nx wt sf lf dn dg un ug qn qt qg tn tk tv ts ef eg ex eF pf pg px pF) H := hP
  have hD : va_D A (wS a cB cI cL h1 h2 s1 s2 op nx wt sf lf dn dg un ug qn qt qg tn tk tv ts ef eg ex eF pf pg px pF) := hD
  have hv6 : bv dn dg b 1 < 256 := bv_lt hdg
  refine lv_istore_n (lv' := [(2, .int (nI (bv dn dg b 1))), (0, .ref (a 0)), (1, .int (nI b))]) hx hb dX5_readLogBlock_9 rfl hl (by decide) rfl (fun ls hl => ?_)
  refine lv_iconst (v := nI 0) hx hb dX5_readLogBlock_10 (by decide) ?_
  refine lv_istore_n (lv' := [(3, .int (nI 0)), (2, .int (nI (bv dn dg b 1))), (0, .ref (a 0)), (1, .int (nI b))]) hx hb dX5_readLogBlock_11 rfl hl (by decide) rfl (fun ls hl => ?_)
  have L12 : ∀ (fu12 : Nat) (j : Nat) (T' : TS), (bv dn dg b 1 - j < fu12) → (j ≤ bv dn dg b 1) → (T'.1 ≤ 192) → (∀ q, T'.2.2.2 q < 2 ^ 31) → (rlI dn dg b nx (bv dn dg b 1 - j) j T' = rlI dn dg b nx (bv dn dg b 1) 0 (tn, tk, tv, ts)) → ∀ (H : Heap) (locs : List Loc), va_P (dC, dI) vwCl (wS a cB cI cL h1 h2 s1 s2 op nx wt sf lf dn dg un ug qn qt qg T'.1 T'.2.1 T'.2.2.1 T'.2.2.2 ef eg ex eF pf pg px pF) H → va_D A (wS a cB cI cL h1 h2 s1 s2 op nx wt sf lf dn dg un ug qn qt qg T'.1 T'.2.1 T'.2.2.1 T'.2.2.2 ef eg ex eF pf pg px pF) → va_S A s.heap H locs → ∀ (ls : Array Slot), lv_has ls 4 [(0, .ref (a 0)), (1, .int (nI b)), (2, .int (nI (bv dn dg b 1))), (3, .int (nI j))] → W p l e { frames := 4, cells := 0, slots := 0, locals := 94 } s m args below meth c H locs 0 0 Q (F0 m 12 ls []) := by
    intro fu12
    induction fu12 with
    | zero => intro j T' hm; exact absurd hm (Nat.not_lt_zero _)
    | succ fu12 ih12 =>
      intro j T' hm i12_0 i12_1 i12_2 i12_3 H locs hP hD hS ls hl
      refine lv_iload_n hx hb dX5_readLogBlock_12 rfl (lv_at hl 3 rfl) ?_
      refine lv_iload_n hx hb dX5_readLogBlock_13 rfl (lv_at hl 2 rfl) ?_
      refine x_icmp_ge (tgt := 35) hx hb dX5_readLogBlock_14 (by decide) (by omega) (by omega) (fun c14 => ?_) (fun c14 => ?_)
      · have zz := i12_3
        rw [show bv dn dg b 1 - j = 0 by omega, rlI] at zz
        refine lv_aload_n hx hb dX5_readLogBlock_35 rfl (lv_at hl 0 rfl) ?_
        refine lv_dup hx hb dX5_readLogBlock_36 rfl ?_
        refine va_get (D := (dC, dI)) (ci := 5) (v := .int (nI nx)) (C := RX5) (T := TX5) (N := 11) hx hb hts in_X5 hown hK hP 0 rfl rfl 7 (by decide) f53 (fun _ h9 => h9) rfl dX5_readLogBlock_37 ?_
        refine lv_iload_n hx hb dX5_readLogBlock_40 rfl (lv_at hl 2 rfl) ?_
        refine x_iadd hx hb dX5_readLogBlock_41 ?_
        refine va_put (D := (dC, dI)) (ci := 5) (v := .int (nI (nx + (bv dn dg b 1)))) (ty := .int) (C := RX5) (T := TX5) (N := 11) hx hb hts in_X5 tyX5 tyX5_ok nmX5 hown hK hP hD hS 0 rfl rfl 7 (by decide) f53 (fun _ h9 => h9) rfl (by decide +kernel) rfl rfl (Nat.le_of_ble_eq_true rfl) dX5_readLogBlock_42 (fun H locs hP hD hS => ?_)
        have hP : va_P (dC, dI) vwCl (wS a cB cI cL h1 h2 s1 s2 op (nx + (bv dn dg b 1)) wt sf lf dn dg un ug qn qt qg T'.1 T'.2.1 T'.2.2.1 T'.2.2.2 ef eg ex eF pf pg px pF) H := hP
        have hD : va_D A (wS a cB cI cL h1 h2 s1 s2 op (nx + (bv dn dg b 1)) wt sf lf dn dg un ug qn qt qg T'.1 T'.2.1 T'.2.2.1 T'.2.2.2 ef eg ex eF pf pg px pF) := hD
        refine lv_aload_n hx hb dX5_readLogBlock_45 rfl (lv_at hl 0 rfl) ?_
        refine va_get (D := (dC, dI)) (ci := 5) (v := .ref (a 3)) (C := RX5) (T := TX5) (N := 11) hx hb hts in_X5 hown hK hP 0 rfl rfl 1 (by decide) f21 (fun _ h9 => h9) rfl dX5_readLogBlock_46 ?_
        refine lv_iload_n hx hb dX5_readLogBlock_49 rfl (lv_at hl 1 rfl) ?_
        refine lv_iconst (v := nI 1) hx hb dX5_readLogBlock_50 (by decide) ?_
        refine lv_iconst (v := nI 1) hx hb dX5_readLogBlock_51 (by decide) ?_
        refine x_callv (va_runVN (As := [.int (nI b), .int (nI 1), .int (nI 1)]) (rest := []) ⟨hx, hb, hml, hown, hts⟩ (c_Us_mark (show okU (fun ug' => wS a cB cI cL h1 h2 s1 s2 op (nx + (bv dn dg b 1)) wt sf lf dn dg un ug' qn qt qg T'.1 T'.2.1 T'.2.2.1 T'.2.2.2 ef eg ex eF pf pg px pF) 3 4 (a 3) (a 4) cI un from ⟨fun _ => rfl, fun _ => rfl, fun _ _ => rfl⟩) (tyS_I cB cI cL) (by omega) ug hug b 1 1 (by omega) (by omega)) ⟨(va_cnB 3 hts (tbG tw_131) rfl rfl rfl n225 ini_X4 (by decide +kernel) ⟨Nat.le_of_ble_eq_true rfl, Nat.le_of_ble_eq_true rfl⟩), im_yX4_mark, se_yX4_mark⟩ ⟨x_blind, va_recv hK hP (ci := 4) (q0 := 3) rfl rfl, x_pre hK hP hD hN⟩ rfl rfl hl.1 rfl (lv_room (Nat.le_of_ble_eq_true rfl)) dX5_readLogBlock_52 ⟨Nat.zero_le _, Nat.zero_le _⟩) hS (fun H locs hP hD hS => ?_)
        have hP : va_P (dC, dI) vwCl (wS a cB cI cL h1 h2 s1 s2 op (nx + (bv dn dg b 1)) wt sf lf dn dg un (umk un b 1 1 ug 0) qn qt qg T'.1 T'.2.1 T'.2.2.1 T'.2.2.2 ef eg ex eF pf pg px pF) H := hP
        have hD : va_D A (wS a cB cI cL h1 h2 s1 s2 op (nx + (bv dn dg b 1)) wt sf lf dn dg un (umk un b 1 1 ug 0) qn qt qg T'.1 T'.2.1 T'.2.2.1 T'.2.2.2 ef eg ex eF pf pg px pF) := hD
        have e1 : T'.1 = ((rlI dn dg b nx (bv dn dg b 1) 0 (tn, tk, tv, ts)).1) := by rw [zz]
        have h9 : wS a cB cI cL h1 h2 s1 s2 op (nx + (bv dn dg b 1)) wt sf lf dn dg un (umk un b 1 1 ug 0) qn qt qg T'.1 T'.2.1 T'.2.2.1 T'.2.2.2 ef eg ex eF pf pg px pF = wS a cB cI cL h1 h2 s1 s2 op (nx + (bv dn dg b 1)) wt sf lf dn dg un (umk un b 1 1 ug 0) qn qt qg ((rlI dn dg b nx (bv dn dg b 1) 0 (tn, tk, tv, ts)).1) T'.2.1 T'.2.2.1 T'.2.2.2 ef eg ex eF pf pg px pF := by rw [← e1]
        have hP := x_wP h9 hP
        have hD := x_wD h9 hD
        have e2 : T'.2.1 = ((rlI dn dg b nx (bv dn dg b 1) 0 (tn, tk, tv, ts)).2.1) := by rw [zz]
        have h9 : wS a cB cI cL h1 h2 s1 s2 op (nx + (bv dn dg b 1)) wt sf lf dn dg un (umk un b 1 1 ug 0) qn qt qg ((rlI dn dg b nx (bv dn dg b 1) 0 (tn, tk, tv, ts)).1) T'.2.1 T'.2.2.1 T'.2.2.2 ef eg ex eF pf pg px pF = wS a cB cI cL h1 h2 s1 s2 op (nx + (bv dn dg b 1)) wt sf lf dn dg un (umk un b 1 1 ug 0) qn qt qg ((rlI dn dg b nx (bv dn dg b 1) 0 (tn, tk, tv, ts)).1) ((rlI dn dg b nx (bv dn dg b 1) 0 (tn, tk, tv, ts)).2.1) T'.2.2.1 T'.2.2.2 ef eg ex eF pf pg px pF := by rw [← e2]
        have hP := x_wP h9 hP
        have hD := x_wD h9 hD
        have e3 : T'.2.2.1 = ((rlI dn dg b nx (bv dn dg b 1) 0 (tn, tk, tv, ts)).2.2.1) := by rw [zz]
        have h9 : wS a cB cI cL h1 h2 s1 s2 op (nx + (bv dn dg b 1)) wt sf lf dn dg un (umk un b 1 1 ug 0) qn qt qg ((rlI dn dg b nx (bv dn dg b 1) 0 (tn, tk, tv, ts)).1) ((rlI dn dg b nx (bv dn dg b 1) 0 (tn, tk, tv, ts)).2.1) T'.2.2.1 T'.2.2.2 ef eg ex eF pf pg px pF = wS a cB cI cL h1 h2 s1 s2 op (nx + (bv dn dg b 1)) wt sf lf dn dg un (umk un b 1 1 ug 0) qn qt qg ((rlI dn dg b nx (bv dn dg b 1) 0 (tn, tk, tv, ts)).1) ((rlI dn dg b nx (bv dn dg b 1) 0 (tn, tk, tv, ts)).2.1) ((rlI dn dg b nx (bv dn dg b 1) 0 (tn, tk, tv, ts)).2.2.1) T'.2.2.2 ef eg ex eF pf pg px pF := by rw [← e3]
        have hP := x_wP h9 hP
        have hD := x_wD h9 hD
        have e4 : T'.2.2.2 = ((rlI dn dg b nx (bv dn dg b 1) 0 (tn, tk, tv, ts)).2.2.2) := by rw [zz]
        have h9 : wS a cB cI cL h1 h2 s1 s2 op (nx + (bv dn dg b 1)) wt sf lf dn dg un (umk un b 1 1 ug 0) qn qt qg ((rlI dn dg b nx (bv dn dg b 1) 0 (tn, tk, tv, ts)).1) ((rlI dn dg b nx (bv dn dg b 1) 0 (tn, tk, tv, ts)).2.1) ((rlI dn dg b nx (bv dn dg b 1) 0 (tn, tk, tv, ts)).2.2.1) T'.2.2.2 ef eg ex eF pf pg px pF = wS a cB cI cL h1 h2 s1 s2 op (nx + (bv dn dg b 1)) wt sf lf dn dg un (umk un b 1 1 ug 0) qn qt qg ((rlI dn dg b nx (bv dn dg b 1) 0 (tn, tk, tv, ts)).1) ((rlI dn dg b nx (bv dn dg b 1) 0 (tn, tk, tv, ts)).2.1) ((rlI dn dg b nx (bv dn dg b 1) 0 (tn, tk, tv, ts)).2.2.1) ((rlI dn dg b nx (bv dn dg b 1) 0 (tn, tk, tv, ts)).2.2.2) ef eg ex eF pf pg px pF := by rw [← e4]
        have hP := x_wP h9 hP
        have hD := x_wD h9 hD
        exact hret dX5_readLogBlock_55 hP hD hS
      · refine lv_aload_n hx hb dX5_readLogBlock_17 rfl (lv_at hl 0 rfl) ?_
        refine lv_iload_n hx hb dX5_readLogBlock_18 rfl (lv_at hl 1 rfl) ?_
        refine lv_iload_n hx hb dX5_readLogBlock_19 rfl (lv_at hl 3 rfl) ?_
        refine lv_aload_n hx hb dX5_readLogBlock_20 rfl (lv_at hl 0 rfl) ?_
        refine va_get (D := (dC, dI)) (ci := 5) (v := .int (nI nx)) (C := RX5) (T := TX5) (N := 11) hx hb hts in_X5 hown hK hP 0 rfl rfl 7 (by decide) f53 (fun _ h9 => h9) rfl dX5_readLogBlock_21 ?_
        refine lv_iload_n hx hb dX5_readLogBlock_24 rfl (lv_at hl 3 rfl) ?_
        refine x_iadd hx hb dX5_readLogBlock_25 ?_
        refine x_callv (va_runV (As := [.int (nI b), .int (nI j), .int (nI (nx + j))]) (rest := []) ⟨hx, hb, hml, hown, hts⟩ (c_SL_readRecord (by omega) (by omega) hdg i12_2 b j (nx + j) (by omega) (by omega) (by omega)) (cwV 3 hts (tbV tw_487 tw_489 tw_48 tw_84 tw_490) rfl rfl rfl (by decide +kernel) ⟨Nat.le_of_ble_eq_true rfl, Nat.le_of_ble_eq_true rfl⟩) ⟨x_blind, va_recv hK hP (ci := 5) (q0 := 0) rfl rfl, x_pre hK hP hD hN⟩ rfl rfl hl.1 rfl (lv_room (Nat.le_of_ble_eq_true rfl)) dX5_readLogBlock_26 ⟨Nat.zero_le _, Nat.zero_le _⟩) hS (fun H locs hP hD hS => ?_)
        have hP : va_P (dC, dI) vwCl (wS a cB cI cL h1 h2 s1 s2 op nx wt sf lf dn dg un ug qn qt qg ((rdR dn dg b j (nx + j) T').1) ((rdR dn dg b j (nx + j) T').2.1) ((rdR dn dg b j (nx + j) T').2.2.1) ((rdR dn dg b j (nx + j) T').2.2.2) ef eg ex eF pf pg px pF) H := hP
        have hD : va_D A (wS a cB cI cL h1 h2 s1 s2 op nx wt sf lf dn dg un ug qn qt qg ((rdR dn dg b j (nx + j) T').1) ((rdR dn dg b j (nx + j) T').2.1) ((rdR dn dg b j (nx + j) T').2.2.1) ((rdR dn dg b j (nx + j) T').2.2.2) ef eg ex eF pf pg px pF) := hD
        refine lv_iinc (v := nI (j + 1)) (lv' := [(3, .int (nI (j + 1))), (0, .ref (a 0)), (1, .int (nI b)), (2, .int (nI (bv dn dg b 1)))]) hx hb dX5_readLogBlock_29 hl (k := 3) rfl (x_inc _) (by decide) rfl (fun ls hl => ?_)
        refine lv_goto (tgt := 12) hx hb dX5_readLogBlock_32 (by decide) ?_
        exact ih12 (j + 1) (rdR dn dg b j (nx + j) T') (by omega) (by omega) (by exact rdR_le i12_1) (by exact rdR_lt i12_2 (by omega)) (by have h := i12_3; rw [show bv dn dg b 1 - j = (bv dn dg b 1 - (j + 1)) + 1 by omega, rlI] at h; exact h) _ _ hP hD hS ls (lv_sub hl [1, 2, 3, 0] rfl)
  have e5 : tn = ((tn, tk, tv, ts).1) := by rfl
  have e6 : tk = ((tn, tk, tv, ts).2.1) := by rfl
  have e7 : tv = ((tn, tk, tv, ts).2.2.1) := by rfl
  have e8 : ts = ((tn, tk, tv, ts).2.2.2) := by rfl
  exact L12 (bv dn dg b 1 - 0 + 1) 0 (tn, tk, tv, ts) (by omega) (by omega) (by exact htn) (by exact hs) (by rfl) _ _ (x_wP (by rw [← e5, ← e6, ← e7, ← e8]) hP) (x_wD (by rw [← e5, ← e6, ← e7, ← e8]) hD) hS ls (lv_sub hl [2, 3, 1, 0] rfl)

set_option maxHeartbeats 4000000 in
set_option maxRecDepth 100000 in
theorem c_SL_wipeOldLog {l : Launch} {dC : Nat → ClassId} {dI : Nat → Nat → Nat} {A : Nat → Prop} {a : Nat → Nat} {cB cI cL : ClassId} {h1 h2 s1 s2 : Nat} {op : Bool} {nx wt sf lf dn : Nat} {dg : Nat → Nat} {un : Nat} {ug : Nat → Nat} {qn : Nat} {qt qg : Nat → Nat} {tn : Nat} {tk tv : Nat → Int64} {ts : Nat → Nat} {ef eg ex : Nat} {eF : Nat → Nat} {pf pg px : Nat} {pF : Nat → Nat} (hdn : dn ≤ 64) (hun : un ≤ 64) (hdg : ∀ j, dg j < 256) (hug : ∀ j, ug j < 8) : Met l yX5_wipeOldLog (Cond.code yX5_wipeOldLog cX5_wipeOldLog 2 none :: TB) { frames := 3, cells := 0, slots := 0, locals := 67 } (xPre Nst (dC, dI) A (tyS cB cI cL) (wS a cB cI cL h1 h2 s1 s2 op nx wt sf lf dn dg un ug qn qt qg tn tk tv ts ef eg ex eF pf pg px pF) [.ref (a 0)]) (xQv (dC, dI) A (wS a cB cI cL h1 h2 s1 s2 op nx wt sf lf dn (wol dn un ug (dn - 2) 2 dg) un (utn 4 0 un ug 0) qn qt qg tn tk tv ts ef eg ex eF pf pg px pF)) 0 0 A := by
  refine x_ofWv (cc := cX5_wipeOldLog) (maxL := 2) (by decide) rfl (Nat.le_of_ble_eq_true rfl) ?_
  intro p e s m args below meth c Q hx hb hml hts hown hK hN hP hD hS hret ls hl
  have hl : lv_has ls 2 [(0, .ref (a 0))] := hl
  have hown : s.vm.findClass RX5 = some m.cls := hown
  have f14 := hts _ (List.mem_cons_of_mem _ tw_207)
  have in_X5 := (fun q hq => List.mem_cons_of_mem _ (inX5 q hq) : ∀ q ∈ wsX50, q ∈ (Cond.code yX5_wipeOldLog cX5_wipeOldLog 2 none :: TB))
  have f173 := hN (.fieldLinkNest RX5 173 "SegmentLog$Blocks" "size" "I" "SegmentLog") (by decide +kernel)
  have in_X0 := (fun q hq => List.mem_cons_of_mem _ (inX0 q hq) : ∀ q ∈ wsX00, q ∈ (Cond.code yX5_wipeOldLog cX5_wipeOldLog 2 none :: TB))
  have f21 := hts _ (List.mem_cons_of_mem _ tw_208)
  have n244 := hN (.methodLinkNest RX5 244 yX4_turn "SegmentLog") (by decide +kernel)
  have ini_X4 := hts _ (List.mem_cons_of_mem _ tw_86)
  have im_yX4_turn := hts _ (List.mem_cons_of_mem _ tw_423)
  have se_yX4_turn := hts _ (List.mem_cons_of_mem _ tw_37)
  have n164 := hN (.methodLinkNest RX5 164 yX4_of "SegmentLog") (by decide +kernel)
  have im_yX4_of := hts _ (List.mem_cons_of_mem _ tw_500)
  have se_yX4_of := hts _ (List.mem_cons_of_mem _ tw_50)
  have n277 := hN (.methodLinkNest RX5 277 yX0_wipe "SegmentLog") (by decide +kernel)
  have ini_X0 := hts _ (List.mem_cons_of_mem _ tw_85)
  have im_yX0_wipe := hts _ (List.mem_cons_of_mem _ tw_251)
  have se_yX0_wipe := hts _ (List.mem_cons_of_mem _ tw_4)
  refine lv_iconst (v := nI 2) hx hb dX5_wipeOldLog_0 (by decide) ?_
  refine lv_istore_n (lv' := [(1, .int (nI 2)), (0, .ref (a 0))]) hx hb dX5_wipeOldLog_1 rfl hl (by decide) rfl (fun ls hl => ?_)
  have L2 : ∀ (fu2 : Nat) (b : Nat) (d' : Nat → Nat), (dn - b < fu2) → (2 ≤ b ∧ b ≤ 64) → (∀ q, d' q < 256) → (wol dn un ug (dn - b) b d' = wol dn un ug (dn - 2) 2 dg) → ∀ (H : Heap) (locs : List Loc), va_P (dC, dI) vwCl (wS a cB cI cL h1 h2 s1 s2 op nx wt sf lf dn d' un ug qn qt qg tn tk tv ts ef eg ex eF pf pg px pF) H → va_D A (wS a cB cI cL h1 h2 s1 s2 op nx wt sf lf dn d' un ug qn qt qg tn tk tv ts ef eg ex eF pf pg px pF) → va_S A s.heap H locs → ∀ (ls : Array Slot), lv_has ls 2 [(0, .ref (a 0)), (1, .int (nI b))] → W p l e { frames := 3, cells := 0, slots := 0, locals := 67 } s m args below meth c H locs 0 0 Q (F0 m 2 ls []) := by
    intro fu2
    induction fu2 with
    | zero => intro b d' hm; exact absurd hm (Nat.not_lt_zero _)
    | succ fu2 ih2 =>
      intro b d' hm i2_0 i2_1 i2_2 H locs hP hD hS ls hl
      refine lv_iload_n hx hb dX5_wipeOldLog_2 rfl (lv_at hl 1 rfl) ?_
      refine lv_aload_n hx hb dX5_wipeOldLog_3 rfl (lv_at hl 0 rfl) ?_
      refine va_get (D := (dC, dI)) (ci := 5) (v := .ref (a 1)) (C := RX5) (T := TX5) (N := 11) hx hb hts in_X5 hown hK hP 0 rfl rfl 0 (by decide) f14 (fun _ h9 => h9) rfl dX5_wipeOldLog_4 ?_
      refine va_getN (D := (dC, dI)) (ci := 0) (v := .int (nI dn)) (C := RX0) (T := TX0) (N := 2) hx hb hts in_X0 hown hK hP 1 rfl rfl 1 (by decide) (va_Nw.use (A := args) rfl f173) (fun _ h9 => h9) rfl dX5_wipeOldLog_7 ?_
      refine x_icmp_ge (tgt := 39) hx hb dX5_wipeOldLog_10 (by decide) (by omega) (by omega) (fun c10 => ?_) (fun c10 => ?_)
      · refine lv_aload_n hx hb dX5_wipeOldLog_39 rfl (lv_at hl 0 rfl) ?_
        refine va_get (D := (dC, dI)) (ci := 5) (v := .ref (a 3)) (C := RX5) (T := TX5) (N := 11) hx hb hts in_X5 hown hK hP 0 rfl rfl 1 (by decide) f21 (fun _ h9 => h9) rfl dX5_wipeOldLog_40 ?_
        refine lv_iconst (v := nI 4) hx hb dX5_wipeOldLog_43 (by decide) ?_
        refine lv_iconst (v := nI 0) hx hb dX5_wipeOldLog_44 (by decide) ?_
        refine x_callv (va_runVN (As := [.int (nI 4), .int (nI 0)]) (rest := []) ⟨hx, hb, hml, hown, hts⟩ (c_Us_turn (show okU (fun ug' => wS a cB cI cL h1 h2 s1 s2 op nx wt sf lf dn d' un ug' qn qt qg tn tk tv ts ef eg ex eF pf pg px pF) 3 4 (a 3) (a 4) cI un from ⟨fun _ => rfl, fun _ => rfl, fun _ _ => rfl⟩) (tyS_I cB cI cL) (by omega) ug hug 4 0 (by omega) (by omega)) ⟨(va_cnB 2 hts (tbG tw_424) rfl rfl rfl n244 ini_X4 (by decide +kernel) ⟨Nat.le_of_ble_eq_true rfl, Nat.le_of_ble_eq_true rfl⟩), im_yX4_turn, se_yX4_turn⟩ ⟨x_blind, va_recv hK hP (ci := 4) (q0 := 3) rfl rfl, x_pre hK hP hD hN⟩ rfl rfl hl.1 rfl (lv_room (Nat.le_of_ble_eq_true rfl)) dX5_wipeOldLog_45 ⟨Nat.zero_le _, Nat.zero_le _⟩) hS (fun H locs hP hD hS => ?_)
        have hP : va_P (dC, dI) vwCl (wS a cB cI cL h1 h2 s1 s2 op nx wt sf lf dn d' un (utn 4 0 un ug 0) qn qt qg tn tk tv ts ef eg ex eF pf pg px pF) H := hP
        have hD : va_D A (wS a cB cI cL h1 h2 s1 s2 op nx wt sf lf dn d' un (utn 4 0 un ug 0) qn qt qg tn tk tv ts ef eg ex eF pf pg px pF) := hD
        have e1 : d' = (wol dn un ug (dn - 2) 2 dg) := by have h := i2_2; rw [show dn - b = 0 by omega] at h; exact h
        have h9 : wS a cB cI cL h1 h2 s1 s2 op nx wt sf lf dn d' un (utn 4 0 un ug 0) qn qt qg tn tk tv ts ef eg ex eF pf pg px pF = wS a cB cI cL h1 h2 s1 s2 op nx wt sf lf dn (wol dn un ug (dn - 2) 2 dg) un (utn 4 0 un ug 0) qn qt qg tn tk tv ts ef eg ex eF pf pg px pF := by rw [← e1]
        have hP := x_wP h9 hP
        have hD := x_wD h9 hD
        exact hret dX5_wipeOldLog_48 hP hD hS
      · refine lv_aload_n hx hb dX5_wipeOldLog_13 rfl (lv_at hl 0 rfl) ?_
        refine va_get (D := (dC, dI)) (ci := 5) (v := .ref (a 3)) (C := RX5) (T := TX5) (N := 11) hx hb hts in_X5 hown hK hP 0 rfl rfl 1 (by decide) f21 (fun _ h9 => h9) rfl dX5_wipeOldLog_14 ?_
        refine lv_iload_n hx hb dX5_wipeOldLog_17 rfl (lv_at hl 1 rfl) ?_
        refine x_calli (va_runVN (As := [.int (nI b)]) (rest := []) ⟨hx, hb, hml, hown, hts⟩ (c_Us_of (show okU (fun ug' => wS a cB cI cL h1 h2 s1 s2 op nx wt sf lf dn d' un ug' qn qt qg tn tk tv ts ef eg ex eF pf pg px pF) 3 4 (a 3) (a 4) cI un from ⟨fun _ => rfl, fun _ => rfl, fun _ _ => rfl⟩) (tyS_I cB cI cL) (by omega) ug hug b (by omega)) ⟨(va_cnB 1 hts (tbG tw_501) rfl rfl rfl n164 ini_X4 (by decide +kernel) ⟨Nat.le_of_ble_eq_true rfl, Nat.le_of_ble_eq_true rfl⟩), im_yX4_of, se_yX4_of⟩ ⟨x_blind, va_recv hK hP (ci := 4) (q0 := 3) rfl rfl, x_pre hK hP hD hN⟩ rfl rfl hl.1 rfl (lv_room (Nat.le_of_ble_eq_true rfl)) dX5_wipeOldLog_18 ⟨Nat.zero_le _, Nat.zero_le _⟩) hS (fun H locs hP hD hS => ?_)
        have hP : va_P (dC, dI) vwCl (wS a cB cI cL h1 h2 s1 s2 op nx wt sf lf dn d' un ug qn qt qg tn tk tv ts ef eg ex eF pf pg px pF) H := hP
        have hD : va_D A (wS a cB cI cL h1 h2 s1 s2 op nx wt sf lf dn d' un ug qn qt qg tn tk tv ts ef eg ex eF pf pg px pF) := hD
        have hv18 : uof un ug b < 8 := uof_lt hug
        refine lv_iconst (v := nI 4) hx hb dX5_wipeOldLog_21 (by decide) ?_
        refine x_icmp_ne (tgt := 33) hx hb dX5_wipeOldLog_22 (by decide) (by omega) (by omega) (fun c22 => ?_) (fun c22 => ?_)
        · refine lv_iinc (v := nI (b + 1)) (lv' := [(1, .int (nI (b + 1))), (0, .ref (a 0))]) hx hb dX5_wipeOldLog_33 hl (k := 1) rfl (x_inc _) (by decide) rfl (fun ls hl => ?_)
          refine lv_goto (tgt := 2) hx hb dX5_wipeOldLog_36 (by decide) ?_
          exact ih2 (b + 1) d' (by omega) (by omega) (by first | exact i2_1 | exact wipG_lt i2_1) (by have h := i2_2; rw [show dn - b = (dn - (b + 1)) + 1 by omega, wol] at h; first | (rw [if_pos c22] at h; exact h) | (rw [if_neg c22] at h; exact h)) _ _ hP hD hS ls (lv_sub hl [1, 0] rfl)
        · refine lv_aload_n hx hb dX5_wipeOldLog_25 rfl (lv_at hl 0 rfl) ?_
          refine va_get (D := (dC, dI)) (ci := 5) (v := .ref (a 1)) (C := RX5) (T := TX5) (N := 11) hx hb hts in_X5 hown hK hP 0 rfl rfl 0 (by decide) f14 (fun _ h9 => h9) rfl dX5_wipeOldLog_26 ?_
          refine lv_iload_n hx hb dX5_wipeOldLog_29 rfl (lv_at hl 1 rfl) ?_
          refine x_callv (va_runVN (As := [.int (nI b)]) (rest := []) ⟨hx, hb, hml, hown, hts⟩ (c_Bl_wipe (show okB (fun dg' => wS a cB cI cL h1 h2 s1 s2 op nx wt sf lf dn dg' un ug qn qt qg tn tk tv ts ef eg ex eF pf pg px pF) 1 2 (a 1) (a 2) cB dn from ⟨fun _ => rfl, fun _ => rfl, fun _ _ => rfl⟩) (tyS_B cB cI cL) (by omega) d' i2_1 b (by omega)) ⟨(va_cnB 1 hts (tbG tw_252) rfl rfl rfl n277 ini_X0 (by decide +kernel) ⟨Nat.le_of_ble_eq_true rfl, Nat.le_of_ble_eq_true rfl⟩), im_yX0_wipe, se_yX0_wipe⟩ ⟨x_blind, va_recv hK hP (ci := 0) (q0 := 1) rfl rfl, x_pre hK hP hD hN⟩ rfl rfl hl.1 rfl (lv_room (Nat.le_of_ble_eq_true rfl)) dX5_wipeOldLog_30 ⟨Nat.zero_le _, Nat.zero_le _⟩) hS (fun H locs hP hD hS => ?_)
          have hP : va_P (dC, dI) vwCl (wS a cB cI cL h1 h2 s1 s2 op nx wt sf lf dn (wipG dn b d') un ug qn qt qg tn tk tv ts ef eg ex eF pf pg px pF) H := hP
          have hD : va_D A (wS a cB cI cL h1 h2 s1 s2 op nx wt sf lf dn (wipG dn b d') un ug qn qt qg tn tk tv ts ef eg ex eF pf pg px pF) := hD
          refine lv_iinc (v := nI (b + 1)) (lv' := [(1, .int (nI (b + 1))), (0, .ref (a 0))]) hx hb dX5_wipeOldLog_33 hl (k := 1) rfl (x_inc _) (by decide) rfl (fun ls hl => ?_)
          refine lv_goto (tgt := 2) hx hb dX5_wipeOldLog_36 (by decide) ?_
          exact ih2 (b + 1) (wipG dn b d') (by omega) (by omega) (by first | exact i2_1 | exact wipG_lt i2_1) (by have h := i2_2; rw [show dn - b = (dn - (b + 1)) + 1 by omega, wol] at h; first | (rw [if_pos c22] at h; exact h) | (rw [if_neg c22] at h; exact h)) _ _ hP hD hS ls (lv_sub hl [1, 0] rfl)
  exact L2 (dn - 2 + 1) 2 dg (by omega) (by omega) (by exact hdg) (by rfl) _ _ hP hD hS ls (lv_sub hl [1, 0] rfl)

set_option maxHeartbeats 4000000 in
set_option maxRecDepth 100000 in
theorem c_SL_replayLog {l : Launch} {dC : Nat → ClassId} {dI : Nat → Nat → Nat} {A : Nat → Prop} {a : Nat → Nat} {cB cI cL : ClassId} {h1 h2 s1 s2 : Nat} {op : Bool} {nx wt sf lf dn : Nat} {dg : Nat → Nat} {un : Nat} {ug : Nat → Nat} {qn : Nat} {qt qg : Nat → Nat} {tn : Nat} {tk tv : Nat → Int64} {ts : Nat → Nat} {ef eg ex : Nat} {eF : Nat → Nat} {pf pg px : Nat} {pF : Nat → Nat} (hdn : dn ≤ 64) (hun : un ≤ 64) (htn : tn ≤ 192) (hdg : ∀ j, dg j < 256) (hug : ∀ j, ug j < 8) (hs : ∀ j, ts j < 2 ^ 31) (hnx : nx < 2 ^ 30) (hn1 : nx + 255 * dn < 2 ^ 30) : Met l yX5_replayLog (Cond.code yX5_replayLog cX5_replayLog 3 none :: TB) { frames := 5, cells := 0, slots := 0, locals := 117 } (xPre Nst (dC, dI) A (tyS cB cI cL) (wS a cB cI cL h1 h2 s1 s2 op nx wt sf lf dn dg un ug qn qt qg tn tk tv ts ef eg ex eF pf pg px pF) [.ref (a 0)]) (xQv (dC, dI) A (wS a cB cI cL h1 h2 s1 s2 op ((rpl dn dg un dn ((tn, tk, tv, ts), nx, mol dn dg un (dn - 2) 2 ug)).2.1) wt sf lf dn (wol dn un (rpl dn dg un dn ((tn, tk, tv, ts), nx, mol dn dg un (dn - 2) 2 ug)).2.2 (dn - 2) 2 dg) un (utn 4 0 un (rpl dn dg un dn ((tn, tk, tv, ts), nx, mol dn dg un (dn - 2) 2 ug)).2.2 0) qn qt qg (((rpl dn dg un dn ((tn, tk, tv, ts), nx, mol dn dg un (dn - 2) 2 ug)).1).1) (((rpl dn dg un dn ((tn, tk, tv, ts), nx, mol dn dg un (dn - 2) 2 ug)).1).2.1) (((rpl dn dg un dn ((tn, tk, tv, ts), nx, mol dn dg un (dn - 2) 2 ug)).1).2.2.1) (((rpl dn dg un dn ((tn, tk, tv, ts), nx, mol dn dg un (dn - 2) 2 ug)).1).2.2.2) ef eg ex eF pf pg px pF)) 0 0 A := by
  refine x_ofWv (cc := cX5_replayLog) (maxL := 3) (by decide) rfl (Nat.le_of_ble_eq_true rfl) ?_
  intro p e s m args below meth c Q hx hb hml hts hown hK hN hP hD hS hret ls hl
  have hl : lv_has ls 3 [(0, .ref (a 0))] := hl
  have hown : s.vm.findClass RX5 = some m.cls := hown
  have f14 := hts _ (List.mem_cons_of_mem _ tw_207)
  have in_X5 := (fun q hq => List.mem_cons_of_mem _ (inX5 q hq) : ∀ q ∈ wsX50, q ∈ (Cond.code yX5_replayLog cX5_replayLog 3 none :: TB))
  have f173 := hN (.fieldLinkNest RX5 173 "SegmentLog$Blocks" "size" "I" "SegmentLog") (by decide +kernel)
  have in_X0 := (fun q hq => List.mem_cons_of_mem _ (inX0 q hq) : ∀ q ∈ wsX00, q ∈ (Cond.code yX5_replayLog cX5_replayLog 3 none :: TB))
  have f21 := hts _ (List.mem_cons_of_mem _ tw_208)
  have n164 := hN (.methodLinkNest RX5 164 yX4_of "SegmentLog") (by decide +kernel)
  have ini_X4 := hts _ (List.mem_cons_of_mem _ tw_86)
  have im_yX4_of := hts _ (List.mem_cons_of_mem _ tw_500)
  have se_yX4_of := hts _ (List.mem_cons_of_mem _ tw_50)
  have n177 := hN (.methodLinkNest RX5 177 yX0_isWhole "SegmentLog") (by decide +kernel)
  have ini_X0 := hts _ (List.mem_cons_of_mem _ tw_85)
  have im_yX0_isWhole := hts _ (List.mem_cons_of_mem _ tw_447)
  have se_yX0_isWhole := hts _ (List.mem_cons_of_mem _ tw_41)
  have n167 := hN (.methodLinkNest RX5 167 yX0_value "SegmentLog") (by decide +kernel)
  have im_yX0_value := hts _ (List.mem_cons_of_mem _ tw_344)
  have se_yX0_value := hts _ (List.mem_cons_of_mem _ tw_25)
  have n225 := hN (.methodLinkNest RX5 225 yX4_mark "SegmentLog") (by decide +kernel)
  have im_yX4_mark := hts _ (List.mem_cons_of_mem _ tw_130)
  have se_yX4_mark := hts _ (List.mem_cons_of_mem _ tw_1)
  refine lv_iconst (v := nI 2) hx hb dX5_replayLog_0 (by decide) ?_
  refine lv_istore_n (lv' := [(1, .int (nI 2)), (0, .ref (a 0))]) hx hb dX5_replayLog_1 rfl hl (by decide) rfl (fun ls hl => ?_)
  have L2 : ∀ (fu2 : Nat) (b : Nat) (u' : Nat → Nat), (dn - b < fu2) → (2 ≤ b ∧ b ≤ 64) → (∀ q, u' q < 8) → (mol dn dg un (dn - b) b u' = mol dn dg un (dn - 2) 2 ug) → ∀ (H : Heap) (locs : List Loc), va_P (dC, dI) vwCl (wS a cB cI cL h1 h2 s1 s2 op nx wt sf lf dn dg un u' qn qt qg tn tk tv ts ef eg ex eF pf pg px pF) H → va_D A (wS a cB cI cL h1 h2 s1 s2 op nx wt sf lf dn dg un u' qn qt qg tn tk tv ts ef eg ex eF pf pg px pF) → va_S A s.heap H locs → ∀ (ls : Array Slot), lv_has ls 3 [(0, .ref (a 0)), (1, .int (nI b))] → W p l e { frames := 5, cells := 0, slots := 0, locals := 117 } s m args below meth c H locs 0 0 Q (F0 m 2 ls []) := by
    intro fu2
    induction fu2 with
    | zero => intro b u' hm; exact absurd hm (Nat.not_lt_zero _)
    | succ fu2 ih2 =>
      intro b u' hm i2_0 i2_1 i2_2 H locs hP hD hS ls hl
      refine lv_iload_n hx hb dX5_replayLog_2 rfl (lv_at hl 1 rfl) ?_
      refine lv_aload_n hx hb dX5_replayLog_3 rfl (lv_at hl 0 rfl) ?_
      refine va_get (D := (dC, dI)) (ci := 5) (v := .ref (a 1)) (C := RX5) (T := TX5) (N := 11) hx hb hts in_X5 hown hK hP 0 rfl rfl 0 (by decide) f14 (fun _ h9 => h9) rfl dX5_replayLog_4 ?_
      refine va_getN (D := (dC, dI)) (ci := 0) (v := .int (nI dn)) (C := RX0) (T := TX0) (N := 2) hx hb hts in_X0 hown hK hP 1 rfl rfl 1 (by decide) (va_Nw.use (A := args) rfl f173) (fun _ h9 => h9) rfl dX5_replayLog_7 ?_
      refine x_icmp_ge (tgt := 64) hx hb dX5_replayLog_10 (by decide) (by omega) (by omega) (fun c10 => ?_) (fun c10 => ?_)
      · have zm := i2_2
        rw [show dn - b = 0 by omega, mol] at zm
        subst zm
        refine lv_aload_n hx hb dX5_replayLog_64 rfl (lv_at hl 0 rfl) ?_
        refine x_calli (va_runV (As := []) (rest := []) ⟨hx, hb, hml, hown, hts⟩ (c_SL_nextLogBlock (by omega) (by omega) hdg i2_1 (by omega)) (cwV 0 hts (tbV tw_502 tw_504 tw_51 tw_84 tw_505) rfl rfl rfl (by decide +kernel) ⟨Nat.le_of_ble_eq_true rfl, Nat.le_of_ble_eq_true rfl⟩) ⟨x_blind, va_recv hK hP (ci := 5) (q0 := 0) rfl rfl, x_pre hK hP hD hN⟩ rfl rfl hl.1 rfl (lv_room (Nat.le_of_ble_eq_true rfl)) dX5_replayLog_65 ⟨Nat.zero_le _, Nat.zero_le _⟩) hS (fun H locs hP hD hS => ?_)
        have hP : va_P (dC, dI) vwCl (wS a cB cI cL h1 h2 s1 s2 op nx wt sf lf dn dg un (mol dn dg un (dn - 2) 2 ug) qn qt qg tn tk tv ts ef eg ex eF pf pg px pF) H := hP
        have hD : va_D A (wS a cB cI cL h1 h2 s1 s2 op nx wt sf lf dn dg un (mol dn dg un (dn - 2) 2 ug) qn qt qg tn tk tv ts ef eg ex eF pf pg px pF) := hD
        refine lv_istore_n (lv' := [(1, .int (oI (nlb dn dg un (mol dn dg un (dn - 2) 2 ug) nx (dn - 2) 2))), (0, .ref (a 0))]) hx hb dX5_replayLog_68 rfl hl (by decide) rfl (fun ls hl => ?_)
        refine lv_iconst (v := nI 0) hx hb dX5_replayLog_69 (by decide) ?_
        refine lv_istore_n (lv' := [(2, .int (nI 0)), (1, .int (oI (nlb dn dg un (mol dn dg un (dn - 2) 2 ug) nx (dn - 2) 2))), (0, .ref (a 0))]) hx hb dX5_replayLog_70 rfl hl (by decide) rfl (fun ls hl => ?_)
        have L71 : ∀ (fu71 : Nat) (t : Nat) (S' : RS), (dn - t < fu71) → (t ≤ dn) → (S'.2.1 + 255 * (dn - t) < 2 ^ 30) → (S'.1.1 ≤ 192) → (∀ q, S'.1.2.2.2 q < 2 ^ 31) → (∀ q, S'.2.2 q < 8) → (rpl dn dg un (dn - t) S' = rpl dn dg un dn ((tn, tk, tv, ts), nx, mol dn dg un (dn - 2) 2 ug)) → ∀ (H : Heap) (locs : List Loc), va_P (dC, dI) vwCl (wS a cB cI cL h1 h2 s1 s2 op S'.2.1 wt sf lf dn dg un S'.2.2 qn qt qg S'.1.1 S'.1.2.1 S'.1.2.2.1 S'.1.2.2.2 ef eg ex eF pf pg px pF) H → va_D A (wS a cB cI cL h1 h2 s1 s2 op S'.2.1 wt sf lf dn dg un S'.2.2 qn qt qg S'.1.1 S'.1.2.1 S'.1.2.2.1 S'.1.2.2.2 ef eg ex eF pf pg px pF) → va_S A s.heap H locs → ∀ (ls : Array Slot), lv_has ls 3 [(0, .ref (a 0)), (1, .int (oI (nlb dn dg un S'.2.2 S'.2.1 (dn - 2) 2))), (2, .int (nI t))] → W p l e { frames := 5, cells := 0, slots := 0, locals := 117 } s m args below meth c H locs 0 0 Q (F0 m 71 ls []) := by
          intro fu71
          induction fu71 with
          | zero => intro t S' hm; exact absurd hm (Nat.not_lt_zero _)
          | succ fu71 ih71 =>
            intro t S' hm i71_0 i71_1 i71_2 i71_3 i71_4 i71_5 H locs hP hD hS ls hl
            refine lv_iload_n hx hb dX5_replayLog_71 rfl (lv_at hl 2 rfl) ?_
            refine lv_aload_n hx hb dX5_replayLog_72 rfl (lv_at hl 0 rfl) ?_
            refine va_get (D := (dC, dI)) (ci := 5) (v := .ref (a 1)) (C := RX5) (T := TX5) (N := 11) hx hb hts in_X5 hown hK hP 0 rfl rfl 0 (by decide) f14 (fun _ h9 => h9) rfl dX5_replayLog_73 ?_
            refine va_getN (D := (dC, dI)) (ci := 0) (v := .int (nI dn)) (C := RX0) (T := TX0) (N := 2) hx hb hts in_X0 hown hK hP 1 rfl rfl 1 (by decide) (va_Nw.use (A := args) rfl f173) (fun _ h9 => h9) rfl dX5_replayLog_76 ?_
            refine x_icmp_ge (tgt := 104) hx hb dX5_replayLog_79 (by decide) (by omega) (by omega) (fun c79 => ?_) (fun c79 => ?_)
            · rw [show dn - t = 0 by omega, rpl] at i71_5
              refine lv_aload_n hx hb dX5_replayLog_104 rfl (lv_at hl 0 rfl) ?_
              refine x_callv (va_runV (As := []) (rest := []) ⟨hx, hb, hml, hown, hts⟩ (c_SL_wipeOldLog (by omega) (by omega) hdg i71_4) (cwV 0 hts (tbV tw_510 tw_512 tw_53 tw_84 tw_513) rfl rfl rfl (by decide +kernel) ⟨Nat.le_of_ble_eq_true rfl, Nat.le_of_ble_eq_true rfl⟩) ⟨x_blind, va_recv hK hP (ci := 5) (q0 := 0) rfl rfl, x_pre hK hP hD hN⟩ rfl rfl hl.1 rfl (lv_room (Nat.le_of_ble_eq_true rfl)) dX5_replayLog_105 ⟨Nat.zero_le _, Nat.zero_le _⟩) hS (fun H locs hP hD hS => ?_)
              have hP : va_P (dC, dI) vwCl (wS a cB cI cL h1 h2 s1 s2 op S'.2.1 wt sf lf dn (wol dn un S'.2.2 (dn - 2) 2 dg) un (utn 4 0 un S'.2.2 0) qn qt qg S'.1.1 S'.1.2.1 S'.1.2.2.1 S'.1.2.2.2 ef eg ex eF pf pg px pF) H := hP
              have hD : va_D A (wS a cB cI cL h1 h2 s1 s2 op S'.2.1 wt sf lf dn (wol dn un S'.2.2 (dn - 2) 2 dg) un (utn 4 0 un S'.2.2 0) qn qt qg S'.1.1 S'.1.2.1 S'.1.2.2.1 S'.1.2.2.2 ef eg ex eF pf pg px pF) := hD
              have e1 : S'.2.1 = ((rpl dn dg un dn ((tn, tk, tv, ts), nx, mol dn dg un (dn - 2) 2 ug)).2.1) := by rw [i71_5]
              have h9 : wS a cB cI cL h1 h2 s1 s2 op S'.2.1 wt sf lf dn (wol dn un S'.2.2 (dn - 2) 2 dg) un (utn 4 0 un S'.2.2 0) qn qt qg S'.1.1 S'.1.2.1 S'.1.2.2.1 S'.1.2.2.2 ef eg ex eF pf pg px pF = wS a cB cI cL h1 h2 s1 s2 op ((rpl dn dg un dn ((tn, tk, tv, ts), nx, mol dn dg un (dn - 2) 2 ug)).2.1) wt sf lf dn (wol dn un S'.2.2 (dn - 2) 2 dg) un (utn 4 0 un S'.2.2 0) qn qt qg S'.1.1 S'.1.2.1 S'.1.2.2.1 S'.1.2.2.2 ef eg ex eF pf pg px pF := by rw [← e1]
              have hP := x_wP h9 hP
              have hD := x_wD h9 hD
              have e2 : (wol dn un S'.2.2 (dn - 2) 2 dg) = (wol dn un (rpl dn dg un dn ((tn, tk, tv, ts), nx, mol dn dg un (dn - 2) 2 ug)).2.2 (dn - 2) 2 dg) := by rw [i71_5]
              have h9 : wS a cB cI cL h1 h2 s1 s2 op ((rpl dn dg un dn ((tn, tk, tv, ts), nx, mol dn dg un (dn - 2) 2 ug)).2.1) wt sf lf dn (wol dn un S'.2.2 (dn - 2) 2 dg) un (utn 4 0 un S'.2.2 0) qn qt qg S'.1.1 S'.1.2.1 S'.1.2.2.1 S'.1.2.2.2 ef eg ex eF pf pg px pF = wS a cB cI cL h1 h2 s1 s2 op ((rpl dn dg un dn ((tn, tk, tv, ts), nx, mol dn dg un (dn - 2) 2 ug)).2.1) wt sf lf dn (wol dn un (rpl dn dg un dn ((tn, tk, tv, ts), nx, mol dn dg un (dn - 2) 2 ug)).2.2 (dn - 2) 2 dg) un (utn 4 0 un S'.2.2 0) qn qt qg S'.1.1 S'.1.2.1 S'.1.2.2.1 S'.1.2.2.2 ef eg ex eF pf pg px pF := by rw [← e2]
              have hP := x_wP h9 hP
              have hD := x_wD h9 hD
              have e3 : (utn 4 0 un S'.2.2 0) = (utn 4 0 un (rpl dn dg un dn ((tn, tk, tv, ts), nx, mol dn dg un (dn - 2) 2 ug)).2.2 0) := by rw [i71_5]
              have h9 : wS a cB cI cL h1 h2 s1 s2 op ((rpl dn dg un dn ((tn, tk, tv, ts), nx, mol dn dg un (dn - 2) 2 ug)).2.1) wt sf lf dn (wol dn un (rpl dn dg un dn ((tn, tk, tv, ts), nx, mol dn dg un (dn - 2) 2 ug)).2.2 (dn - 2) 2 dg) un (utn 4 0 un S'.2.2 0) qn qt qg S'.1.1 S'.1.2.1 S'.1.2.2.1 S'.1.2.2.2 ef eg ex eF pf pg px pF = wS a cB cI cL h1 h2 s1 s2 op ((rpl dn dg un dn ((tn, tk, tv, ts), nx, mol dn dg un (dn - 2) 2 ug)).2.1) wt sf lf dn (wol dn un (rpl dn dg un dn ((tn, tk, tv, ts), nx, mol dn dg un (dn - 2) 2 ug)).2.2 (dn - 2) 2 dg) un (utn 4 0 un (rpl dn dg un dn ((tn, tk, tv, ts), nx, mol dn dg un (dn - 2) 2 ug)).2.2 0) qn qt qg S'.1.1 S'.1.2.1 S'.1.2.2.1 S'.1.2.2.2 ef eg ex eF pf pg px pF := by rw [← e3]
              have hP := x_wP h9 hP
              have hD := x_wD h9 hD
              have e4 : S'.1.1 = (((rpl dn dg un dn ((tn, tk, tv, ts), nx, mol dn dg un (dn - 2) 2 ug)).1).1) := by rw [i71_5]
              have h9 : wS a cB cI cL h1 h2 s1 s2 op ((rpl dn dg un dn ((tn, tk, tv, ts), nx, mol dn dg un (dn - 2) 2 ug)).2.1) wt sf lf dn (wol dn un (rpl dn dg un dn ((tn, tk, tv, ts), nx, mol dn dg un (dn - 2) 2 ug)).2.2 (dn - 2) 2 dg) un (utn 4 0 un (rpl dn dg un dn ((tn, tk, tv, ts), nx, mol dn dg un (dn - 2) 2 ug)).2.2 0) qn qt qg S'.1.1 S'.1.2.1 S'.1.2.2.1 S'.1.2.2.2 ef eg ex eF pf pg px pF = wS a cB cI cL h1 h2 s1 s2 op ((rpl dn dg un dn ((tn, tk, tv, ts), nx, mol dn dg un (dn - 2) 2 ug)).2.1) wt sf lf dn (wol dn un (rpl dn dg un dn ((tn, tk, tv, ts), nx, mol dn dg un (dn - 2) 2 ug)).2.2 (dn - 2) 2 dg) un (utn 4 0 un (rpl dn dg un dn ((tn, tk, tv, ts), nx, mol dn dg un (dn - 2) 2 ug)).2.2 0) qn qt qg (((rpl dn dg un dn ((tn, tk, tv, ts), nx, mol dn dg un (dn - 2) 2 ug)).1).1) S'.1.2.1 S'.1.2.2.1 S'.1.2.2.2 ef eg ex eF pf pg px pF := by rw [← e4]
              have hP := x_wP h9 hP
              have hD := x_wD h9 hD
              have e5 : S'.1.2.1 = (((rpl dn dg un dn ((tn, tk, tv, ts), nx, mol dn dg un (dn - 2) 2 ug)).1).2.1) := by rw [i71_5]
              have h9 : wS a cB cI cL h1 h2 s1 s2 op ((rpl dn dg un dn ((tn, tk, tv, ts), nx, mol dn dg un (dn - 2) 2 ug)).2.1) wt sf lf dn (wol dn un (rpl dn dg un dn ((tn, tk, tv, ts), nx, mol dn dg un (dn - 2) 2 ug)).2.2 (dn - 2) 2 dg) un (utn 4 0 un (rpl dn dg un dn ((tn, tk, tv, ts), nx, mol dn dg un (dn - 2) 2 ug)).2.2 0) qn qt qg (((rpl dn dg un dn ((tn, tk, tv, ts), nx, mol dn dg un (dn - 2) 2 ug)).1).1) S'.1.2.1 S'.1.2.2.1 S'.1.2.2.2 ef eg ex eF pf pg px pF = wS a cB cI cL h1 h2 s1 s2 op ((rpl dn dg un dn ((tn, tk, tv, ts), nx, mol dn dg un (dn - 2) 2 ug)).2.1) wt sf lf dn (wol dn un (rpl dn dg un dn ((tn, tk, tv, ts), nx, mol dn dg un (dn - 2) 2 ug)).2.2 (dn - 2) 2 dg) un (utn 4 0 un (rpl dn dg un dn ((tn, tk, tv, ts), nx, mol dn dg un (dn - 2) 2 ug)).2.2 0) qn qt qg (((rpl dn dg un dn ((tn, tk, tv, ts), nx, mol dn dg un (dn - 2) 2 ug)).1).1) (((rpl dn dg un dn ((tn, tk, tv, ts), nx, mol dn dg un (dn - 2) 2 ug)).1).2.1) S'.1.2.2.1 S'.1.2.2.2 ef eg ex eF pf pg px pF := by rw [← e5]
              have hP := x_wP h9 hP
              have hD := x_wD h9 hD
              have e6 : S'.1.2.2.1 = (((rpl dn dg un dn ((tn, tk, tv, ts), nx, mol dn dg un (dn - 2) 2 ug)).1).2.2.1) := by rw [i71_5]
              have h9 : wS a cB cI cL h1 h2 s1 s2 op ((rpl dn dg un dn ((tn, tk, tv, ts), nx, mol dn dg un (dn - 2) 2 ug)).2.1) wt sf lf dn (wol dn un (rpl dn dg un dn ((tn, tk, tv, ts), nx, mol dn dg un (dn - 2) 2 ug)).2.2 (dn - 2) 2 dg) un (utn 4 0 un (rpl dn dg un dn ((tn, tk, tv, ts), nx, mol dn dg un (dn - 2) 2 ug)).2.2 0) qn qt qg (((rpl dn dg un dn ((tn, tk, tv, ts), nx, mol dn dg un (dn - 2) 2 ug)).1).1) (((rpl dn dg un dn ((tn, tk, tv, ts), nx, mol dn dg un (dn - 2) 2 ug)).1).2.1) S'.1.2.2.1 S'.1.2.2.2 ef eg ex eF pf pg px pF = wS a cB cI cL h1 h2 s1 s2 op ((rpl dn dg un dn ((tn, tk, tv, ts), nx, mol dn dg un (dn - 2) 2 ug)).2.1) wt sf lf dn (wol dn un (rpl dn dg un dn ((tn, tk, tv, ts), nx, mol dn dg un (dn - 2) 2 ug)).2.2 (dn - 2) 2 dg) un (utn 4 0 un (rpl dn dg un dn ((tn, tk, tv, ts), nx, mol dn dg un (dn - 2) 2 ug)).2.2 0) qn qt qg (((rpl dn dg un dn ((tn, tk, tv, ts), nx, mol dn dg un (dn - 2) 2 ug)).1).1) (((rpl dn dg un dn ((tn, tk, tv, ts), nx, mol dn dg un (dn - 2) 2 ug)).1).2.1) (((rpl dn dg un dn ((tn, tk, tv, ts), nx, mol dn dg un (dn - 2) 2 ug)).1).2.2.1) S'.1.2.2.2 ef eg ex eF pf pg px pF := by rw [← e6]
              have hP := x_wP h9 hP
              have hD := x_wD h9 hD
              have e7 : S'.1.2.2.2 = (((rpl dn dg un dn ((tn, tk, tv, ts), nx, mol dn dg un (dn - 2) 2 ug)).1).2.2.2) := by rw [i71_5]
              have h9 : wS a cB cI cL h1 h2 s1 s2 op ((rpl dn dg un dn ((tn, tk, tv, ts), nx, mol dn dg un (dn - 2) 2 ug)).2.1) wt sf lf dn (wol dn un (rpl dn dg un dn ((tn, tk, tv, ts), nx, mol dn dg un (dn - 2) 2 ug)).2.2 (dn - 2) 2 dg) un (utn 4 0 un (rpl dn dg un dn ((tn, tk, tv, ts), nx, mol dn dg un (dn - 2) 2 ug)).2.2 0) qn qt qg (((rpl dn dg un dn ((tn, tk, tv, ts), nx, mol dn dg un (dn - 2) 2 ug)).1).1) (((rpl dn dg un dn ((tn, tk, tv, ts), nx, mol dn dg un (dn - 2) 2 ug)).1).2.1) (((rpl dn dg un dn ((tn, tk, tv, ts), nx, mol dn dg un (dn - 2) 2 ug)).1).2.2.1) S'.1.2.2.2 ef eg ex eF pf pg px pF = wS a cB cI cL h1 h2 s1 s2 op ((rpl dn dg un dn ((tn, tk, tv, ts), nx, mol dn dg un (dn - 2) 2 ug)).2.1) wt sf lf dn (wol dn un (rpl dn dg un dn ((tn, tk, tv, ts), nx, mol dn dg un (dn - 2) 2 ug)).2.2 (dn - 2) 2 dg) un (utn 4 0 un (rpl dn dg un dn ((tn, tk, tv, ts), nx, mol dn dg un (dn - 2) 2 ug)).2.2 0) qn qt qg (((rpl dn dg un dn ((tn, tk, tv, ts), nx, mol dn dg un (dn - 2) 2 ug)).1).1) (((rpl dn dg un dn ((tn, tk, tv, ts), nx, mol dn dg un (dn - 2) 2 ug)).1).2.1) (((rpl dn dg un dn ((tn, tk, tv, ts), nx, mol dn dg un (dn - 2) 2 ug)).1).2.2.1) (((rpl dn dg un dn ((tn, tk, tv, ts), nx, mol dn dg un (dn - 2) 2 ug)).1).2.2.2) ef eg ex eF pf pg px pF := by rw [← e7]
              have hP := x_wP h9 hP
              have hD := x_wD h9 hD
              exact hret dX5_replayLog_108 hP hD hS
            · refine lv_iload_n hx hb dX5_replayLog_82 rfl (lv_at hl 1 rfl) ?_
              refine lv_bipush (v := (-2)) hx hb dX5_replayLog_83 (by decide) ?_
              refine lv_icmp_eq (tgt := 104) hx hb dX5_replayLog_85 (by decide) (fun c85 => ?_) (fun c85 => ?_)
              · have hob := oI_none c85 (fun b h => by have := nlb_lt h; omega)
                have zz : rpl dn dg un (dn - t) S' = S' := by
                  rw [show dn - t = (dn - (t + 1)) + 1 by omega, rpl, hob]
                rw [zz] at i71_5
                refine lv_aload_n hx hb dX5_replayLog_104 rfl (lv_at hl 0 rfl) ?_
                refine x_callv (va_runV (As := []) (rest := []) ⟨hx, hb, hml, hown, hts⟩ (c_SL_wipeOldLog (by omega) (by omega) hdg i71_4) (cwV 0 hts (tbV tw_510 tw_512 tw_53 tw_84 tw_513) rfl rfl rfl (by decide +kernel) ⟨Nat.le_of_ble_eq_true rfl, Nat.le_of_ble_eq_true rfl⟩) ⟨x_blind, va_recv hK hP (ci := 5) (q0 := 0) rfl rfl, x_pre hK hP hD hN⟩ rfl rfl hl.1 rfl (lv_room (Nat.le_of_ble_eq_true rfl)) dX5_replayLog_105 ⟨Nat.zero_le _, Nat.zero_le _⟩) hS (fun H locs hP hD hS => ?_)
                have hP : va_P (dC, dI) vwCl (wS a cB cI cL h1 h2 s1 s2 op S'.2.1 wt sf lf dn (wol dn un S'.2.2 (dn - 2) 2 dg) un (utn 4 0 un S'.2.2 0) qn qt qg S'.1.1 S'.1.2.1 S'.1.2.2.1 S'.1.2.2.2 ef eg ex eF pf pg px pF) H := hP
                have hD : va_D A (wS a cB cI cL h1 h2 s1 s2 op S'.2.1 wt sf lf dn (wol dn un S'.2.2 (dn - 2) 2 dg) un (utn 4 0 un S'.2.2 0) qn qt qg S'.1.1 S'.1.2.1 S'.1.2.2.1 S'.1.2.2.2 ef eg ex eF pf pg px pF) := hD
                have e8 : S'.2.1 = ((rpl dn dg un dn ((tn, tk, tv, ts), nx, mol dn dg un (dn - 2) 2 ug)).2.1) := by rw [i71_5]
                have h9 : wS a cB cI cL h1 h2 s1 s2 op S'.2.1 wt sf lf dn (wol dn un S'.2.2 (dn - 2) 2 dg) un (utn 4 0 un S'.2.2 0) qn qt qg S'.1.1 S'.1.2.1 S'.1.2.2.1 S'.1.2.2.2 ef eg ex eF pf pg px pF = wS a cB cI cL h1 h2 s1 s2 op ((rpl dn dg un dn ((tn, tk, tv, ts), nx, mol dn dg un (dn - 2) 2 ug)).2.1) wt sf lf dn (wol dn un S'.2.2 (dn - 2) 2 dg) un (utn 4 0 un S'.2.2 0) qn qt qg S'.1.1 S'.1.2.1 S'.1.2.2.1 S'.1.2.2.2 ef eg ex eF pf pg px pF := by rw [← e8]
                have hP := x_wP h9 hP
                have hD := x_wD h9 hD
                have e9 : (wol dn un S'.2.2 (dn - 2) 2 dg) = (wol dn un (rpl dn dg un dn ((tn, tk, tv, ts), nx, mol dn dg un (dn - 2) 2 ug)).2.2 (dn - 2) 2 dg) := by rw [i71_5]
                have h9 : wS a cB cI cL h1 h2 s1 s2 op ((rpl dn dg un dn ((tn, tk, tv, ts), nx, mol dn dg un (dn - 2) 2 ug)).2.1) wt sf lf dn (wol dn un S'.2.2 (dn - 2) 2 dg) un (utn 4 0 un S'.2.2 0) qn qt qg S'.1.1 S'.1.2.1 S'.1.2.2.1 S'.1.2.2.2 ef eg ex eF pf pg px pF = wS a cB cI cL h1 h2 s1 s2 op ((rpl dn dg un dn ((tn, tk, tv, ts), nx, mol dn dg un (dn - 2) 2 ug)).2.1) wt sf lf dn (wol dn un (rpl dn dg un dn ((tn, tk, tv, ts), nx, mol dn dg un (dn - 2) 2 ug)).2.2 (dn - 2) 2 dg) un (utn 4 0 un S'.2.2 0) qn qt qg S'.1.1 S'.1.2.1 S'.1.2.2.1 S'.1.2.2.2 ef eg ex eF pf pg px pF := by rw [← e9]
                have hP := x_wP h9 hP
                have hD := x_wD h9 hD
                have e10 : (utn 4 0 un S'.2.2 0) = (utn 4 0 un (rpl dn dg un dn ((tn, tk, tv, ts), nx, mol dn dg un (dn - 2) 2 ug)).2.2 0) := by rw [i71_5]
                have h9 : wS a cB cI cL h1 h2 s1 s2 op ((rpl dn dg un dn ((tn, tk, tv, ts), nx, mol dn dg un (dn - 2) 2 ug)).2.1) wt sf lf dn (wol dn un (rpl dn dg un dn ((tn, tk, tv, ts), nx, mol dn dg un (dn - 2) 2 ug)).2.2 (dn - 2) 2 dg) un (utn 4 0 un S'.2.2 0) qn qt qg S'.1.1 S'.1.2.1 S'.1.2.2.1 S'.1.2.2.2 ef eg ex eF pf pg px pF = wS a cB cI cL h1 h2 s1 s2 op ((rpl dn dg un dn ((tn, tk, tv, ts), nx, mol dn dg un (dn - 2) 2 ug)).2.1) wt sf lf dn (wol dn un (rpl dn dg un dn ((tn, tk, tv, ts), nx, mol dn dg un (dn - 2) 2 ug)).2.2 (dn - 2) 2 dg) un (utn 4 0 un (rpl dn dg un dn ((tn, tk, tv, ts), nx, mol dn dg un (dn - 2) 2 ug)).2.2 0) qn qt qg S'.1.1 S'.1.2.1 S'.1.2.2.1 S'.1.2.2.2 ef eg ex eF pf pg px pF := by rw [← e10]
                have hP := x_wP h9 hP
                have hD := x_wD h9 hD
                have e11 : S'.1.1 = (((rpl dn dg un dn ((tn, tk, tv, ts), nx, mol dn dg un (dn - 2) 2 ug)).1).1) := by rw [i71_5]
                have h9 : wS a cB cI cL h1 h2 s1 s2 op ((rpl dn dg un dn ((tn, tk, tv, ts), nx, mol dn dg un (dn - 2) 2 ug)).2.1) wt sf lf dn (wol dn un (rpl dn dg un dn ((tn, tk, tv, ts), nx, mol dn dg un (dn - 2) 2 ug)).2.2 (dn - 2) 2 dg) un (utn 4 0 un (rpl dn dg un dn ((tn, tk, tv, ts), nx, mol dn dg un (dn - 2) 2 ug)).2.2 0) qn qt qg S'.1.1 S'.1.2.1 S'.1.2.2.1 S'.1.2.2.2 ef eg ex eF pf pg px pF = wS a cB cI cL h1 h2 s1 s2 op ((rpl dn dg un dn ((tn, tk, tv, ts), nx, mol dn dg un (dn - 2) 2 ug)).2.1) wt sf lf dn (wol dn un (rpl dn dg un dn ((tn, tk, tv, ts), nx, mol dn dg un (dn - 2) 2 ug)).2.2 (dn - 2) 2 dg) un (utn 4 0 un (rpl dn dg un dn ((tn, tk, tv, ts), nx, mol dn dg un (dn - 2) 2 ug)).2.2 0) qn qt qg (((rpl dn dg un dn ((tn, tk, tv, ts), nx, mol dn dg un (dn - 2) 2 ug)).1).1) S'.1.2.1 S'.1.2.2.1 S'.1.2.2.2 ef eg ex eF pf pg px pF := by rw [← e11]
                have hP := x_wP h9 hP
                have hD := x_wD h9 hD
                have e12 : S'.1.2.1 = (((rpl dn dg un dn ((tn, tk, tv, ts), nx, mol dn dg un (dn - 2) 2 ug)).1).2.1) := by rw [i71_5]
                have h9 : wS a cB cI cL h1 h2 s1 s2 op ((rpl dn dg un dn ((tn, tk, tv, ts), nx, mol dn dg un (dn - 2) 2 ug)).2.1) wt sf lf dn (wol dn un (rpl dn dg un dn ((tn, tk, tv, ts), nx, mol dn dg un (dn - 2) 2 ug)).2.2 (dn - 2) 2 dg) un (utn 4 0 un (rpl dn dg un dn ((tn, tk, tv, ts), nx, mol dn dg un (dn - 2) 2 ug)).2.2 0) qn qt qg (((rpl dn dg un dn ((tn, tk, tv, ts), nx, mol dn dg un (dn - 2) 2 ug)).1).1) S'.1.2.1 S'.1.2.2.1 S'.1.2.2.2 ef eg ex eF pf pg px pF = wS a cB cI cL h1 h2 s1 s2 op ((rpl dn dg un dn ((tn, tk, tv, ts), nx, mol dn dg un (dn - 2) 2 ug)).2.1) wt sf lf dn (wol dn un (rpl dn dg un dn ((tn, tk, tv, ts), nx, mol dn dg un (dn - 2) 2 ug)).2.2 (dn - 2) 2 dg) un (utn 4 0 un (rpl dn dg un dn ((tn, tk, tv, ts), nx, mol dn dg un (dn - 2) 2 ug)).2.2 0) qn qt qg (((rpl dn dg un dn ((tn, tk, tv, ts), nx, mol dn dg un (dn - 2) 2 ug)).1).1) (((rpl dn dg un dn ((tn, tk, tv, ts), nx, mol dn dg un (dn - 2) 2 ug)).1).2.1) S'.1.2.2.1 S'.1.2.2.2 ef eg ex eF pf pg px pF := by rw [← e12]
                have hP := x_wP h9 hP
                have hD := x_wD h9 hD
                have e13 : S'.1.2.2.1 = (((rpl dn dg un dn ((tn, tk, tv, ts), nx, mol dn dg un (dn - 2) 2 ug)).1).2.2.1) := by rw [i71_5]
                have h9 : wS a cB cI cL h1 h2 s1 s2 op ((rpl dn dg un dn ((tn, tk, tv, ts), nx, mol dn dg un (dn - 2) 2 ug)).2.1) wt sf lf dn (wol dn un (rpl dn dg un dn ((tn, tk, tv, ts), nx, mol dn dg un (dn - 2) 2 ug)).2.2 (dn - 2) 2 dg) un (utn 4 0 un (rpl dn dg un dn ((tn, tk, tv, ts), nx, mol dn dg un (dn - 2) 2 ug)).2.2 0) qn qt qg (((rpl dn dg un dn ((tn, tk, tv, ts), nx, mol dn dg un (dn - 2) 2 ug)).1).1) (((rpl dn dg un dn ((tn, tk, tv, ts), nx, mol dn dg un (dn - 2) 2 ug)).1).2.1) S'.1.2.2.1 S'.1.2.2.2 ef eg ex eF pf pg px pF = wS a cB cI cL h1 h2 s1 s2 op ((rpl dn dg un dn ((tn, tk, tv, ts), nx, mol dn dg un (dn - 2) 2 ug)).2.1) wt sf lf dn (wol dn un (rpl dn dg un dn ((tn, tk, tv, ts), nx, mol dn dg un (dn - 2) 2 ug)).2.2 (dn - 2) 2 dg) un (utn 4 0 un (rpl dn dg un dn ((tn, tk, tv, ts), nx, mol dn dg un (dn - 2) 2 ug)).2.2 0) qn qt qg (((rpl dn dg un dn ((tn, tk, tv, ts), nx, mol dn dg un (dn - 2) 2 ug)).1).1) (((rpl dn dg un dn ((tn, tk, tv, ts), nx, mol dn dg un (dn - 2) 2 ug)).1).2.1) (((rpl dn dg un dn ((tn, tk, tv, ts), nx, mol dn dg un (dn - 2) 2 ug)).1).2.2.1) S'.1.2.2.2 ef eg ex eF pf pg px pF := by rw [← e13]
                have hP := x_wP h9 hP
                have hD := x_wD h9 hD
                have e14 : S'.1.2.2.2 = (((rpl dn dg un dn ((tn, tk, tv, ts), nx, mol dn dg un (dn - 2) 2 ug)).1).2.2.2) := by rw [i71_5]
                have h9 : wS a cB cI cL h1 h2 s1 s2 op ((rpl dn dg un dn ((tn, tk, tv, ts), nx, mol dn dg un (dn - 2) 2 ug)).2.1) wt sf lf dn (wol dn un (rpl dn dg un dn ((tn, tk, tv, ts), nx, mol dn dg un (dn - 2) 2 ug)).2.2 (dn - 2) 2 dg) un (utn 4 0 un (rpl dn dg un dn ((tn, tk, tv, ts), nx, mol dn dg un (dn - 2) 2 ug)).2.2 0) qn qt qg (((rpl dn dg un dn ((tn, tk, tv, ts), nx, mol dn dg un (dn - 2) 2 ug)).1).1) (((rpl dn dg un dn ((tn, tk, tv, ts), nx, mol dn dg un (dn - 2) 2 ug)).1).2.1) (((rpl dn dg un dn ((tn, tk, tv, ts), nx, mol dn dg un (dn - 2) 2 ug)).1).2.2.1) S'.1.2.2.2 ef eg ex eF pf pg px pF = wS a cB cI cL h1 h2 s1 s2 op ((rpl dn dg un dn ((tn, tk, tv, ts), nx, mol dn dg un (dn - 2) 2 ug)).2.1) wt sf lf dn (wol dn un (rpl dn dg un dn ((tn, tk, tv, ts), nx, mol dn dg un (dn - 2) 2 ug)).2.2 (dn - 2) 2 dg) un (utn 4 0 un (rpl dn dg un dn ((tn, tk, tv, ts), nx, mol dn dg un (dn - 2) 2 ug)).2.2 0) qn qt qg (((rpl dn dg un dn ((tn, tk, tv, ts), nx, mol dn dg un (dn - 2) 2 ug)).1).1) (((rpl dn dg un dn ((tn, tk, tv, ts), nx, mol dn dg un (dn - 2) 2 ug)).1).2.1) (((rpl dn dg un dn ((tn, tk, tv, ts), nx, mol dn dg un (dn - 2) 2 ug)).1).2.2.1) (((rpl dn dg un dn ((tn, tk, tv, ts), nx, mol dn dg un (dn - 2) 2 ug)).1).2.2.2) ef eg ex eF pf pg px pF := by rw [← e14]
                have hP := x_wP h9 hP
                have hD := x_wD h9 hD
                exact hret dX5_replayLog_108 hP hD hS
              · obtain ⟨b, hob⟩ := oI_some c85
                rw [hob] at hl
                have hbb := nlb_lt hob
                have w1 := bv_lt (n := dn) (b := b) (i := 1) hdg
                have hl : lv_has ls 3 [(0, .ref (a 0)), (1, .int (nI b)), (2, .int (nI t))] := hl
                refine lv_aload_n hx hb dX5_replayLog_88 rfl (lv_at hl 0 rfl) ?_
                refine lv_iload_n hx hb dX5_replayLog_89 rfl (lv_at hl 1 rfl) ?_
                refine x_callv (va_runV (As := [.int (nI b)]) (rest := []) ⟨hx, hb, hml, hown, hts⟩ (c_SL_readLogBlock (by omega) (by omega) (by omega) hdg i71_4 i71_3 (by omega) b (by omega)) (cwV 1 hts (tbV tw_506 tw_508 tw_52 tw_84 tw_509) rfl rfl rfl (by decide +kernel) ⟨Nat.le_of_ble_eq_true rfl, Nat.le_of_ble_eq_true rfl⟩) ⟨x_blind, va_recv hK hP (ci := 5) (q0 := 0) rfl rfl, x_pre hK hP hD hN⟩ rfl rfl hl.1 rfl (lv_room (Nat.le_of_ble_eq_true rfl)) dX5_replayLog_90 ⟨Nat.zero_le _, Nat.zero_le _⟩) hS (fun H locs hP hD hS => ?_)
                have hP : va_P (dC, dI) vwCl (wS a cB cI cL h1 h2 s1 s2 op (S'.2.1 + bv dn dg b 1) wt sf lf dn dg un (umk un b 1 1 S'.2.2 0) qn qt qg ((rlI dn dg b S'.2.1 (bv dn dg b 1) 0 S'.1).1) ((rlI dn dg b S'.2.1 (bv dn dg b 1) 0 S'.1).2.1) ((rlI dn dg b S'.2.1 (bv dn dg b 1) 0 S'.1).2.2.1) ((rlI dn dg b S'.2.1 (bv dn dg b 1) 0 S'.1).2.2.2) ef eg ex eF pf pg px pF) H := hP
                have hD : va_D A (wS a cB cI cL h1 h2 s1 s2 op (S'.2.1 + bv dn dg b 1) wt sf lf dn dg un (umk un b 1 1 S'.2.2 0) qn qt qg ((rlI dn dg b S'.2.1 (bv dn dg b 1) 0 S'.1).1) ((rlI dn dg b S'.2.1 (bv dn dg b 1) 0 S'.1).2.1) ((rlI dn dg b S'.2.1 (bv dn dg b 1) 0 S'.1).2.2.1) ((rlI dn dg b S'.2.1 (bv dn dg b 1) 0 S'.1).2.2.2) ef eg ex eF pf pg px pF) := hD
                refine lv_aload_n hx hb dX5_replayLog_93 rfl (lv_at hl 0 rfl) ?_
                refine x_calli (va_runV (As := []) (rest := []) ⟨hx, hb, hml, hown, hts⟩ (c_SL_nextLogBlock (by omega) (by omega) hdg (umk_lt i71_4 (by decide)) (by omega)) (cwV 0 hts (tbV tw_502 tw_504 tw_51 tw_84 tw_505) rfl rfl rfl (by decide +kernel) ⟨Nat.le_of_ble_eq_true rfl, Nat.le_of_ble_eq_true rfl⟩) ⟨x_blind, va_recv hK hP (ci := 5) (q0 := 0) rfl rfl, x_pre hK hP hD hN⟩ rfl rfl hl.1 rfl (lv_room (Nat.le_of_ble_eq_true rfl)) dX5_replayLog_94 ⟨Nat.zero_le _, Nat.zero_le _⟩) hS (fun H locs hP hD hS => ?_)
                have hP : va_P (dC, dI) vwCl (wS a cB cI cL h1 h2 s1 s2 op (S'.2.1 + bv dn dg b 1) wt sf lf dn dg un (umk un b 1 1 S'.2.2 0) qn qt qg ((rlI dn dg b S'.2.1 (bv dn dg b 1) 0 S'.1).1) ((rlI dn dg b S'.2.1 (bv dn dg b 1) 0 S'.1).2.1) ((rlI dn dg b S'.2.1 (bv dn dg b 1) 0 S'.1).2.2.1) ((rlI dn dg b S'.2.1 (bv dn dg b 1) 0 S'.1).2.2.2) ef eg ex eF pf pg px pF) H := hP
                have hD : va_D A (wS a cB cI cL h1 h2 s1 s2 op (S'.2.1 + bv dn dg b 1) wt sf lf dn dg un (umk un b 1 1 S'.2.2 0) qn qt qg ((rlI dn dg b S'.2.1 (bv dn dg b 1) 0 S'.1).1) ((rlI dn dg b S'.2.1 (bv dn dg b 1) 0 S'.1).2.1) ((rlI dn dg b S'.2.1 (bv dn dg b 1) 0 S'.1).2.2.1) ((rlI dn dg b S'.2.1 (bv dn dg b 1) 0 S'.1).2.2.2) ef eg ex eF pf pg px pF) := hD
                refine lv_istore_n (lv' := [(1, .int (oI (nlb dn dg un (umk un b 1 1 S'.2.2 0) (S'.2.1 + bv dn dg b 1) (dn - 2) 2))), (0, .ref (a 0)), (2, .int (nI t))]) hx hb dX5_replayLog_97 rfl hl (by decide) rfl (fun ls hl => ?_)
                refine lv_iinc (v := nI (t + 1)) (lv' := [(2, .int (nI (t + 1))), (1, .int (oI (nlb dn dg un (umk un b 1 1 S'.2.2 0) (S'.2.1 + bv dn dg b 1) (dn - 2) 2))), (0, .ref (a 0))]) hx hb dX5_replayLog_98 hl (k := 2) rfl (x_inc _) (by decide) rfl (fun ls hl => ?_)
                refine lv_goto (tgt := 71) hx hb dX5_replayLog_101 (by decide) ?_
                have e15 : (oI (nlb dn dg un (umk un b 1 1 S'.2.2 0) (S'.2.1 + bv dn dg b 1) (dn - 2) 2)) = (oI (nlb dn dg un (rlS dn dg un b S').2.2 (rlS dn dg un b S').2.1 (dn - 2) 2)) := by rfl
                have e16 : (S'.2.1 + bv dn dg b 1) = ((rlS dn dg un b S').2.1) := by rfl
                have e17 : (umk un b 1 1 S'.2.2 0) = ((rlS dn dg un b S').2.2) := by rfl
                have e18 : ((rlI dn dg b S'.2.1 (bv dn dg b 1) 0 S'.1).1) = ((rlS dn dg un b S').1.1) := by rfl
                have e19 : ((rlI dn dg b S'.2.1 (bv dn dg b 1) 0 S'.1).2.1) = ((rlS dn dg un b S').1.2.1) := by rfl
                have e20 : ((rlI dn dg b S'.2.1 (bv dn dg b 1) 0 S'.1).2.2.1) = ((rlS dn dg un b S').1.2.2.1) := by rfl
                have e21 : ((rlI dn dg b S'.2.1 (bv dn dg b 1) 0 S'.1).2.2.2) = ((rlS dn dg un b S').1.2.2.2) := by rfl
                exact ih71 (t + 1) (rlS dn dg un b S') (by omega) (by omega) (by show S'.2.1 + bv dn dg b 1 + 255 * (dn - (t + 1)) < 2 ^ 30; omega) (by exact rlI_le i71_2) (by exact rlI_lt (by omega) i71_3 (by omega)) (by exact umk_lt i71_4 (by decide)) (by have h := i71_5; rw [show dn - t = (dn - (t + 1)) + 1 by omega, rpl, hob] at h; exact h) _ _ (x_wP (by rw [← e16, ← e17, e18, e19, e20, e21]) hP) (x_wD (by rw [← e16, ← e17, e18, e19, e20, e21]) hD) hS ls (x_lvc (l1 := [(0, .ref (a 0)), (1, .int (oI (nlb dn dg un (umk un b 1 1 S'.2.2 0) (S'.2.1 + bv dn dg b 1) (dn - 2) 2))), (2, .int (nI (t + 1)))]) (by rw [e15]) (lv_sub hl [2, 1, 0] rfl))
        have e22 : (oI (nlb dn dg un (mol dn dg un (dn - 2) 2 ug) nx (dn - 2) 2)) = (oI (nlb dn dg un ((tn, tk, tv, ts), nx, mol dn dg un (dn - 2) 2 ug).2.2 ((tn, tk, tv, ts), nx, mol dn dg un (dn - 2) 2 ug).2.1 (dn - 2) 2)) := by rfl
        have e23 : nx = (((tn, tk, tv, ts), nx, mol dn dg un (dn - 2) 2 ug).2.1) := by rfl
        have e24 : (mol dn dg un (dn - 2) 2 ug) = (((tn, tk, tv, ts), nx, mol dn dg un (dn - 2) 2 ug).2.2) := by rfl
        have e25 : tn = (((tn, tk, tv, ts), nx, mol dn dg un (dn - 2) 2 ug).1.1) := by rfl
        have e26 : tk = (((tn, tk, tv, ts), nx, mol dn dg un (dn - 2) 2 ug).1.2.1) := by rfl
        have e27 : tv = (((tn, tk, tv, ts), nx, mol dn dg un (dn - 2) 2 ug).1.2.2.1) := by rfl
        have e28 : ts = (((tn, tk, tv, ts), nx, mol dn dg un (dn - 2) 2 ug).1.2.2.2) := by rfl
        exact L71 (dn - 0 + 1) 0 ((tn, tk, tv, ts), nx, mol dn dg un (dn - 2) 2 ug) (by omega) (by omega) (by show nx + 255 * (dn - 0) < 2 ^ 30; omega) (by exact htn) (by exact hs) (by exact mol_lt hug) (by rfl) _ _ (x_wP (by rw [← e23, ← e24, ← e25, ← e26, ← e27, ← e28]) hP) (x_wD (by rw [← e23, ← e24, ← e25, ← e26, ← e27, ← e28]) hD) hS ls (x_lvc (l1 := [(0, .ref (a 0)), (1, .int (oI (nlb dn dg un (mol dn dg un (dn - 2) 2 ug) nx (dn - 2) 2))), (2, .int (nI 0))]) (by rw [← e22]) (lv_sub hl [2, 1, 0] rfl))
      · refine lv_aload_n hx hb dX5_replayLog_13 rfl (lv_at hl 0 rfl) ?_
        refine va_get (D := (dC, dI)) (ci := 5) (v := .ref (a 3)) (C := RX5) (T := TX5) (N := 11) hx hb hts in_X5 hown hK hP 0 rfl rfl 1 (by decide) f21 (fun _ h9 => h9) rfl dX5_replayLog_14 ?_
        refine lv_iload_n hx hb dX5_replayLog_17 rfl (lv_at hl 1 rfl) ?_
        refine x_calli (va_runVN (As := [.int (nI b)]) (rest := []) ⟨hx, hb, hml, hown, hts⟩ (c_Us_of (show okU (fun ug' => wS a cB cI cL h1 h2 s1 s2 op nx wt sf lf dn dg un ug' qn qt qg tn tk tv ts ef eg ex eF pf pg px pF) 3 4 (a 3) (a 4) cI un from ⟨fun _ => rfl, fun _ => rfl, fun _ _ => rfl⟩) (tyS_I cB cI cL) (by omega) u' i2_1 b (by omega)) ⟨(va_cnB 1 hts (tbG tw_501) rfl rfl rfl n164 ini_X4 (by decide +kernel) ⟨Nat.le_of_ble_eq_true rfl, Nat.le_of_ble_eq_true rfl⟩), im_yX4_of, se_yX4_of⟩ ⟨x_blind, va_recv hK hP (ci := 4) (q0 := 3) rfl rfl, x_pre hK hP hD hN⟩ rfl rfl hl.1 rfl (lv_room (Nat.le_of_ble_eq_true rfl)) dX5_replayLog_18 ⟨Nat.zero_le _, Nat.zero_le _⟩) hS (fun H locs hP hD hS => ?_)
        have hP : va_P (dC, dI) vwCl (wS a cB cI cL h1 h2 s1 s2 op nx wt sf lf dn dg un u' qn qt qg tn tk tv ts ef eg ex eF pf pg px pF) H := hP
        have hD : va_D A (wS a cB cI cL h1 h2 s1 s2 op nx wt sf lf dn dg un u' qn qt qg tn tk tv ts ef eg ex eF pf pg px pF) := hD
        have hv18 : uof un u' b < 8 := uof_lt i2_1
        refine x_if_ne (tgt := 58) hx hb dX5_replayLog_21 (by decide) (by omega) (fun c21 => ?_) (fun c21 => ?_)
        · refine lv_iinc (v := nI (b + 1)) (lv' := [(1, .int (nI (b + 1))), (0, .ref (a 0))]) hx hb dX5_replayLog_58 hl (k := 1) rfl (x_inc _) (by decide) rfl (fun ls hl => ?_)
          refine lv_goto (tgt := 2) hx hb dX5_replayLog_61 (by decide) ?_
          exact ih2 (b + 1) u' (by omega) (by omega) (by first | exact i2_1 | exact umk_lt i2_1 (by decide)) (by have h := i2_2; rw [show dn - b = (dn - (b + 1)) + 1 by omega, mol] at h; first | (have hh : uof un u' b = 0 ∧ whole dn dg b = true ∧ bv dn dg b 0 = 1 := ⟨c21, c32, c45⟩; rw [if_pos hh] at h; exact h) | (have hh : ¬ (uof un u' b = 0 ∧ whole dn dg b = true ∧ bv dn dg b 0 = 1) := (by first | exact fun q => c21 q.1 | exact fun q => absurd (c32.symm.trans q.2.1) (by decide) | exact fun q => c45 q.2.2); rw [if_neg hh] at h; exact h)) _ _ hP hD hS ls (lv_sub hl [1, 0] rfl)
        · refine lv_aload_n hx hb dX5_replayLog_24 rfl (lv_at hl 0 rfl) ?_
          refine va_get (D := (dC, dI)) (ci := 5) (v := .ref (a 1)) (C := RX5) (T := TX5) (N := 11) hx hb hts in_X5 hown hK hP 0 rfl rfl 0 (by decide) f14 (fun _ h9 => h9) rfl dX5_replayLog_25 ?_
          refine lv_iload_n hx hb dX5_replayLog_28 rfl (lv_at hl 1 rfl) ?_
          refine x_calli (va_runVN (As := [.int (nI b)]) (rest := []) ⟨hx, hb, hml, hown, hts⟩ (c_Bl_isWhole (show okB (fun dg' => wS a cB cI cL h1 h2 s1 s2 op nx wt sf lf dn dg' un u' qn qt qg tn tk tv ts ef eg ex eF pf pg px pF) 1 2 (a 1) (a 2) cB dn from ⟨fun _ => rfl, fun _ => rfl, fun _ _ => rfl⟩) (tyS_B cB cI cL) (by omega) dg hdg b (by omega)) ⟨(va_cnB 1 hts (tbG tw_448) rfl rfl rfl n177 ini_X0 (by decide +kernel) ⟨Nat.le_of_ble_eq_true rfl, Nat.le_of_ble_eq_true rfl⟩), im_yX0_isWhole, se_yX0_isWhole⟩ ⟨x_blind, va_recv hK hP (ci := 0) (q0 := 1) rfl rfl, x_pre hK hP hD hN⟩ rfl rfl hl.1 rfl (lv_room (Nat.le_of_ble_eq_true rfl)) dX5_replayLog_29 ⟨Nat.zero_le _, Nat.zero_le _⟩) hS (fun H locs hP hD hS => ?_)
          have hP : va_P (dC, dI) vwCl (wS a cB cI cL h1 h2 s1 s2 op nx wt sf lf dn dg un u' qn qt qg tn tk tv ts ef eg ex eF pf pg px pF) H := hP
          have hD : va_D A (wS a cB cI cL h1 h2 s1 s2 op nx wt sf lf dn dg un u' qn qt qg tn tk tv ts ef eg ex eF pf pg px pF) := hD
          refine x_if_eq_b (tgt := 58) hx hb dX5_replayLog_32 (by decide) (fun c32 => ?_) (fun c32 => ?_)
          · refine lv_iinc (v := nI (b + 1)) (lv' := [(1, .int (nI (b + 1))), (0, .ref (a 0))]) hx hb dX5_replayLog_58 hl (k := 1) rfl (x_inc _) (by decide) rfl (fun ls hl => ?_)
            refine lv_goto (tgt := 2) hx hb dX5_replayLog_61 (by decide) ?_
            exact ih2 (b + 1) u' (by omega) (by omega) (by first | exact i2_1 | exact umk_lt i2_1 (by decide)) (by have h := i2_2; rw [show dn - b = (dn - (b + 1)) + 1 by omega, mol] at h; first | (have hh : uof un u' b = 0 ∧ whole dn dg b = true ∧ bv dn dg b 0 = 1 := ⟨c21, c32, c45⟩; rw [if_pos hh] at h; exact h) | (have hh : ¬ (uof un u' b = 0 ∧ whole dn dg b = true ∧ bv dn dg b 0 = 1) := (by first | exact fun q => c21 q.1 | exact fun q => absurd (c32.symm.trans q.2.1) (by decide) | exact fun q => c45 q.2.2); rw [if_neg hh] at h; exact h)) _ _ hP hD hS ls (lv_sub hl [1, 0] rfl)
          · refine lv_aload_n hx hb dX5_replayLog_35 rfl (lv_at hl 0 rfl) ?_
            refine va_get (D := (dC, dI)) (ci := 5) (v := .ref (a 1)) (C := RX5) (T := TX5) (N := 11) hx hb hts in_X5 hown hK hP 0 rfl rfl 0 (by decide) f14 (fun _ h9 => h9) rfl dX5_replayLog_36 ?_
            refine lv_iload_n hx hb dX5_replayLog_39 rfl (lv_at hl 1 rfl) ?_
            refine lv_iconst (v := nI 0) hx hb dX5_replayLog_40 (by decide) ?_
            refine x_calli (va_runVN (As := [.int (nI b), .int (nI 0)]) (rest := []) ⟨hx, hb, hml, hown, hts⟩ (c_Bl_value (show okB (fun dg' => wS a cB cI cL h1 h2 s1 s2 op nx wt sf lf dn dg' un u' qn qt qg tn tk tv ts ef eg ex eF pf pg px pF) 1 2 (a 1) (a 2) cB dn from ⟨fun _ => rfl, fun _ => rfl, fun _ _ => rfl⟩) (tyS_B cB cI cL) (by omega) dg hdg b 0 (by omega) (by omega)) ⟨(va_cnB 2 hts (tbG tw_345) rfl rfl rfl n167 ini_X0 (by decide +kernel) ⟨Nat.le_of_ble_eq_true rfl, Nat.le_of_ble_eq_true rfl⟩), im_yX0_value, se_yX0_value⟩ ⟨x_blind, va_recv hK hP (ci := 0) (q0 := 1) rfl rfl, x_pre hK hP hD hN⟩ rfl rfl hl.1 rfl (lv_room (Nat.le_of_ble_eq_true rfl)) dX5_replayLog_41 ⟨Nat.zero_le _, Nat.zero_le _⟩) hS (fun H locs hP hD hS => ?_)
            have hP : va_P (dC, dI) vwCl (wS a cB cI cL h1 h2 s1 s2 op nx wt sf lf dn dg un u' qn qt qg tn tk tv ts ef eg ex eF pf pg px pF) H := hP
            have hD : va_D A (wS a cB cI cL h1 h2 s1 s2 op nx wt sf lf dn dg un u' qn qt qg tn tk tv ts ef eg ex eF pf pg px pF) := hD
            have hv41 : bv dn dg b 0 < 256 := bv_lt hdg
            refine lv_iconst (v := nI 1) hx hb dX5_replayLog_44 (by decide) ?_
            refine x_icmp_ne (tgt := 58) hx hb dX5_replayLog_45 (by decide) (by omega) (by omega) (fun c45 => ?_) (fun c45 => ?_)
            · refine lv_iinc (v := nI (b + 1)) (lv' := [(1, .int (nI (b + 1))), (0, .ref (a 0))]) hx hb dX5_replayLog_58 hl (k := 1) rfl (x_inc _) (by decide) rfl (fun ls hl => ?_)
              refine lv_goto (tgt := 2) hx hb dX5_replayLog_61 (by decide) ?_
              exact ih2 (b + 1) u' (by omega) (by omega) (by first | exact i2_1 | exact umk_lt i2_1 (by decide)) (by have h := i2_2; rw [show dn - b = (dn - (b + 1)) + 1 by omega, mol] at h; first | (have hh : uof un u' b = 0 ∧ whole dn dg b = true ∧ bv dn dg b 0 = 1 := ⟨c21, c32, c45⟩; rw [if_pos hh] at h; exact h) | (have hh : ¬ (uof un u' b = 0 ∧ whole dn dg b = true ∧ bv dn dg b 0 = 1) := (by first | exact fun q => c21 q.1 | exact fun q => absurd (c32.symm.trans q.2.1) (by decide) | exact fun q => c45 q.2.2); rw [if_neg hh] at h; exact h)) _ _ hP hD hS ls (lv_sub hl [1, 0] rfl)
            · refine lv_aload_n hx hb dX5_replayLog_48 rfl (lv_at hl 0 rfl) ?_
              refine va_get (D := (dC, dI)) (ci := 5) (v := .ref (a 3)) (C := RX5) (T := TX5) (N := 11) hx hb hts in_X5 hown hK hP 0 rfl rfl 1 (by decide) f21 (fun _ h9 => h9) rfl dX5_replayLog_49 ?_
              refine lv_iload_n hx hb dX5_replayLog_52 rfl (lv_at hl 1 rfl) ?_
              refine lv_iconst (v := nI 1) hx hb dX5_replayLog_53 (by decide) ?_
              refine lv_iconst (v := nI 4) hx hb dX5_replayLog_54 (by decide) ?_
              refine x_callv (va_runVN (As := [.int (nI b), .int (nI 1), .int (nI 4)]) (rest := []) ⟨hx, hb, hml, hown, hts⟩ (c_Us_mark (show okU (fun ug' => wS a cB cI cL h1 h2 s1 s2 op nx wt sf lf dn dg un ug' qn qt qg tn tk tv ts ef eg ex eF pf pg px pF) 3 4 (a 3) (a 4) cI un from ⟨fun _ => rfl, fun _ => rfl, fun _ _ => rfl⟩) (tyS_I cB cI cL) (by omega) u' i2_1 b 1 4 (by omega) (by omega)) ⟨(va_cnB 3 hts (tbG tw_131) rfl rfl rfl n225 ini_X4 (by decide +kernel) ⟨Nat.le_of_ble_eq_true rfl, Nat.le_of_ble_eq_true rfl⟩), im_yX4_mark, se_yX4_mark⟩ ⟨x_blind, va_recv hK hP (ci := 4) (q0 := 3) rfl rfl, x_pre hK hP hD hN⟩ rfl rfl hl.1 rfl (lv_room (Nat.le_of_ble_eq_true rfl)) dX5_replayLog_55 ⟨Nat.zero_le _, Nat.zero_le _⟩) hS (fun H locs hP hD hS => ?_)
              have hP : va_P (dC, dI) vwCl (wS a cB cI cL h1 h2 s1 s2 op nx wt sf lf dn dg un (umk un b 4 1 u' 0) qn qt qg tn tk tv ts ef eg ex eF pf pg px pF) H := hP
              have hD : va_D A (wS a cB cI cL h1 h2 s1 s2 op nx wt sf lf dn dg un (umk un b 4 1 u' 0) qn qt qg tn tk tv ts ef eg ex eF pf pg px pF) := hD
              refine lv_iinc (v := nI (b + 1)) (lv' := [(1, .int (nI (b + 1))), (0, .ref (a 0))]) hx hb dX5_replayLog_58 hl (k := 1) rfl (x_inc _) (by decide) rfl (fun ls hl => ?_)
              refine lv_goto (tgt := 2) hx hb dX5_replayLog_61 (by decide) ?_
              exact ih2 (b + 1) (umk un b 4 1 u' 0) (by omega) (by omega) (by first | exact i2_1 | exact umk_lt i2_1 (by decide)) (by have h := i2_2; rw [show dn - b = (dn - (b + 1)) + 1 by omega, mol] at h; first | (have hh : uof un u' b = 0 ∧ whole dn dg b = true ∧ bv dn dg b 0 = 1 := ⟨c21, c32, c45⟩; rw [if_pos hh] at h; exact h) | (have hh : ¬ (uof un u' b = 0 ∧ whole dn dg b = true ∧ bv dn dg b 0 = 1) := (by first | exact fun q => c21 q.1 | exact fun q => absurd (c32.symm.trans q.2.1) (by decide) | exact fun q => c45 q.2.2); rw [if_neg hh] at h; exact h)) _ _ hP hD hS ls (lv_sub hl [1, 0] rfl)
  exact L2 (dn - 2 + 1) 2 ug (by omega) (by omega) (by exact hug) (by rfl) _ _ hP hD hS ls (lv_sub hl [1, 0] rfl)

set_option maxHeartbeats 4000000 in
set_option maxRecDepth 100000 in
theorem c_SL_readFile {l : Launch} {dC : Nat → ClassId} {dI : Nat → Nat → Nat} {A : Nat → Prop} {a : Nat → Nat} {cB cI cL : ClassId} {h1 h2 s1 s2 : Nat} {op : Bool} {nx wt sf lf dn : Nat} {dg : Nat → Nat} {un : Nat} {ug : Nat → Nat} {qn : Nat} {qt qg : Nat → Nat} {tn : Nat} {tk tv : Nat → Int64} {ts : Nat → Nat} {ef eg ex : Nat} {eF : Nat → Nat} {pf pg px : Nat} {pF : Nat → Nat} (hdn : dn ≤ 64) (hun : un ≤ 64) (htn : tn ≤ 192) (hdg : ∀ j, dg j < 256) (hug : ∀ j, ug j < 8) (hs : ∀ j, ts j < 2 ^ 31) (heF : ∀ j, eF j < 1048576) (hef : ef ≤ 5) (hlf : lf < 2 ^ 18) (i : Nat) (hi1 : i < 2 ^ 20) (hgi : (hfl ef eF i 3 + 2) / 3 = hfl ef eF i 2) : Met l yX5_readFile (Cond.code yX5_readFile cX5_readFile 6 none :: TB) { frames := 4, cells := 0, slots := 0, locals := 94 } (xPre Nst (dC, dI) A (tyS cB cI cL) (wS a cB cI cL h1 h2 s1 s2 op nx wt sf lf dn dg un ug qn qt qg tn tk tv ts ef eg ex eF pf pg px pF) [.ref (a 0), .int (nI i)]) (xQv (dC, dI) A (wS a cB cI cL h1 h2 s1 s2 op nx wt sf (max lf (hfl ef eF i 0)) dn dg un (umk un (hfl ef eF i 1) 2 (hfl ef eF i 2) ug 0) qn qt qg ((rfO dn dg (hfl ef eF i 1) (hfl ef eF i 3) (hfl ef eF i 2) 0 (tn, tk, tv, ts)).1) ((rfO dn dg (hfl ef eF i 1) (hfl ef eF i 3) (hfl ef eF i 2) 0 (tn, tk, tv, ts)).2.1) ((rfO dn dg (hfl ef eF i 1) (hfl ef eF i 3) (hfl ef eF i 2) 0 (tn, tk, tv, ts)).2.2.1) ((rfO dn dg (hfl ef eF i 1) (hfl ef eF i 3) (hfl ef eF i 2) 0 (tn, tk, tv, ts)).2.2.2) ef eg ex eF pf pg px pF)) 0 0 A := by
  refine x_ofWv (cc := cX5_readFile) (maxL := 6) (by decide) rfl (Nat.le_of_ble_eq_true rfl) ?_
  intro p e s m args below meth c Q hx hb hml hts hown hK hN hP hD hS hret ls hl
  have hl : lv_has ls 6 [(0, .ref (a 0)), (1, .int (nI i))] := hl
  have hown : s.vm.findClass RX5 = some m.cls := hown
  have q0 := hfl_lt (n := ef) heF (i := i) (w := 0)
  have q1 := hfl_lt (n := ef) heF (i := i) (w := 1)
  have q2 := hfl_lt (n := ef) heF (i := i) (w := 2)
  have q3 := hfl_lt (n := ef) heF (i := i) (w := 3)
  have f42 := hts _ (List.mem_cons_of_mem _ tw_211)
  have in_X5 := (fun q hq => List.mem_cons_of_mem _ (inX5 q hq) : ∀ q ∈ wsX50, q ∈ (Cond.code yX5_readFile cX5_readFile 6 none :: TB))
  have n157 := hN (.methodLinkNest RX5 157 yX1_field "SegmentLog") (by decide +kernel)
  have ini_X1 := hts _ (List.mem_cons_of_mem _ tw_90)
  have im_yX1_field := hts _ (List.mem_cons_of_mem _ tw_386)
  have se_yX1_field := hts _ (List.mem_cons_of_mem _ tw_30)
  have f21 := hts _ (List.mem_cons_of_mem _ tw_208)
  have n225 := hN (.methodLinkNest RX5 225 yX4_mark "SegmentLog") (by decide +kernel)
  have ini_X4 := hts _ (List.mem_cons_of_mem _ tw_86)
  have im_yX4_mark := hts _ (List.mem_cons_of_mem _ tw_130)
  have se_yX4_mark := hts _ (List.mem_cons_of_mem _ tw_1)
  have f190 := hts _ (List.mem_cons_of_mem _ tw_217)
  have m265a := hts _ (List.mem_cons_of_mem _ tw_491)
  have mmaxb := hts _ (List.mem_cons_of_mem _ tw_492)
  have mMath := hts _ (List.mem_cons_of_mem _ tw_87)
  have mmaxc := hts _ (List.mem_cons_of_mem _ tw_493)
  refine lv_aload_n hx hb dX5_readFile_0 rfl (lv_at hl 0 rfl) ?_
  refine va_get (D := (dC, dI)) (ci := 5) (v := .ref h1) (C := RX5) (T := TX5) (N := 11) hx hb hts in_X5 hown hK hP 0 rfl rfl 4 (by decide) f42 (fun _ h9 => h9) rfl dX5_readFile_1 ?_
  refine lv_iload_n hx hb dX5_readFile_4 rfl (lv_at hl 1 rfl) ?_
  refine lv_iconst (v := nI 1) hx hb dX5_readFile_5 (by decide) ?_
  refine x_calli (va_runVN (As := [.int (nI i), .int (nI 1)]) (rest := []) ⟨hx, hb, hml, hown, hts⟩ (c_He_field (show okH (fun ef' eg' ex' eF' => wS a cB cI cL h1 h2 s1 s2 op nx wt sf lf dn dg un ug qn qt qg tn tk tv ts ef' eg' ex' eF' pf pg px pF) 13 14 h1 h2 cI from ⟨fun _ _ _ _ => rfl, fun _ _ _ _ => rfl, fun _ _ _ _ _ _ _ => rfl, fun _ _ _ _ _ => rfl⟩) (tyS_I cB cI cL) ef eg ex eF i 1 (by omega) (by omega) (by omega)) ⟨(va_cnB 2 hts (tbG tw_387) rfl rfl rfl n157 ini_X1 (by decide +kernel) ⟨Nat.le_of_ble_eq_true rfl, Nat.le_of_ble_eq_true rfl⟩), im_yX1_field, se_yX1_field⟩ ⟨x_blind, va_recv hK hP (ci := 1) (q0 := 13) rfl rfl, x_pre hK hP hD hN⟩ rfl rfl hl.1 rfl (lv_room (Nat.le_of_ble_eq_true rfl)) dX5_readFile_6 ⟨Nat.zero_le _, Nat.zero_le _⟩) hS (fun H locs hP hD hS => ?_)
  have hP : va_P (dC, dI) vwCl (wS a cB cI cL h1 h2 s1 s2 op nx wt sf lf dn dg un ug qn qt qg tn tk tv ts ef eg ex eF pf pg px pF) H := hP
  have hD : va_D A (wS a cB cI cL h1 h2 s1 s2 op nx wt sf lf dn dg un ug qn qt qg tn tk tv ts ef eg ex eF pf pg px pF) := hD
  have hv6 : hfl ef eF i 1 < 1048576 := hfl_lt heF
  refine lv_istore_n (lv' := [(2, .int (nI (hfl ef eF i 1))), (0, .ref (a 0)), (1, .int (nI i))]) hx hb dX5_readFile_9 rfl hl (by decide) rfl (fun ls hl => ?_)
  refine lv_aload_n hx hb dX5_readFile_10 rfl (lv_at hl 1 rfl) ?_
  refine va_get (D := (dC, dI)) (ci := 5) (v := .ref h1) (C := RX5) (T := TX5) (N := 11) hx hb hts in_X5 hown hK hP 0 rfl rfl 4 (by decide) f42 (fun _ h9 => h9) rfl dX5_readFile_11 ?_
  refine lv_iload_n hx hb dX5_readFile_14 rfl (lv_at hl 2 rfl) ?_
  refine lv_iconst (v := nI 2) hx hb dX5_readFile_15 (by decide) ?_
  refine x_calli (va_runVN (As := [.int (nI i), .int (nI 2)]) (rest := []) ⟨hx, hb, hml, hown, hts⟩ (c_He_field (show okH (fun ef' eg' ex' eF' => wS a cB cI cL h1 h2 s1 s2 op nx wt sf lf dn dg un ug qn qt qg tn tk tv ts ef' eg' ex' eF' pf pg px pF) 13 14 h1 h2 cI from ⟨fun _ _ _ _ => rfl, fun _ _ _ _ => rfl, fun _ _ _ _ _ _ _ => rfl, fun _ _ _ _ _ => rfl⟩) (tyS_I cB cI cL) ef eg ex eF i 2 (by omega) (by omega) (by omega)) ⟨(va_cnB 2 hts (tbG tw_387) rfl rfl rfl n157 ini_X1 (by decide +kernel) ⟨Nat.le_of_ble_eq_true rfl, Nat.le_of_ble_eq_true rfl⟩), im_yX1_field, se_yX1_field⟩ ⟨x_blind, va_recv hK hP (ci := 1) (q0 := 13) rfl rfl, x_pre hK hP hD hN⟩ rfl rfl hl.1 rfl (lv_room (Nat.le_of_ble_eq_true rfl)) dX5_readFile_16 ⟨Nat.zero_le _, Nat.zero_le _⟩) hS (fun H locs hP hD hS => ?_)
  have hP : va_P (dC, dI) vwCl (wS a cB cI cL h1 h2 s1 s2 op nx wt sf lf dn dg un ug qn qt qg tn tk tv ts ef eg ex eF pf pg px pF) H := hP
  have hD : va_D A (wS a cB cI cL h1 h2 s1 s2 op nx wt sf lf dn dg un ug qn qt qg tn tk tv ts ef eg ex eF pf pg px pF) := hD
  have hv16 : hfl ef eF i 2 < 1048576 := hfl_lt heF
  refine lv_istore_n (lv' := [(3, .int (nI (hfl ef eF i 2))), (2, .int (nI (hfl ef eF i 1))), (0, .ref (a 0)), (1, .int (nI i))]) hx hb dX5_readFile_19 rfl hl (by decide) rfl (fun ls hl => ?_)
  refine lv_iconst (v := nI 0) hx hb dX5_readFile_20 (by decide) ?_
  refine lv_istore (lv' := [(4, .int (nI 0)), (3, .int (nI (hfl ef eF i 2))), (2, .int (nI (hfl ef eF i 1))), (0, .ref (a 0)), (1, .int (nI i))]) hx hb dX5_readFile_21 hl (by decide) rfl (fun ls hl => ?_)
  have L23 : ∀ (fu23 : Nat) (p1 : Nat) (T' : TS), (hfl ef eF i 2 - p1 < fu23) → (p1 ≤ hfl ef eF i 2) → (T'.1 ≤ 192) → (∀ q, T'.2.2.2 q < 2 ^ 31) → (rfO dn dg (hfl ef eF i 1) (hfl ef eF i 3) (hfl ef eF i 2 - p1) p1 T' = rfO dn dg (hfl ef eF i 1) (hfl ef eF i 3) (hfl ef eF i 2) 0 (tn, tk, tv, ts)) → ∀ (H : Heap) (locs : List Loc), va_P (dC, dI) vwCl (wS a cB cI cL h1 h2 s1 s2 op nx wt sf lf dn dg un ug qn qt qg T'.1 T'.2.1 T'.2.2.1 T'.2.2.2 ef eg ex eF pf pg px pF) H → va_D A (wS a cB cI cL h1 h2 s1 s2 op nx wt sf lf dn dg un ug qn qt qg T'.1 T'.2.1 T'.2.2.1 T'.2.2.2 ef eg ex eF pf pg px pF) → va_S A s.heap H locs → ∀ (ls : Array Slot), lv_has ls 6 [(0, .ref (a 0)), (1, .int (nI i)), (2, .int (nI (hfl ef eF i 1))), (3, .int (nI (hfl ef eF i 2))), (4, .int (nI p1))] → W p l e { frames := 4, cells := 0, slots := 0, locals := 94 } s m args below meth c H locs 0 0 Q (F0 m 23 ls []) := by
    intro fu23
    induction fu23 with
    | zero => intro p1 T' hm; exact absurd hm (Nat.not_lt_zero _)
    | succ fu23 ih23 =>
      intro p1 T' hm i23_0 i23_1 i23_2 i23_3 H locs hP hD hS ls hl
      refine lv_iload hx hb dX5_readFile_23 (lv_at hl 4 rfl) ?_
      refine lv_iload_n hx hb dX5_readFile_25 rfl (lv_at hl 3 rfl) ?_
      refine x_icmp_ge (tgt := 74) hx hb dX5_readFile_26 (by decide) (by omega) (by omega) (fun c26 => ?_) (fun c26 => ?_)
      · have zz := i23_3
        rw [show hfl ef eF i 2 - p1 = 0 by omega, rfO] at zz
        refine lv_aload_n hx hb dX5_readFile_74 rfl (lv_at hl 0 rfl) ?_
        refine va_get (D := (dC, dI)) (ci := 5) (v := .ref (a 3)) (C := RX5) (T := TX5) (N := 11) hx hb hts in_X5 hown hK hP 0 rfl rfl 1 (by decide) f21 (fun _ h9 => h9) rfl dX5_readFile_75 ?_
        refine lv_iload_n hx hb dX5_readFile_78 rfl (lv_at hl 2 rfl) ?_
        refine lv_iload_n hx hb dX5_readFile_79 rfl (lv_at hl 3 rfl) ?_
        refine lv_iconst (v := nI 2) hx hb dX5_readFile_80 (by decide) ?_
        refine x_callv (va_runVN (As := [.int (nI (hfl ef eF i 1)), .int (nI (hfl ef eF i 2)), .int (nI 2)]) (rest := []) ⟨hx, hb, hml, hown, hts⟩ (c_Us_mark (show okU (fun ug' => wS a cB cI cL h1 h2 s1 s2 op nx wt sf lf dn dg un ug' qn qt qg T'.1 T'.2.1 T'.2.2.1 T'.2.2.2 ef eg ex eF pf pg px pF) 3 4 (a 3) (a 4) cI un from ⟨fun _ => rfl, fun _ => rfl, fun _ _ => rfl⟩) (tyS_I cB cI cL) (by omega) ug hug (hfl ef eF i 1) (hfl ef eF i 2) 2 (by omega) (by omega)) ⟨(va_cnB 3 hts (tbG tw_131) rfl rfl rfl n225 ini_X4 (by decide +kernel) ⟨Nat.le_of_ble_eq_true rfl, Nat.le_of_ble_eq_true rfl⟩), im_yX4_mark, se_yX4_mark⟩ ⟨x_blind, va_recv hK hP (ci := 4) (q0 := 3) rfl rfl, x_pre hK hP hD hN⟩ rfl rfl hl.1 rfl (lv_room (Nat.le_of_ble_eq_true rfl)) dX5_readFile_81 ⟨Nat.zero_le _, Nat.zero_le _⟩) hS (fun H locs hP hD hS => ?_)
        have hP : va_P (dC, dI) vwCl (wS a cB cI cL h1 h2 s1 s2 op nx wt sf lf dn dg un (umk un (hfl ef eF i 1) 2 (hfl ef eF i 2) ug 0) qn qt qg T'.1 T'.2.1 T'.2.2.1 T'.2.2.2 ef eg ex eF pf pg px pF) H := hP
        have hD : va_D A (wS a cB cI cL h1 h2 s1 s2 op nx wt sf lf dn dg un (umk un (hfl ef eF i 1) 2 (hfl ef eF i 2) ug 0) qn qt qg T'.1 T'.2.1 T'.2.2.1 T'.2.2.2 ef eg ex eF pf pg px pF) := hD
        refine lv_aload_n hx hb dX5_readFile_84 rfl (lv_at hl 0 rfl) ?_
        refine lv_aload_n hx hb dX5_readFile_85 rfl (lv_at hl 0 rfl) ?_
        refine va_get (D := (dC, dI)) (ci := 5) (v := .int (nI lf)) (C := RX5) (T := TX5) (N := 11) hx hb hts in_X5 hown hK hP 0 rfl rfl 10 (by decide) f190 (fun _ h9 => h9) rfl dX5_readFile_86 ?_
        refine lv_aload_n hx hb dX5_readFile_89 rfl (lv_at hl 0 rfl) ?_
        refine va_get (D := (dC, dI)) (ci := 5) (v := .ref h1) (C := RX5) (T := TX5) (N := 11) hx hb hts in_X5 hown hK hP 0 rfl rfl 4 (by decide) f42 (fun _ h9 => h9) rfl dX5_readFile_90 ?_
        refine lv_iload_n hx hb dX5_readFile_93 rfl (lv_at hl 1 rfl) ?_
        refine lv_iconst (v := nI 0) hx hb dX5_readFile_94 (by decide) ?_
        refine x_calli (va_runVN (As := [.int (nI i), .int (nI 0)]) (rest := [.int (nI lf), .ref (a 0)]) ⟨hx, hb, hml, hown, hts⟩ (c_He_field (show okH (fun ef' eg' ex' eF' => wS a cB cI cL h1 h2 s1 s2 op nx wt sf lf dn dg un (umk un (hfl ef eF i 1) 2 (hfl ef eF i 2) ug 0) qn qt qg T'.1 T'.2.1 T'.2.2.1 T'.2.2.2 ef' eg' ex' eF' pf pg px pF) 13 14 h1 h2 cI from ⟨fun _ _ _ _ => rfl, fun _ _ _ _ => rfl, fun _ _ _ _ _ _ _ => rfl, fun _ _ _ _ _ => rfl⟩) (tyS_I cB cI cL) ef eg ex eF i 0 (by omega) (by omega) (by omega)) ⟨(va_cnB 2 hts (tbG tw_387) rfl rfl rfl n157 ini_X1 (by decide +kernel) ⟨Nat.le_of_ble_eq_true rfl, Nat.le_of_ble_eq_true rfl⟩), im_yX1_field, se_yX1_field⟩ ⟨x_blind, va_recv hK hP (ci := 1) (q0 := 13) rfl rfl, x_pre hK hP hD hN⟩ rfl rfl hl.1 rfl (lv_room (Nat.le_of_ble_eq_true rfl)) dX5_readFile_95 ⟨Nat.zero_le _, Nat.zero_le _⟩) hS (fun H locs hP hD hS => ?_)
        have hP : va_P (dC, dI) vwCl (wS a cB cI cL h1 h2 s1 s2 op nx wt sf lf dn dg un (umk un (hfl ef eF i 1) 2 (hfl ef eF i 2) ug 0) qn qt qg T'.1 T'.2.1 T'.2.2.1 T'.2.2.2 ef eg ex eF pf pg px pF) H := hP
        have hD : va_D A (wS a cB cI cL h1 h2 s1 s2 op nx wt sf lf dn dg un (umk un (hfl ef eF i 1) 2 (hfl ef eF i 2) ug 0) qn qt qg T'.1 T'.2.1 T'.2.2.1 T'.2.2.2 ef eg ex eF pf pg px pF) := hD
        have hv95 : hfl ef eF i 0 < 1048576 := hfl_lt heF
        refine x_mmax hx hb (by rw [hml]; exact hl.1.symm) hown m265a mmaxb mMath mmaxc (by decide) (Nat.le_of_ble_eq_true rfl) (by decide) (by decide) (by omega) (by omega) dX5_readFile_98 ?_
        refine va_put (D := (dC, dI)) (ci := 5) (v := .int (nI (max lf (hfl ef eF i 0)))) (ty := .int) (C := RX5) (T := TX5) (N := 11) hx hb hts in_X5 tyX5 tyX5_ok nmX5 hown hK hP hD hS 0 rfl rfl 10 (by decide) f190 (fun _ h9 => h9) rfl (by decide +kernel) rfl rfl (Nat.le_of_ble_eq_true rfl) dX5_readFile_101 (fun H locs hP hD hS => ?_)
        have hP : va_P (dC, dI) vwCl (wS a cB cI cL h1 h2 s1 s2 op nx wt sf (max lf (hfl ef eF i 0)) dn dg un (umk un (hfl ef eF i 1) 2 (hfl ef eF i 2) ug 0) qn qt qg T'.1 T'.2.1 T'.2.2.1 T'.2.2.2 ef eg ex eF pf pg px pF) H := hP
        have hD : va_D A (wS a cB cI cL h1 h2 s1 s2 op nx wt sf (max lf (hfl ef eF i 0)) dn dg un (umk un (hfl ef eF i 1) 2 (hfl ef eF i 2) ug 0) qn qt qg T'.1 T'.2.1 T'.2.2.1 T'.2.2.2 ef eg ex eF pf pg px pF) := hD
        have e1 : T'.1 = ((rfO dn dg (hfl ef eF i 1) (hfl ef eF i 3) (hfl ef eF i 2) 0 (tn, tk, tv, ts)).1) := by rw [zz]
        have h9 : wS a cB cI cL h1 h2 s1 s2 op nx wt sf (max lf (hfl ef eF i 0)) dn dg un (umk un (hfl ef eF i 1) 2 (hfl ef eF i 2) ug 0) qn qt qg T'.1 T'.2.1 T'.2.2.1 T'.2.2.2 ef eg ex eF pf pg px pF = wS a cB cI cL h1 h2 s1 s2 op nx wt sf (max lf (hfl ef eF i 0)) dn dg un (umk un (hfl ef eF i 1) 2 (hfl ef eF i 2) ug 0) qn qt qg ((rfO dn dg (hfl ef eF i 1) (hfl ef eF i 3) (hfl ef eF i 2) 0 (tn, tk, tv, ts)).1) T'.2.1 T'.2.2.1 T'.2.2.2 ef eg ex eF pf pg px pF := by rw [← e1]
        have hP := x_wP h9 hP
        have hD := x_wD h9 hD
        have e2 : T'.2.1 = ((rfO dn dg (hfl ef eF i 1) (hfl ef eF i 3) (hfl ef eF i 2) 0 (tn, tk, tv, ts)).2.1) := by rw [zz]
        have h9 : wS a cB cI cL h1 h2 s1 s2 op nx wt sf (max lf (hfl ef eF i 0)) dn dg un (umk un (hfl ef eF i 1) 2 (hfl ef eF i 2) ug 0) qn qt qg ((rfO dn dg (hfl ef eF i 1) (hfl ef eF i 3) (hfl ef eF i 2) 0 (tn, tk, tv, ts)).1) T'.2.1 T'.2.2.1 T'.2.2.2 ef eg ex eF pf pg px pF = wS a cB cI cL h1 h2 s1 s2 op nx wt sf (max lf (hfl ef eF i 0)) dn dg un (umk un (hfl ef eF i 1) 2 (hfl ef eF i 2) ug 0) qn qt qg ((rfO dn dg (hfl ef eF i 1) (hfl ef eF i 3) (hfl ef eF i 2) 0 (tn, tk, tv, ts)).1) ((rfO dn dg (hfl ef eF i 1) (hfl ef eF i 3) (hfl ef eF i 2) 0 (tn, tk, tv, ts)).2.1) T'.2.2.1 T'.2.2.2 ef eg ex eF pf pg px pF := by rw [← e2]
        have hP := x_wP h9 hP
        have hD := x_wD h9 hD
        have e3 : T'.2.2.1 = ((rfO dn dg (hfl ef eF i 1) (hfl ef eF i 3) (hfl ef eF i 2) 0 (tn, tk, tv, ts)).2.2.1) := by rw [zz]
        have h9 : wS a cB cI cL h1 h2 s1 s2 op nx wt sf (max lf (hfl ef eF i 0)) dn dg un (umk un (hfl ef eF i 1) 2 (hfl ef eF i 2) ug 0) qn qt qg ((rfO dn dg (hfl ef eF i 1) (hfl ef eF i 3) (hfl ef eF i 2) 0 (tn, tk, tv, ts)).1) ((rfO dn dg (hfl ef eF i 1) (hfl ef eF i 3) (hfl ef eF i 2) 0 (tn, tk, tv, ts)).2.1) T'.2.2.1 T'.2.2.2 ef eg ex eF pf pg px pF = wS a cB cI cL h1 h2 s1 s2 op nx wt sf (max lf (hfl ef eF i 0)) dn dg un (umk un (hfl ef eF i 1) 2 (hfl ef eF i 2) ug 0) qn qt qg ((rfO dn dg (hfl ef eF i 1) (hfl ef eF i 3) (hfl ef eF i 2) 0 (tn, tk, tv, ts)).1) ((rfO dn dg (hfl ef eF i 1) (hfl ef eF i 3) (hfl ef eF i 2) 0 (tn, tk, tv, ts)).2.1) ((rfO dn dg (hfl ef eF i 1) (hfl ef eF i 3) (hfl ef eF i 2) 0 (tn, tk, tv, ts)).2.2.1) T'.2.2.2 ef eg ex eF pf pg px pF := by rw [← e3]
        have hP := x_wP h9 hP
        have hD := x_wD h9 hD
        have e4 : T'.2.2.2 = ((rfO dn dg (hfl ef eF i 1) (hfl ef eF i 3) (hfl ef eF i 2) 0 (tn, tk, tv, ts)).2.2.2) := by rw [zz]
        have h9 : wS a cB cI cL h1 h2 s1 s2 op nx wt sf (max lf (hfl ef eF i 0)) dn dg un (umk un (hfl ef eF i 1) 2 (hfl ef eF i 2) ug 0) qn qt qg ((rfO dn dg (hfl ef eF i 1) (hfl ef eF i 3) (hfl ef eF i 2) 0 (tn, tk, tv, ts)).1) ((rfO dn dg (hfl ef eF i 1) (hfl ef eF i 3) (hfl ef eF i 2) 0 (tn, tk, tv, ts)).2.1) ((rfO dn dg (hfl ef eF i 1) (hfl ef eF i 3) (hfl ef eF i 2) 0 (tn, tk, tv, ts)).2.2.1) T'.2.2.2 ef eg ex eF pf pg px pF = wS a cB cI cL h1 h2 s1 s2 op nx wt sf (max lf (hfl ef eF i 0)) dn dg un (umk un (hfl ef eF i 1) 2 (hfl ef eF i 2) ug 0) qn qt qg ((rfO dn dg (hfl ef eF i 1) (hfl ef eF i 3) (hfl ef eF i 2) 0 (tn, tk, tv, ts)).1) ((rfO dn dg (hfl ef eF i 1) (hfl ef eF i 3) (hfl ef eF i 2) 0 (tn, tk, tv, ts)).2.1) ((rfO dn dg (hfl ef eF i 1) (hfl ef eF i 3) (hfl ef eF i 2) 0 (tn, tk, tv, ts)).2.2.1) ((rfO dn dg (hfl ef eF i 1) (hfl ef eF i 3) (hfl ef eF i 2) 0 (tn, tk, tv, ts)).2.2.2) ef eg ex eF pf pg px pF := by rw [← e4]
        have hP := x_wP h9 hP
        have hD := x_wD h9 hD
        exact hret dX5_readFile_104 hP hD hS
      · refine lv_iconst (v := nI 0) hx hb dX5_readFile_29 (by decide) ?_
        refine lv_istore (lv' := [(5, .int (nI 0)), (0, .ref (a 0)), (1, .int (nI i)), (2, .int (nI (hfl ef eF i 1))), (3, .int (nI (hfl ef eF i 2))), (4, .int (nI p1))]) hx hb dX5_readFile_30 hl (by decide) rfl (fun ls hl => ?_)
        have L32 : ∀ (fu32 : Nat) (j : Nat) (T2 : TS), (min 3 (hfl ef eF i 3 - p1 * 3) - j < fu32) → (j ≤ min 3 (hfl ef eF i 3 - p1 * 3)) → (T2.1 ≤ 192) → (∀ q, T2.2.2.2 q < 2 ^ 31) → (rfI dn dg (hfl ef eF i 1 + p1) (min 3 (hfl ef eF i 3 - p1 * 3) - j) j T2 = rfI dn dg (hfl ef eF i 1 + p1) (min 3 (hfl ef eF i 3 - p1 * 3)) 0 T') → ∀ (H : Heap) (locs : List Loc), va_P (dC, dI) vwCl (wS a cB cI cL h1 h2 s1 s2 op nx wt sf lf dn dg un ug qn qt qg T2.1 T2.2.1 T2.2.2.1 T2.2.2.2 ef eg ex eF pf pg px pF) H → va_D A (wS a cB cI cL h1 h2 s1 s2 op nx wt sf lf dn dg un ug qn qt qg T2.1 T2.2.1 T2.2.2.1 T2.2.2.2 ef eg ex eF pf pg px pF) → va_S A s.heap H locs → ∀ (ls : Array Slot), lv_has ls 6 [(0, .ref (a 0)), (1, .int (nI i)), (2, .int (nI (hfl ef eF i 1))), (3, .int (nI (hfl ef eF i 2))), (4, .int (nI p1)), (5, .int (nI j))] → W p l e { frames := 4, cells := 0, slots := 0, locals := 94 } s m args below meth c H locs 0 0 Q (F0 m 32 ls []) := by
          intro fu32
          induction fu32 with
          | zero => intro j T2 hm; exact absurd hm (Nat.not_lt_zero _)
          | succ fu32 ih32 =>
            intro j T2 hm i32_0 i32_1 i32_2 i32_3 H locs hP hD hS ls hl
            refine lv_iload hx hb dX5_readFile_32 (lv_at hl 5 rfl) ?_
            refine lv_iload hx hb dX5_readFile_34 (lv_at hl 4 rfl) ?_
            refine lv_aload_n hx hb dX5_readFile_36 rfl (lv_at hl 0 rfl) ?_
            refine va_get (D := (dC, dI)) (ci := 5) (v := .ref h1) (C := RX5) (T := TX5) (N := 11) hx hb hts in_X5 hown hK hP 0 rfl rfl 4 (by decide) f42 (fun _ h9 => h9) rfl dX5_readFile_37 ?_
            refine lv_iload_n hx hb dX5_readFile_40 rfl (lv_at hl 1 rfl) ?_
            refine lv_iconst (v := nI 3) hx hb dX5_readFile_41 (by decide) ?_
            refine x_calli (va_runVN (As := [.int (nI i), .int (nI 3)]) (rest := [.int (nI p1), .int (nI j)]) ⟨hx, hb, hml, hown, hts⟩ (c_He_field (show okH (fun ef' eg' ex' eF' => wS a cB cI cL h1 h2 s1 s2 op nx wt sf lf dn dg un ug qn qt qg T2.1 T2.2.1 T2.2.2.1 T2.2.2.2 ef' eg' ex' eF' pf pg px pF) 13 14 h1 h2 cI from ⟨fun _ _ _ _ => rfl, fun _ _ _ _ => rfl, fun _ _ _ _ _ _ _ => rfl, fun _ _ _ _ _ => rfl⟩) (tyS_I cB cI cL) ef eg ex eF i 3 (by omega) (by omega) (by omega)) ⟨(va_cnB 2 hts (tbG tw_387) rfl rfl rfl n157 ini_X1 (by decide +kernel) ⟨Nat.le_of_ble_eq_true rfl, Nat.le_of_ble_eq_true rfl⟩), im_yX1_field, se_yX1_field⟩ ⟨x_blind, va_recv hK hP (ci := 1) (q0 := 13) rfl rfl, x_pre hK hP hD hN⟩ rfl rfl hl.1 rfl (lv_room (Nat.le_of_ble_eq_true rfl)) dX5_readFile_42 ⟨Nat.zero_le _, Nat.zero_le _⟩) hS (fun H locs hP hD hS => ?_)
            have hP : va_P (dC, dI) vwCl (wS a cB cI cL h1 h2 s1 s2 op nx wt sf lf dn dg un ug qn qt qg T2.1 T2.2.1 T2.2.2.1 T2.2.2.2 ef eg ex eF pf pg px pF) H := hP
            have hD : va_D A (wS a cB cI cL h1 h2 s1 s2 op nx wt sf lf dn dg un ug qn qt qg T2.1 T2.2.1 T2.2.2.1 T2.2.2.2 ef eg ex eF pf pg px pF) := hD
            have hv42 : hfl ef eF i 3 < 1048576 := hfl_lt heF
            refine x_calli (va_runS (As := [.int (nI p1), .int (nI (hfl ef eF i 3))]) (rest := [.int (nI j)]) ⟨hx, hb, hml, hown, hts⟩ (c_SL_recordsAt p1 (hfl ef eF i 3) (by omega) (by omega)) (va_cwS 2 hts (tbS tw_398 tw_399 tw_84 tw_400) rfl rfl rfl (by decide +kernel) ⟨Nat.le_of_ble_eq_true rfl, Nat.le_of_ble_eq_true rfl⟩) ⟨x_blind, x_pre hK hP hD hN⟩ rfl rfl hl.1 rfl (lv_room (Nat.le_of_ble_eq_true rfl)) dX5_readFile_45 ⟨Nat.zero_le _, Nat.zero_le _⟩) hS (fun H locs hP hD hS => ?_)
            have hP : va_P (dC, dI) vwCl (wS a cB cI cL h1 h2 s1 s2 op nx wt sf lf dn dg un ug qn qt qg T2.1 T2.2.1 T2.2.2.1 T2.2.2.2 ef eg ex eF pf pg px pF) H := hP
            have hD : va_D A (wS a cB cI cL h1 h2 s1 s2 op nx wt sf lf dn dg un ug qn qt qg T2.1 T2.2.1 T2.2.2.1 T2.2.2.2 ef eg ex eF pf pg px pF) := hD
            refine x_icmp_ge (tgt := 68) hx hb dX5_readFile_48 (by decide) (by omega) (by omega) (fun c48 => ?_) (fun c48 => ?_)
            · refine lv_iinc (v := nI (p1 + 1)) (lv' := [(4, .int (nI (p1 + 1))), (0, .ref (a 0)), (1, .int (nI i)), (2, .int (nI (hfl ef eF i 1))), (3, .int (nI (hfl ef eF i 2))), (5, .int (nI j))]) hx hb dX5_readFile_68 hl (k := 4) rfl (x_inc _) (by decide) rfl (fun ls hl => ?_)
              refine lv_goto (tgt := 23) hx hb dX5_readFile_71 (by decide) ?_
              exact ih23 (p1 + 1) T2 (by omega) (by omega) (by exact i32_1) (by exact i32_2) (by have h := i23_3; have z := i32_3; rw [show min 3 (hfl ef eF i 3 - p1 * 3) - j = 0 by omega, rfI] at z; rw [show hfl ef eF i 2 - p1 = (hfl ef eF i 2 - (p1 + 1)) + 1 by omega, rfO, ← z] at h; exact h) _ _ hP hD hS ls (lv_sub hl [1, 2, 3, 4, 0] rfl)
            · refine lv_aload_n hx hb dX5_readFile_51 rfl (lv_at hl 0 rfl) ?_
              refine lv_iload_n hx hb dX5_readFile_52 rfl (lv_at hl 2 rfl) ?_
              refine lv_iload hx hb dX5_readFile_53 (lv_at hl 4 rfl) ?_
              refine x_iadd hx hb dX5_readFile_55 ?_
              refine lv_iload hx hb dX5_readFile_56 (lv_at hl 5 rfl) ?_
              refine lv_iconst (v := nI 0) hx hb dX5_readFile_58 (by decide) ?_
              refine x_callv (va_runV (As := [.int (nI ((hfl ef eF i 1) + p1)), .int (nI j), .int (nI 0)]) (rest := []) ⟨hx, hb, hml, hown, hts⟩ (c_SL_readRecord (by omega) (by omega) hdg i32_2 ((hfl ef eF i 1) + p1) j 0 (by omega) (by omega) (by omega)) (cwV 3 hts (tbV tw_487 tw_489 tw_48 tw_84 tw_490) rfl rfl rfl (by decide +kernel) ⟨Nat.le_of_ble_eq_true rfl, Nat.le_of_ble_eq_true rfl⟩) ⟨x_blind, va_recv hK hP (ci := 5) (q0 := 0) rfl rfl, x_pre hK hP hD hN⟩ rfl rfl hl.1 rfl (lv_room (Nat.le_of_ble_eq_true rfl)) dX5_readFile_59 ⟨Nat.zero_le _, Nat.zero_le _⟩) hS (fun H locs hP hD hS => ?_)
              have hP : va_P (dC, dI) vwCl (wS a cB cI cL h1 h2 s1 s2 op nx wt sf lf dn dg un ug qn qt qg ((rdR dn dg ((hfl ef eF i 1) + p1) j 0 T2).1) ((rdR dn dg ((hfl ef eF i 1) + p1) j 0 T2).2.1) ((rdR dn dg ((hfl ef eF i 1) + p1) j 0 T2).2.2.1) ((rdR dn dg ((hfl ef eF i 1) + p1) j 0 T2).2.2.2) ef eg ex eF pf pg px pF) H := hP
              have hD : va_D A (wS a cB cI cL h1 h2 s1 s2 op nx wt sf lf dn dg un ug qn qt qg ((rdR dn dg ((hfl ef eF i 1) + p1) j 0 T2).1) ((rdR dn dg ((hfl ef eF i 1) + p1) j 0 T2).2.1) ((rdR dn dg ((hfl ef eF i 1) + p1) j 0 T2).2.2.1) ((rdR dn dg ((hfl ef eF i 1) + p1) j 0 T2).2.2.2) ef eg ex eF pf pg px pF) := hD
              refine lv_iinc (v := nI (j + 1)) (lv' := [(5, .int (nI (j + 1))), (0, .ref (a 0)), (1, .int (nI i)), (2, .int (nI (hfl ef eF i 1))), (3, .int (nI (hfl ef eF i 2))), (4, .int (nI p1))]) hx hb dX5_readFile_62 hl (k := 5) rfl (x_inc _) (by decide) rfl (fun ls hl => ?_)
              refine lv_goto (tgt := 32) hx hb dX5_readFile_65 (by decide) ?_
              exact ih32 (j + 1) (rdR dn dg (hfl ef eF i 1 + p1) j 0 T2) (by omega) (by omega) (by exact rdR_le i32_1) (by exact rdR_lt i32_2 (by decide)) (by have h := i32_3; rw [show min 3 (hfl ef eF i 3 - p1 * 3) - j = (min 3 (hfl ef eF i 3 - p1 * 3) - (j + 1)) + 1 by omega, rfI] at h; exact h) _ _ hP hD hS ls (lv_sub hl [1, 2, 3, 4, 5, 0] rfl)
        exact L32 (min 3 (hfl ef eF i 3 - p1 * 3) - 0 + 1) 0 T' (by omega) (by omega) (by exact i23_1) (by exact i23_2) (by rfl) _ _ hP hD hS ls (lv_sub hl [1, 2, 3, 4, 5, 0] rfl)
  have e5 : tn = ((tn, tk, tv, ts).1) := by rfl
  have e6 : tk = ((tn, tk, tv, ts).2.1) := by rfl
  have e7 : tv = ((tn, tk, tv, ts).2.2.1) := by rfl
  have e8 : ts = ((tn, tk, tv, ts).2.2.2) := by rfl
  exact L23 (hfl ef eF i 2 - 0 + 1) 0 (tn, tk, tv, ts) (by omega) (by omega) (by exact htn) (by exact hs) (by rfl) _ _ (x_wP (by rw [← e5, ← e6, ← e7, ← e8]) hP) (x_wD (by rw [← e5, ← e6, ← e7, ← e8]) hD) hS ls (lv_sub hl [3, 4, 2, 1, 0] rfl)
