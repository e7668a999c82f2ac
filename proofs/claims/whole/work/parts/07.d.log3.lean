set_option maxHeartbeats 4000000 in
set_option maxRecDepth 100000 in
theorem c_SL_queueLog {l : Launch} {dC : Nat → ClassId} {dI : Nat → Nat → Nat} {A : Nat → Prop} {a : Nat → Nat} {cB cI cL : ClassId} {h1 h2 s1 s2 : Nat} {op : Bool} {nx wt sf lf dn : Nat} {dg : Nat → Nat} {un : Nat} {ug : Nat → Nat} {qn : Nat} {qt qg : Nat → Nat} {tn : Nat} {tk tv : Nat → Int64} {ts : Nat → Nat} {ef eg ex : Nat} {eF : Nat → Nat} {pf pg px : Nat} {pF : Nat → Nat} (hun : un ≤ 64) (hqn : qn ≤ 64) (htn : tn ≤ 192) (hug : ∀ j, ug j < 8) (hqt : ∀ j, qt j < 64) (hqg : ∀ j, qg j < 256) (hs : ∀ j, ts j < 2 ^ 31) (hnx : nx < 2 ^ 30) (hwt : wt ≤ nx) (b : Nat) (hb1 : b < 64) (hq1 : qn < 64) (hw3 : wt ≤ 3) (hw4 : 0 < wt) (hfd : ∀ j, j < wt → ∃ i, twi ts (nx - wt + j) tn 0 = some i) : Met l yX5_queueLog (Cond.code yX5_queueLog cX5_queueLog 5 none :: TB) { frames := 4, cells := 0, slots := 0, locals := 97 } (xPre Nst (dC, dI) A (tyS cB cI cL) (wS a cB cI cL h1 h2 s1 s2 op nx wt sf lf dn dg un ug qn qt qg tn tk tv ts ef eg ex eF pf pg px pF) [.ref (a 0), .int (nI b)]) (xQv (dC, dI) A (wS a cB cI cL h1 h2 s1 s2 op nx 0 sf lf dn dg un (umk un b 1 1 ug 0) (qn + 1) (va_up qt qn b) (qlG qn (nx - wt) wt tk tv ts tn b qt qg) tn tk tv ts ef eg ex eF pf pg px pF)) 0 0 A := by
  refine x_ofWv (cc := cX5_queueLog) (maxL := 5) (by decide) rfl (Nat.le_of_ble_eq_true rfl) ?_
  intro p e s m args below meth c Q hx hb hml hts hown hK hN hP hD hS hret ls hl
  have hl : lv_has ls 5 [(0, .ref (a 0)), (1, .int (nI b))] := hl
  have hown : s.vm.findClass RX5 = some m.cls := hown
  have f53 := hts _ (List.mem_cons_of_mem _ tw_214)
  have in_X5 := (fun q hq => List.mem_cons_of_mem _ (inX5 q hq) : ∀ q ∈ wsX50, q ∈ (Cond.code yX5_queueLog cX5_queueLog 5 none :: TB))
  have f66 := hts _ (List.mem_cons_of_mem _ tw_215)
  have f28 := hts _ (List.mem_cons_of_mem _ tw_209)
  have n205 := hN (.methodLinkNest RX5 205 yX2_append "SegmentLog") (by decide +kernel)
  have ini_X2 := hts _ (List.mem_cons_of_mem _ tw_88)
  have im_yX2_append := hts _ (List.mem_cons_of_mem _ tw_301)
  have se_yX2_append := hts _ (List.mem_cons_of_mem _ tw_15)
  have f209 := hN (.fieldLinkNest RX5 209 "SegmentLog$Queue" "images" "LSegmentLog$Blocks;" "SegmentLog") (by decide +kernel)
  have in_X2 := (fun q hq => List.mem_cons_of_mem _ (inX2 q hq) : ∀ q ∈ wsX20, q ∈ (Cond.code yX5_queueLog cX5_queueLog 5 none :: TB))
  have n212 := hN (.methodLinkNest RX5 212 yX0_putNumber "SegmentLog") (by decide +kernel)
  have ini_X0 := hts _ (List.mem_cons_of_mem _ tw_85)
  have im_yX0_putNumber := hts _ (List.mem_cons_of_mem _ tw_307)
  have se_yX0_putNumber := hts _ (List.mem_cons_of_mem _ tw_16)
  have n222 := hN (.methodLinkNest RX5 222 yX2_seal "SegmentLog") (by decide +kernel)
  have im_yX2_seal := hts _ (List.mem_cons_of_mem _ tw_332)
  have se_yX2_seal := hts _ (List.mem_cons_of_mem _ tw_22)
  have f21 := hts _ (List.mem_cons_of_mem _ tw_208)
  have n225 := hN (.methodLinkNest RX5 225 yX4_mark "SegmentLog") (by decide +kernel)
  have ini_X4 := hts _ (List.mem_cons_of_mem _ tw_86)
  have im_yX4_mark := hts _ (List.mem_cons_of_mem _ tw_130)
  have se_yX4_mark := hts _ (List.mem_cons_of_mem _ tw_1)
  have f35 := hts _ (List.mem_cons_of_mem _ tw_210)
  have n216 := hN (.methodLinkNest RX5 216 yX3_withSequence "SegmentLog") (by decide +kernel)
  have ini_X3 := hts _ (List.mem_cons_of_mem _ tw_89)
  have im_yX3_withSequence := hts _ (List.mem_cons_of_mem _ tw_312)
  have se_yX3_withSequence := hts _ (List.mem_cons_of_mem _ tw_17)
  refine lv_aload_n hx hb dX5_queueLog_0 rfl (lv_at hl 0 rfl) ?_
  refine va_get (D := (dC, dI)) (ci := 5) (v := .int (nI nx)) (C := RX5) (T := TX5) (N := 11) hx hb hts in_X5 hown hK hP 0 rfl rfl 7 (by decide) f53 (fun _ h9 => h9) rfl dX5_queueLog_1 ?_
  refine lv_aload_n hx hb dX5_queueLog_4 rfl (lv_at hl 0 rfl) ?_
  refine va_get (D := (dC, dI)) (ci := 5) (v := .int (nI wt)) (C := RX5) (T := TX5) (N := 11) hx hb hts in_X5 hown hK hP 0 rfl rfl 8 (by decide) f66 (fun _ h9 => h9) rfl dX5_queueLog_5 ?_
  refine x_isub hx hb dX5_queueLog_8 (by omega) ?_
  refine lv_istore_n (lv' := [(2, .int (nI (nx - wt))), (0, .ref (a 0)), (1, .int (nI b))]) hx hb dX5_queueLog_9 rfl hl (by decide) rfl (fun ls hl => ?_)
  refine lv_aload_n hx hb dX5_queueLog_10 rfl (lv_at hl 1 rfl) ?_
  refine va_get (D := (dC, dI)) (ci := 5) (v := .ref (a 5)) (C := RX5) (T := TX5) (N := 11) hx hb hts in_X5 hown hK hP 0 rfl rfl 2 (by decide) f28 (fun _ h9 => h9) rfl dX5_queueLog_11 ?_
  refine lv_iload_n hx hb dX5_queueLog_14 rfl (lv_at hl 2 rfl) ?_
  refine lv_iconst (v := nI 1) hx hb dX5_queueLog_15 (by decide) ?_
  refine lv_aload_n hx hb dX5_queueLog_16 rfl (lv_at hl 1 rfl) ?_
  refine va_get (D := (dC, dI)) (ci := 5) (v := .int (nI wt)) (C := RX5) (T := TX5) (N := 11) hx hb hts in_X5 hown hK hP 0 rfl rfl 8 (by decide) f66 (fun _ h9 => h9) rfl dX5_queueLog_17 ?_
  refine x_calli (va_runVN (As := [.int (nI b), .int (nI 1), .int (nI wt)]) (rest := []) ⟨hx, hb, hml, hown, hts⟩ (c_Qu_append (by omega) hqg b 1 wt (by omega) (by omega)) ⟨(va_cnB 3 hts (tbG tw_302) rfl rfl rfl n205 ini_X2 (by decide +kernel) ⟨Nat.le_of_ble_eq_true rfl, Nat.le_of_ble_eq_true rfl⟩), im_yX2_append, se_yX2_append⟩ ⟨x_blind, va_recv hK hP (ci := 2) (q0 := 5) rfl rfl, x_pre hK hP hD hN⟩ rfl rfl hl.1 rfl (lv_room (Nat.le_of_ble_eq_true rfl)) dX5_queueLog_20 ⟨Nat.zero_le _, Nat.zero_le _⟩) hS (fun H locs hP hD hS => ?_)
  have hP : va_P (dC, dI) vwCl (wS a cB cI cL h1 h2 s1 s2 op nx wt sf lf dn dg un ug (qn + 1) (va_up qt qn b) (qap qn qg 1 wt) tn tk tv ts ef eg ex eF pf pg px pF) H := hP
  have hD : va_D A (wS a cB cI cL h1 h2 s1 s2 op nx wt sf lf dn dg un ug (qn + 1) (va_up qt qn b) (qap qn qg 1 wt) tn tk tv ts ef eg ex eF pf pg px pF) := hD
  refine lv_istore_n (lv' := [(3, .int (nI qn)), (2, .int (nI (nx - wt))), (0, .ref (a 0)), (1, .int (nI b))]) hx hb dX5_queueLog_23 rfl hl (by decide) rfl (fun ls hl => ?_)
  refine lv_aload_n hx hb dX5_queueLog_24 rfl (lv_at hl 2 rfl) ?_
  refine va_get (D := (dC, dI)) (ci := 5) (v := .ref (a 5)) (C := RX5) (T := TX5) (N := 11) hx hb hts in_X5 hown hK hP 0 rfl rfl 2 (by decide) f28 (fun _ h9 => h9) rfl dX5_queueLog_25 ?_
  refine va_getN (D := (dC, dI)) (ci := 2) (v := .ref (a 6)) (C := RX2) (T := TX2) (N := 3) hx hb hts in_X2 hown hK hP 5 rfl rfl 0 (by decide) (va_Nw.use (A := args) rfl f209) (fun _ h9 => h9) rfl dX5_queueLog_28 ?_
  refine lv_iload_n hx hb dX5_queueLog_31 rfl (lv_at hl 0 rfl) ?_
  refine lv_iconst (v := nI 2) hx hb dX5_queueLog_32 (by decide) ?_
  refine lv_bipush (v := nI 6) hx hb dX5_queueLog_33 (by decide) ?_
  refine lv_iload_n hx hb dX5_queueLog_35 rfl (lv_at hl 1 rfl) ?_
  refine lv_i2l (v := lN (nx - wt)) hx hb dX5_queueLog_36 (nI_l (by omega)) ?_
  refine x_callv (va_runVN (As := [.int (nI qn), .int (nI 2), .int (nI 6), .long (lN (nx - wt))]) (rest := []) ⟨hx, hb, hml, hown, hts⟩ (c_Bl_putNumber (show okB (fun qg' => wS a cB cI cL h1 h2 s1 s2 op nx wt sf lf dn dg un ug (qn + 1) (va_up qt qn b) qg' tn tk tv ts ef eg ex eF pf pg px pF) 6 7 (a 6) (a 7) cB 64 from ⟨fun _ => rfl, fun _ => rfl, fun _ _ => rfl⟩) (tyS_B cB cI cL) (by omega) (qap qn qg 1 wt) (qap_lt hqg) qn 2 6 (nx - wt) (by omega) (by omega) (by omega)) ⟨(va_cnB 4 hts (tbG tw_308) rfl rfl rfl n212 ini_X0 (by decide +kernel) ⟨Nat.le_of_ble_eq_true rfl, Nat.le_of_ble_eq_true rfl⟩), im_yX0_putNumber, se_yX0_putNumber⟩ ⟨x_blind, va_recv hK hP (ci := 0) (q0 := 6) rfl rfl, x_pre hK hP hD hN⟩ rfl rfl hl.1 rfl (lv_room (Nat.le_of_ble_eq_true rfl)) dX5_queueLog_37 ⟨Nat.zero_le _, Nat.zero_le _⟩) hS (fun H locs hP hD hS => ?_)
  have hP : va_P (dC, dI) vwCl (wS a cB cI cL h1 h2 s1 s2 op nx wt sf lf dn dg un ug (qn + 1) (va_up qt qn b) (pnum 64 qn 6 (qap qn qg 1 wt) 2 (nx - wt)) tn tk tv ts ef eg ex eF pf pg px pF) H := hP
  have hD : va_D A (wS a cB cI cL h1 h2 s1 s2 op nx wt sf lf dn dg un ug (qn + 1) (va_up qt qn b) (pnum 64 qn 6 (qap qn qg 1 wt) 2 (nx - wt)) tn tk tv ts ef eg ex eF pf pg px pF) := hD
  refine lv_iconst (v := nI 0) hx hb dX5_queueLog_40 (by decide) ?_
  refine lv_istore (lv' := [(4, .int (nI 0)), (3, .int (nI qn)), (2, .int (nI (nx - wt))), (0, .ref (a 0)), (1, .int (nI b))]) hx hb dX5_queueLog_41 hl (by decide) rfl (fun ls hl => ?_)
  have L43 : ∀ (fu43 : Nat) (i : Nat) (g' : Nat → Nat), (wt - i < fu43) → (i ≤ wt) → (∀ q, g' q < 256) → (qlg qn (nx - wt) tk tv ts tn (wt - i) i g' = qlg qn (nx - wt) tk tv ts tn wt 0 (pnum 64 qn 6 (qap qn qg 1 wt) 2 (nx - wt))) → ∀ (H : Heap) (locs : List Loc), va_P (dC, dI) vwCl (wS a cB cI cL h1 h2 s1 s2 op nx wt sf lf dn dg un ug (qn + 1) (va_up qt qn b) g' tn tk tv ts ef eg ex eF pf pg px pF) H → va_D A (wS a cB cI cL h1 h2 s1 s2 op nx wt sf lf dn dg un ug (qn + 1) (va_up qt qn b) g' tn tk tv ts ef eg ex eF pf pg px pF) → va_S A s.heap H locs → ∀ (ls : Array Slot), lv_has ls 5 [(0, .ref (a 0)), (1, .int (nI b)), (2, .int (nI (nx - wt))), (3, .int (nI qn)), (4, .int (nI i))] → W p l e { frames := 4, cells := 0, slots := 0, locals := 97 } s m args below meth c H locs 0 0 Q (F0 m 43 ls []) := by
    intro fu43
    induction fu43 with
    | zero => intro i g' hm; exact absurd hm (Nat.not_lt_zero _)
    | succ fu43 ih43 =>
      intro i g' hm i43_0 i43_1 i43_2 H locs hP hD hS ls hl
      refine lv_iload hx hb dX5_queueLog_43 (lv_at hl 4 rfl) ?_
      refine lv_aload_n hx hb dX5_queueLog_45 rfl (lv_at hl 0 rfl) ?_
      refine va_get (D := (dC, dI)) (ci := 5) (v := .int (nI wt)) (C := RX5) (T := TX5) (N := 11) hx hb hts in_X5 hown hK hP 0 rfl rfl 8 (by decide) f66 (fun _ h9 => h9) rfl dX5_queueLog_46 ?_
      refine x_icmp_ge (tgt := 76) hx hb dX5_queueLog_49 (by decide) (by omega) (by omega) (fun c49 => ?_) (fun c49 => ?_)
      · refine lv_aload_n hx hb dX5_queueLog_76 rfl (lv_at hl 0 rfl) ?_
        refine va_get (D := (dC, dI)) (ci := 5) (v := .ref (a 5)) (C := RX5) (T := TX5) (N := 11) hx hb hts in_X5 hown hK hP 0 rfl rfl 2 (by decide) f28 (fun _ h9 => h9) rfl dX5_queueLog_77 ?_
        refine lv_iload_n hx hb dX5_queueLog_80 rfl (lv_at hl 3 rfl) ?_
        refine x_callv (va_runVN (As := [.int (nI qn)]) (rest := []) ⟨hx, hb, hml, hown, hts⟩ (c_Qu_seal (by omega) (va_up_lt hqt (by omega)) i43_1 qn (by omega)) ⟨(va_cnB 1 hts (tbG tw_333) rfl rfl rfl n222 ini_X2 (by decide +kernel) ⟨Nat.le_of_ble_eq_true rfl, Nat.le_of_ble_eq_true rfl⟩), im_yX2_seal, se_yX2_seal⟩ ⟨x_blind, va_recv hK hP (ci := 2) (q0 := 5) rfl rfl, x_pre hK hP hD hN⟩ rfl rfl hl.1 rfl (lv_room (Nat.le_of_ble_eq_true rfl)) dX5_queueLog_81 ⟨Nat.zero_le _, Nat.zero_le _⟩) hS (fun H locs hP hD hS => ?_)
        have hP : va_P (dC, dI) vwCl (wS a cB cI cL h1 h2 s1 s2 op nx wt sf lf dn dg un ug (qn + 1) (va_up qt qn b) (qsl qn (va_up qt qn b) g') tn tk tv ts ef eg ex eF pf pg px pF) H := hP
        have hD : va_D A (wS a cB cI cL h1 h2 s1 s2 op nx wt sf lf dn dg un ug (qn + 1) (va_up qt qn b) (qsl qn (va_up qt qn b) g') tn tk tv ts ef eg ex eF pf pg px pF) := hD
        refine lv_aload_n hx hb dX5_queueLog_84 rfl (lv_at hl 0 rfl) ?_
        refine va_get (D := (dC, dI)) (ci := 5) (v := .ref (a 3)) (C := RX5) (T := TX5) (N := 11) hx hb hts in_X5 hown hK hP 0 rfl rfl 1 (by decide) f21 (fun _ h9 => h9) rfl dX5_queueLog_85 ?_
        refine lv_iload_n hx hb dX5_queueLog_88 rfl (lv_at hl 1 rfl) ?_
        refine lv_iconst (v := nI 1) hx hb dX5_queueLog_89 (by decide) ?_
        refine lv_iconst (v := nI 1) hx hb dX5_queueLog_90 (by decide) ?_
        refine x_callv (va_runVN (As := [.int (nI b), .int (nI 1), .int (nI 1)]) (rest := []) ⟨hx, hb, hml, hown, hts⟩ (c_Us_mark (show okU (fun ug' => wS a cB cI cL h1 h2 s1 s2 op nx wt sf lf dn dg un ug' (qn + 1) (va_up qt qn b) (qsl qn (va_up qt qn b) g') tn tk tv ts ef eg ex eF pf pg px pF) 3 4 (a 3) (a 4) cI un from ⟨fun _ => rfl, fun _ => rfl, fun _ _ => rfl⟩) (tyS_I cB cI cL) (by omega) ug hug b 1 1 (by omega) (by omega)) ⟨(va_cnB 3 hts (tbG tw_131) rfl rfl rfl n225 ini_X4 (by decide +kernel) ⟨Nat.le_of_ble_eq_true rfl, Nat.le_of_ble_eq_true rfl⟩), im_yX4_mark, se_yX4_mark⟩ ⟨x_blind, va_recv hK hP (ci := 4) (q0 := 3) rfl rfl, x_pre hK hP hD hN⟩ rfl rfl hl.1 rfl (lv_room (Nat.le_of_ble_eq_true rfl)) dX5_queueLog_91 ⟨Nat.zero_le _, Nat.zero_le _⟩) hS (fun H locs hP hD hS => ?_)
        have hP : va_P (dC, dI) vwCl (wS a cB cI cL h1 h2 s1 s2 op nx wt sf lf dn dg un (umk un b 1 1 ug 0) (qn + 1) (va_up qt qn b) (qsl qn (va_up qt qn b) g') tn tk tv ts ef eg ex eF pf pg px pF) H := hP
        have hD : va_D A (wS a cB cI cL h1 h2 s1 s2 op nx wt sf lf dn dg un (umk un b 1 1 ug 0) (qn + 1) (va_up qt qn b) (qsl qn (va_up qt qn b) g') tn tk tv ts ef eg ex eF pf pg px pF) := hD
        refine lv_aload_n hx hb dX5_queueLog_94 rfl (lv_at hl 0 rfl) ?_
        refine lv_iconst (v := nI 0) hx hb dX5_queueLog_95 (by decide) ?_
        refine va_put (D := (dC, dI)) (ci := 5) (v := .int (nI 0)) (ty := .int) (C := RX5) (T := TX5) (N := 11) hx hb hts in_X5 tyX5 tyX5_ok nmX5 hown hK hP hD hS 0 rfl rfl 8 (by decide) f66 (fun _ h9 => h9) rfl (by decide +kernel) rfl rfl (Nat.le_of_ble_eq_true rfl) dX5_queueLog_96 (fun H locs hP hD hS => ?_)
        have hP : va_P (dC, dI) vwCl (wS a cB cI cL h1 h2 s1 s2 op nx 0 sf lf dn dg un (umk un b 1 1 ug 0) (qn + 1) (va_up qt qn b) (qsl qn (va_up qt qn b) g') tn tk tv ts ef eg ex eF pf pg px pF) H := hP
        have hD : va_D A (wS a cB cI cL h1 h2 s1 s2 op nx 0 sf lf dn dg un (umk un b 1 1 ug 0) (qn + 1) (va_up qt qn b) (qsl qn (va_up qt qn b) g') tn tk tv ts ef eg ex eF pf pg px pF) := hD
        have e1 : (qsl qn (va_up qt qn b) g') = (qlG qn (nx - wt) wt tk tv ts tn b qt qg) := by have h := i43_2; rw [show wt - i = 0 by omega, qlg] at h; rw [h]; rfl
        have h9 : wS a cB cI cL h1 h2 s1 s2 op nx 0 sf lf dn dg un (umk un b 1 1 ug 0) (qn + 1) (va_up qt qn b) (qsl qn (va_up qt qn b) g') tn tk tv ts ef eg ex eF pf pg px pF = wS a cB cI cL h1 h2 s1 s2 op nx 0 sf lf dn dg un (umk un b 1 1 ug 0) (qn + 1) (va_up qt qn b) (qlG qn (nx - wt) wt tk tv ts tn b qt qg) tn tk tv ts ef eg ex eF pf pg px pF := by rw [← e1]
        have hP := x_wP h9 hP
        have hD := x_wD h9 hD
        exact hret dX5_queueLog_99 hP hD hS
      · refine lv_aload_n hx hb dX5_queueLog_52 rfl (lv_at hl 0 rfl) ?_
        refine lv_iload_n hx hb dX5_queueLog_53 rfl (lv_at hl 3 rfl) ?_
        refine lv_iload hx hb dX5_queueLog_54 (lv_at hl 4 rfl) ?_
        refine lv_aload_n hx hb dX5_queueLog_56 rfl (lv_at hl 0 rfl) ?_
        refine va_get (D := (dC, dI)) (ci := 5) (v := .ref (a 9)) (C := RX5) (T := TX5) (N := 11) hx hb hts in_X5 hown hK hP 0 rfl rfl 3 (by decide) f35 (fun _ h9 => h9) rfl dX5_queueLog_57 ?_
        refine lv_iload_n hx hb dX5_queueLog_60 rfl (lv_at hl 2 rfl) ?_
        refine lv_iload hx hb dX5_queueLog_61 (lv_at hl 4 rfl) ?_
        refine x_iadd hx hb dX5_queueLog_63 ?_
        refine x_calli (va_runVN (As := [.int (nI ((nx - wt) + i))]) (rest := [.int (nI i), .int (nI qn), .ref (a 0)]) ⟨hx, hb, hml, hown, hts⟩ (c_Ta_withSequence (by omega) hs ((nx - wt) + i) (by omega)) ⟨(va_cnB 1 hts (tbG tw_313) rfl rfl rfl n216 ini_X3 (by decide +kernel) ⟨Nat.le_of_ble_eq_true rfl, Nat.le_of_ble_eq_true rfl⟩), im_yX3_withSequence, se_yX3_withSequence⟩ ⟨x_blind, va_recv hK hP (ci := 3) (q0 := 9) rfl rfl, x_pre hK hP hD hN⟩ rfl rfl hl.1 rfl (lv_room (Nat.le_of_ble_eq_true rfl)) dX5_queueLog_64 ⟨Nat.zero_le _, Nat.zero_le _⟩) hS (fun H locs hP hD hS => ?_)
        have hP : va_P (dC, dI) vwCl (wS a cB cI cL h1 h2 s1 s2 op nx wt sf lf dn dg un ug (qn + 1) (va_up qt qn b) g' tn tk tv ts ef eg ex eF pf pg px pF) H := hP
        have hD : va_D A (wS a cB cI cL h1 h2 s1 s2 op nx wt sf lf dn dg un ug (qn + 1) (va_up qt qn b) g' tn tk tv ts ef eg ex eF pf pg px pF) := hD
        obtain ⟨ix, hix⟩ := hfd i (by omega)
        have hixl := twi_lt hix
        refine x_top (y := nI ix) (by rw [hix]; rfl) ?_
        refine x_callv (va_runV (As := [.int (nI qn), .int (nI i), .int (nI ix)]) (rest := []) ⟨hx, hb, hml, hown, hts⟩ (c_SL_queueRecord (by omega) i43_1 qn i ix (by omega) (by omega) (by omega)) (cwV 3 hts (tbV tw_314 tw_316 tw_18 tw_84 tw_317) rfl rfl rfl (by decide +kernel) ⟨Nat.le_of_ble_eq_true rfl, Nat.le_of_ble_eq_true rfl⟩) ⟨x_blind, va_recv hK hP (ci := 5) (q0 := 0) rfl rfl, x_pre hK hP hD hN⟩ rfl rfl hl.1 rfl (lv_room (Nat.le_of_ble_eq_true rfl)) dX5_queueLog_67 ⟨Nat.zero_le _, Nat.zero_le _⟩) hS (fun H locs hP hD hS => ?_)
        have hP : va_P (dC, dI) vwCl (wS a cB cI cL h1 h2 s1 s2 op nx wt sf lf dn dg un ug (qn + 1) (va_up qt qn b) (qrec qn i (tk ix) (tv ix) g') tn tk tv ts ef eg ex eF pf pg px pF) H := hP
        have hD : va_D A (wS a cB cI cL h1 h2 s1 s2 op nx wt sf lf dn dg un ug (qn + 1) (va_up qt qn b) (qrec qn i (tk ix) (tv ix) g') tn tk tv ts ef eg ex eF pf pg px pF) := hD
        refine lv_iinc (v := nI (i + 1)) (lv' := [(4, .int (nI (i + 1))), (0, .ref (a 0)), (1, .int (nI b)), (2, .int (nI (nx - wt))), (3, .int (nI qn))]) hx hb dX5_queueLog_70 hl (k := 4) rfl (x_inc _) (by decide) rfl (fun ls hl => ?_)
        refine lv_goto (tgt := 43) hx hb dX5_queueLog_73 (by decide) ?_
        exact ih43 (i + 1) (qrec qn i (tk ix) (tv ix) g') (by omega) (by omega) (by exact qrec_lt i43_1) (by have h := i43_2; rw [show wt - i = (wt - (i + 1)) + 1 by omega, qlg, hix] at h; exact h) _ _ hP hD hS ls (lv_sub hl [1, 2, 3, 4, 0] rfl)
  exact L43 (wt - 0 + 1) 0 (pnum 64 qn 6 (qap qn qg 1 wt) 2 (nx - wt)) (by omega) (by omega) (by exact pnum_lt (qap_lt hqg)) (by rfl) _ _ hP hD hS ls (lv_sub hl [3, 4, 2, 1, 0] rfl)

set_option maxHeartbeats 4000000 in
set_option maxRecDepth 100000 in
theorem c_SL_planHead {l : Launch} {dC : Nat → ClassId} {dI : Nat → Nat → Nat} {A : Nat → Prop} {a : Nat → Nat} {cB cI cL : ClassId} {h1 h2 s1 s2 : Nat} {op : Bool} {nx wt sf lf dn : Nat} {dg : Nat → Nat} {un : Nat} {ug : Nat → Nat} {qn : Nat} {qt qg : Nat → Nat} {tn : Nat} {tk tv : Nat → Int64} {ts : Nat → Nat} {ef eg ex : Nat} {eF : Nat → Nat} {pf pg px : Nat} {pF : Nat → Nat} (heF : ∀ j, eF j < 1048576) (hpF : ∀ j, pF j < 1048576) (hef : ef ≤ 5) (hnx : nx < 2 ^ 30) (heg : eg < 2 ^ 30) (hlf : lf < 2 ^ 18) (mg : Bool) (y1 y2 y3 : Nat) (hy1 : y1 < 1048576) (hy2 : y2 < 1048576) (hy3 : y3 < 1048576) (hmg : mg = false → ef ≤ 4) : Met l yX5_planHead (Cond.code yX5_planHead cX5_planHead 5 none :: TB) { frames := 2, cells := 0, slots := 0, locals := 47 } (xPre Nst (dC, dI) A (tyS cB cI cL) (wS a cB cI cL h1 h2 s1 s2 op nx wt sf lf dn dg un ug qn qt qg tn tk tv ts ef eg ex eF pf pg px pF) [.ref (a 0), .int (bI mg), .int (nI y1), .int (nI y2), .int (nI y3)]) (xQv (dC, dI) A (wS a cB cI cL h1 h2 s1 s2 op nx wt sf lf dn dg un ug qn qt qg tn tk tv ts ef eg ex eF ((plh mg ef eF pF lf y1 y2 y3).1) (eg + 1) nx ((plh mg ef eF pF lf y1 y2 y3).2))) 0 0 A := by
  refine x_ofWv (cc := cX5_planHead) (maxL := 5) (by decide) rfl (Nat.le_of_ble_eq_true rfl) ?_
  intro p e s m args below meth c Q hx hb hml hts hown hK hN hP hD hS hret ls hl
  have hl : lv_has ls 5 [(0, .ref (a 0)), (1, .int (bI mg)), (2, .int (nI y1)), (3, .int (nI y2)), (4, .int (nI y3))] := hl
  have hown : s.vm.findClass RX5 = some m.cls := hown
  have f46 := hts _ (List.mem_cons_of_mem _ tw_212)
  have in_X5 := (fun q hq => List.mem_cons_of_mem _ (inX5 q hq) : ∀ q ∈ wsX50, q ∈ (Cond.code yX5_planHead cX5_planHead 5 none :: TB))
  have n60 := hN (.methodLinkNest RX5 60 yX1_clear "SegmentLog") (by decide +kernel)
  have ini_X1 := hts _ (List.mem_cons_of_mem _ tw_90)
  have im_yX1_clear := hts _ (List.mem_cons_of_mem _ tw_189)
  have se_yX1_clear := hts _ (List.mem_cons_of_mem _ tw_2)
  have f190 := hts _ (List.mem_cons_of_mem _ tw_217)
  have n232 := hN (.methodLinkNest RX5 232 yX1_append "SegmentLog") (by decide +kernel)
  have im_yX1_append := hts _ (List.mem_cons_of_mem _ tw_390)
  have se_yX1_append := hts _ (List.mem_cons_of_mem _ tw_31)
  have f42 := hts _ (List.mem_cons_of_mem _ tw_211)
  have f118 := hN (.fieldLinkNest RX5 118 "SegmentLog$Head" "generation" "I" "SegmentLog") (by decide +kernel)
  have in_X1 := (fun q hq => List.mem_cons_of_mem _ (inX1 q hq) : ∀ q ∈ wsX10, q ∈ (Cond.code yX5_planHead cX5_planHead 5 none :: TB))
  have f53 := hts _ (List.mem_cons_of_mem _ tw_214)
  have f90 := hN (.fieldLinkNest RX5 90 "SegmentLog$Head" "next" "I" "SegmentLog") (by decide +kernel)
  have n228 := hN (.methodLinkNest RX5 228 yX1_appendAll "SegmentLog") (by decide +kernel)
  have im_yX1_appendAll := hts _ (List.mem_cons_of_mem _ tw_382)
  have se_yX1_appendAll := hts _ (List.mem_cons_of_mem _ tw_29)
  refine lv_aload_n hx hb dX5_planHead_0 rfl (lv_at hl 0 rfl) ?_
  refine va_get (D := (dC, dI)) (ci := 5) (v := .ref s1) (C := RX5) (T := TX5) (N := 11) hx hb hts in_X5 hown hK hP 0 rfl rfl 5 (by decide) f46 (fun _ h9 => h9) rfl dX5_planHead_1 ?_
  refine x_callv (va_runVN (As := []) (rest := []) ⟨hx, hb, hml, hown, hts⟩ (c_He_clear (show okH (fun pf' pg' px' pF' => wS a cB cI cL h1 h2 s1 s2 op nx wt sf lf dn dg un ug qn qt qg tn tk tv ts ef eg ex eF pf' pg' px' pF') 15 16 s1 s2 cI from ⟨fun _ _ _ _ => rfl, fun _ _ _ _ => rfl, fun _ _ _ _ _ _ _ => rfl, fun _ _ _ _ _ => rfl⟩) (tyS_I cB cI cL) pf pg px pF) ⟨(va_cnB 0 hts (tbG tw_190) rfl rfl rfl n60 ini_X1 (by decide +kernel) ⟨Nat.le_of_ble_eq_true rfl, Nat.le_of_ble_eq_true rfl⟩), im_yX1_clear, se_yX1_clear⟩ ⟨x_blind, va_recv hK hP (ci := 1) (q0 := 15) rfl rfl, x_pre hK hP hD hN⟩ rfl rfl hl.1 rfl (lv_room (Nat.le_of_ble_eq_true rfl)) dX5_planHead_4 ⟨Nat.zero_le _, Nat.zero_le _⟩) hS (fun H locs hP hD hS => ?_)
  have hP : va_P (dC, dI) vwCl (wS a cB cI cL h1 h2 s1 s2 op nx wt sf lf dn dg un ug qn qt qg tn tk tv ts ef eg ex eF 0 0 1 pF) H := hP
  have hD : va_D A (wS a cB cI cL h1 h2 s1 s2 op nx wt sf lf dn dg un ug qn qt qg tn tk tv ts ef eg ex eF 0 0 1 pF) := hD
  refine lv_iload_n hx hb dX5_planHead_7 rfl (lv_at hl 1 rfl) ?_
  refine x_if_ne_b (tgt := 22) hx hb dX5_planHead_8 (by decide) (fun c8 => ?_) (fun c8 => ?_)
  · refine lv_aload_n hx hb dX5_planHead_22 rfl (lv_at hl 0 rfl) ?_
    refine va_get (D := (dC, dI)) (ci := 5) (v := .ref s1) (C := RX5) (T := TX5) (N := 11) hx hb hts in_X5 hown hK hP 0 rfl rfl 5 (by decide) f46 (fun _ h9 => h9) rfl dX5_planHead_23 ?_
    refine lv_aload_n hx hb dX5_planHead_26 rfl (lv_at hl 0 rfl) ?_
    refine va_get (D := (dC, dI)) (ci := 5) (v := .int (nI lf)) (C := RX5) (T := TX5) (N := 11) hx hb hts in_X5 hown hK hP 0 rfl rfl 10 (by decide) f190 (fun _ h9 => h9) rfl dX5_planHead_27 ?_
    refine lv_iconst (v := nI 1) hx hb dX5_planHead_30 (by decide) ?_
    refine x_iadd hx hb dX5_planHead_31 ?_
    refine lv_iload_n hx hb dX5_planHead_32 rfl (lv_at hl 2 rfl) ?_
    refine lv_iload_n hx hb dX5_planHead_33 rfl (lv_at hl 3 rfl) ?_
    refine lv_iload hx hb dX5_planHead_34 (lv_at hl 4 rfl) ?_
    refine x_callv (va_runVN (As := [.int (nI (lf + 1)), .int (nI y1), .int (nI y2), .int (nI y3)]) (rest := []) ⟨hx, hb, hml, hown, hts⟩ (c_He_append (show okH (fun pf' pg' px' pF' => wS a cB cI cL h1 h2 s1 s2 op nx wt sf lf dn dg un ug qn qt qg tn tk tv ts ef eg ex eF pf' pg' px' pF') 15 16 s1 s2 cI from ⟨fun _ _ _ _ => rfl, fun _ _ _ _ => rfl, fun _ _ _ _ _ _ _ => rfl, fun _ _ _ _ _ => rfl⟩) (tyS_I cB cI cL) 0 0 1 pF (lf + 1) y1 y2 y3 (by omega)) ⟨(va_cnB 4 hts (tbG tw_391) rfl rfl rfl n232 ini_X1 (by decide +kernel) ⟨Nat.le_of_ble_eq_true rfl, Nat.le_of_ble_eq_true rfl⟩), im_yX1_append, se_yX1_append⟩ ⟨x_blind, va_recv hK hP (ci := 1) (q0 := 15) rfl rfl, x_pre hK hP hD hN⟩ rfl rfl hl.1 rfl (lv_room (Nat.le_of_ble_eq_true rfl)) dX5_planHead_36 ⟨Nat.zero_le _, Nat.zero_le _⟩) hS (fun H locs hP hD hS => ?_)
    have hP : va_P (dC, dI) vwCl (wS a cB cI cL h1 h2 s1 s2 op nx wt sf lf dn dg un ug qn qt qg tn tk tv ts ef eg ex eF (0 + 1) 0 1 (hap 0 pF (lf + 1) y1 y2 y3)) H := hP
    have hD : va_D A (wS a cB cI cL h1 h2 s1 s2 op nx wt sf lf dn dg un ug qn qt qg tn tk tv ts ef eg ex eF (0 + 1) 0 1 (hap 0 pF (lf + 1) y1 y2 y3)) := hD
    refine lv_aload_n hx hb dX5_planHead_39 rfl (lv_at hl 0 rfl) ?_
    refine va_get (D := (dC, dI)) (ci := 5) (v := .ref s1) (C := RX5) (T := TX5) (N := 11) hx hb hts in_X5 hown hK hP 0 rfl rfl 5 (by decide) f46 (fun _ h9 => h9) rfl dX5_planHead_40 ?_
    refine lv_aload_n hx hb dX5_planHead_43 rfl (lv_at hl 0 rfl) ?_
    refine va_get (D := (dC, dI)) (ci := 5) (v := .ref h1) (C := RX5) (T := TX5) (N := 11) hx hb hts in_X5 hown hK hP 0 rfl rfl 4 (by decide) f42 (fun _ h9 => h9) rfl dX5_planHead_44 ?_
    refine va_getN (D := (dC, dI)) (ci := 1) (v := .int (nI eg)) (C := RX1) (T := TX1) (N := 4) hx hb hts in_X1 hown hK hP 13 rfl rfl 2 (by decide) (va_Nw.use (A := args) rfl f118) (fun _ h9 => h9) rfl dX5_planHead_47 ?_
    refine lv_iconst (v := nI 1) hx hb dX5_planHead_50 (by decide) ?_
    refine x_iadd hx hb dX5_planHead_51 ?_
    refine va_putN (D := (dC, dI)) (ci := 1) (v := .int (nI (eg + 1))) (ty := .int) (C := RX1) (T := TX1) (N := 4) hx hb hts in_X1 tyX1 tyX1_ok nmX1 hown hK hP hD hS 15 rfl rfl 2 (by decide) (va_Nw.use (A := args) rfl f118) (fun _ h9 => h9) rfl (by decide +kernel) rfl rfl (Nat.le_of_ble_eq_true rfl) dX5_planHead_52 (fun H locs hP hD hS => ?_)
    have hP : va_P (dC, dI) vwCl (wS a cB cI cL h1 h2 s1 s2 op nx wt sf lf dn dg un ug qn qt qg tn tk tv ts ef eg ex eF (0 + 1) (eg + 1) 1 (hap 0 pF (lf + 1) y1 y2 y3)) H := hP
    have hD : va_D A (wS a cB cI cL h1 h2 s1 s2 op nx wt sf lf dn dg un ug qn qt qg tn tk tv ts ef eg ex eF (0 + 1) (eg + 1) 1 (hap 0 pF (lf + 1) y1 y2 y3)) := hD
    refine lv_aload_n hx hb dX5_planHead_55 rfl (lv_at hl 0 rfl) ?_
    refine va_get (D := (dC, dI)) (ci := 5) (v := .ref s1) (C := RX5) (T := TX5) (N := 11) hx hb hts in_X5 hown hK hP 0 rfl rfl 5 (by decide) f46 (fun _ h9 => h9) rfl dX5_planHead_56 ?_
    refine lv_aload_n hx hb dX5_planHead_59 rfl (lv_at hl 0 rfl) ?_
    refine va_get (D := (dC, dI)) (ci := 5) (v := .int (nI nx)) (C := RX5) (T := TX5) (N := 11) hx hb hts in_X5 hown hK hP 0 rfl rfl 7 (by decide) f53 (fun _ h9 => h9) rfl dX5_planHead_60 ?_
    refine va_putN (D := (dC, dI)) (ci := 1) (v := .int (nI nx)) (ty := .int) (C := RX1) (T := TX1) (N := 4) hx hb hts in_X1 tyX1 tyX1_ok nmX1 hown hK hP hD hS 15 rfl rfl 3 (by decide) (va_Nw.use (A := args) rfl f90) (fun _ h9 => h9) rfl (by decide +kernel) rfl rfl (Nat.le_of_ble_eq_true rfl) dX5_planHead_63 (fun H locs hP hD hS => ?_)
    have hP : va_P (dC, dI) vwCl (wS a cB cI cL h1 h2 s1 s2 op nx wt sf lf dn dg un ug qn qt qg tn tk tv ts ef eg ex eF (0 + 1) (eg + 1) nx (hap 0 pF (lf + 1) y1 y2 y3)) H := hP
    have hD : va_D A (wS a cB cI cL h1 h2 s1 s2 op nx wt sf lf dn dg un ug qn qt qg tn tk tv ts ef eg ex eF (0 + 1) (eg + 1) nx (hap 0 pF (lf + 1) y1 y2 y3)) := hD
    have e1 : (0 + 1) = ((plh mg ef eF pF lf y1 y2 y3).1) := by simp [plh, c8]
    have h9 : wS a cB cI cL h1 h2 s1 s2 op nx wt sf lf dn dg un ug qn qt qg tn tk tv ts ef eg ex eF (0 + 1) (eg + 1) nx (hap 0 pF (lf + 1) y1 y2 y3) = wS a cB cI cL h1 h2 s1 s2 op nx wt sf lf dn dg un ug qn qt qg tn tk tv ts ef eg ex eF ((plh mg ef eF pF lf y1 y2 y3).1) (eg + 1) nx (hap 0 pF (lf + 1) y1 y2 y3) := by rw [← e1]
    have hP := x_wP h9 hP
    have hD := x_wD h9 hD
    have e2 : (hap 0 pF (lf + 1) y1 y2 y3) = ((plh mg ef eF pF lf y1 y2 y3).2) := by simp [plh, c8]
    have h9 : wS a cB cI cL h1 h2 s1 s2 op nx wt sf lf dn dg un ug qn qt qg tn tk tv ts ef eg ex eF ((plh mg ef eF pF lf y1 y2 y3).1) (eg + 1) nx (hap 0 pF (lf + 1) y1 y2 y3) = wS a cB cI cL h1 h2 s1 s2 op nx wt sf lf dn dg un ug qn qt qg tn tk tv ts ef eg ex eF ((plh mg ef eF pF lf y1 y2 y3).1) (eg + 1) nx ((plh mg ef eF pF lf y1 y2 y3).2) := by rw [← e2]
    have hP := x_wP h9 hP
    have hD := x_wD h9 hD
    exact hret dX5_planHead_66 hP hD hS
  · have hz4 := hmg c8
    have hz := hal_1 ef eF ef 0 (0, pF)
    have hz : (hal ef eF ef 0 (0, pF)).1 = ef := by rw [hz]; exact Nat.zero_add _
    refine lv_aload_n hx hb dX5_planHead_11 rfl (lv_at hl 0 rfl) ?_
    refine va_get (D := (dC, dI)) (ci := 5) (v := .ref s1) (C := RX5) (T := TX5) (N := 11) hx hb hts in_X5 hown hK hP 0 rfl rfl 5 (by decide) f46 (fun _ h9 => h9) rfl dX5_planHead_12 ?_
    refine lv_aload_n hx hb dX5_planHead_15 rfl (lv_at hl 0 rfl) ?_
    refine va_get (D := (dC, dI)) (ci := 5) (v := .ref h1) (C := RX5) (T := TX5) (N := 11) hx hb hts in_X5 hown hK hP 0 rfl rfl 4 (by decide) f42 (fun _ h9 => h9) rfl dX5_planHead_16 ?_
    refine x_callv (va_runVN (As := [.ref h1]) (rest := []) ⟨hx, hb, hml, hown, hts⟩ (c_He_appendAll heF hpF (by omega)) ⟨(va_cnB 1 hts (tbG tw_383) rfl rfl rfl n228 ini_X1 (by decide +kernel) ⟨Nat.le_of_ble_eq_true rfl, Nat.le_of_ble_eq_true rfl⟩), im_yX1_appendAll, se_yX1_appendAll⟩ ⟨x_blind, va_recv hK hP (ci := 1) (q0 := 15) rfl rfl, x_pre hK hP hD hN⟩ rfl rfl hl.1 rfl (lv_room (Nat.le_of_ble_eq_true rfl)) dX5_planHead_19 ⟨Nat.zero_le _, Nat.zero_le _⟩) hS (fun H locs hP hD hS => ?_)
    have hP : va_P (dC, dI) vwCl (wS a cB cI cL h1 h2 s1 s2 op nx wt sf lf dn dg un ug qn qt qg tn tk tv ts ef eg ex eF ((hal ef eF ef 0 (0, pF)).1) 0 1 ((hal ef eF ef 0 (0, pF)).2)) H := hP
    have hD : va_D A (wS a cB cI cL h1 h2 s1 s2 op nx wt sf lf dn dg un ug qn qt qg tn tk tv ts ef eg ex eF ((hal ef eF ef 0 (0, pF)).1) 0 1 ((hal ef eF ef 0 (0, pF)).2)) := hD
    refine lv_aload_n hx hb dX5_planHead_22 rfl (lv_at hl 0 rfl) ?_
    refine va_get (D := (dC, dI)) (ci := 5) (v := .ref s1) (C := RX5) (T := TX5) (N := 11) hx hb hts in_X5 hown hK hP 0 rfl rfl 5 (by decide) f46 (fun _ h9 => h9) rfl dX5_planHead_23 ?_
    refine lv_aload_n hx hb dX5_planHead_26 rfl (lv_at hl 0 rfl) ?_
    refine va_get (D := (dC, dI)) (ci := 5) (v := .int (nI lf)) (C := RX5) (T := TX5) (N := 11) hx hb hts in_X5 hown hK hP 0 rfl rfl 10 (by decide) f190 (fun _ h9 => h9) rfl dX5_planHead_27 ?_
    refine lv_iconst (v := nI 1) hx hb dX5_planHead_30 (by decide) ?_
    refine x_iadd hx hb dX5_planHead_31 ?_
    refine lv_iload_n hx hb dX5_planHead_32 rfl (lv_at hl 2 rfl) ?_
    refine lv_iload_n hx hb dX5_planHead_33 rfl (lv_at hl 3 rfl) ?_
    refine lv_iload hx hb dX5_planHead_34 (lv_at hl 4 rfl) ?_
    refine x_callv (va_runVN (As := [.int (nI (lf + 1)), .int (nI y1), .int (nI y2), .int (nI y3)]) (rest := []) ⟨hx, hb, hml, hown, hts⟩ (c_He_append (show okH (fun pf' pg' px' pF' => wS a cB cI cL h1 h2 s1 s2 op nx wt sf lf dn dg un ug qn qt qg tn tk tv ts ef eg ex eF pf' pg' px' pF') 15 16 s1 s2 cI from ⟨fun _ _ _ _ => rfl, fun _ _ _ _ => rfl, fun _ _ _ _ _ _ _ => rfl, fun _ _ _ _ _ => rfl⟩) (tyS_I cB cI cL) ((hal ef eF ef 0 (0, pF)).1) 0 1 ((hal ef eF ef 0 (0, pF)).2) (lf + 1) y1 y2 y3 (by omega)) ⟨(va_cnB 4 hts (tbG tw_391) rfl rfl rfl n232 ini_X1 (by decide +kernel) ⟨Nat.le_of_ble_eq_true rfl, Nat.le_of_ble_eq_true rfl⟩), im_yX1_append, se_yX1_append⟩ ⟨x_blind, va_recv hK hP (ci := 1) (q0 := 15) rfl rfl, x_pre hK hP hD hN⟩ rfl rfl hl.1 rfl (lv_room (Nat.le_of_ble_eq_true rfl)) dX5_planHead_36 ⟨Nat.zero_le _, Nat.zero_le _⟩) hS (fun H locs hP hD hS => ?_)
    have hP : va_P (dC, dI) vwCl (wS a cB cI cL h1 h2 s1 s2 op nx wt sf lf dn dg un ug qn qt qg tn tk tv ts ef eg ex eF (((hal ef eF ef 0 (0, pF)).1) + 1) 0 1 (hap ((hal ef eF ef 0 (0, pF)).1) ((hal ef eF ef 0 (0, pF)).2) (lf + 1) y1 y2 y3)) H := hP
    have hD : va_D A (wS a cB cI cL h1 h2 s1 s2 op nx wt sf lf dn dg un ug qn qt qg tn tk tv ts ef eg ex eF (((hal ef eF ef 0 (0, pF)).1) + 1) 0 1 (hap ((hal ef eF ef 0 (0, pF)).1) ((hal ef eF ef 0 (0, pF)).2) (lf + 1) y1 y2 y3)) := hD
    refine lv_aload_n hx hb dX5_planHead_39 rfl (lv_at hl 0 rfl) ?_
    refine va_get (D := (dC, dI)) (ci := 5) (v := .ref s1) (C := RX5) (T := TX5) (N := 11) hx hb hts in_X5 hown hK hP 0 rfl rfl 5 (by decide) f46 (fun _ h9 => h9) rfl dX5_planHead_40 ?_
    refine lv_aload_n hx hb dX5_planHead_43 rfl (lv_at hl 0 rfl) ?_
    refine va_get (D := (dC, dI)) (ci := 5) (v := .ref h1) (C := RX5) (T := TX5) (N := 11) hx hb hts in_X5 hown hK hP 0 rfl rfl 4 (by decide) f42 (fun _ h9 => h9) rfl dX5_planHead_44 ?_
    refine va_getN (D := (dC, dI)) (ci := 1) (v := .int (nI eg)) (C := RX1) (T := TX1) (N := 4) hx hb hts in_X1 hown hK hP 13 rfl rfl 2 (by decide) (va_Nw.use (A := args) rfl f118) (fun _ h9 => h9) rfl dX5_planHead_47 ?_
    refine lv_iconst (v := nI 1) hx hb dX5_planHead_50 (by decide) ?_
    refine x_iadd hx hb dX5_planHead_51 ?_
    refine va_putN (D := (dC, dI)) (ci := 1) (v := .int (nI (eg + 1))) (ty := .int) (C := RX1) (T := TX1) (N := 4) hx hb hts in_X1 tyX1 tyX1_ok nmX1 hown hK hP hD hS 15 rfl rfl 2 (by decide) (va_Nw.use (A := args) rfl f118) (fun _ h9 => h9) rfl (by decide +kernel) rfl rfl (Nat.le_of_ble_eq_true rfl) dX5_planHead_52 (fun H locs hP hD hS => ?_)
    have hP : va_P (dC, dI) vwCl (wS a cB cI cL h1 h2 s1 s2 op nx wt sf lf dn dg un ug qn qt qg tn tk tv ts ef eg ex eF (((hal ef eF ef 0 (0, pF)).1) + 1) (eg + 1) 1 (hap ((hal ef eF ef 0 (0, pF)).1) ((hal ef eF ef 0 (0, pF)).2) (lf + 1) y1 y2 y3)) H := hP
    have hD : va_D A (wS a cB cI cL h1 h2 s1 s2 op nx wt sf lf dn dg un ug qn qt qg tn tk tv ts ef eg ex eF (((hal ef eF ef 0 (0, pF)).1) + 1) (eg + 1) 1 (hap ((hal ef eF ef 0 (0, pF)).1) ((hal ef eF ef 0 (0, pF)).2) (lf + 1) y1 y2 y3)) := hD
    refine lv_aload_n hx hb dX5_planHead_55 rfl (lv_at hl 0 rfl) ?_
    refine va_get (D := (dC, dI)) (ci := 5) (v := .ref s1) (C := RX5) (T := TX5) (N := 11) hx hb hts in_X5 hown hK hP 0 rfl rfl 5 (by decide) f46 (fun _ h9 => h9) rfl dX5_planHead_56 ?_
    refine lv_aload_n hx hb dX5_planHead_59 rfl (lv_at hl 0 rfl) ?_
    refine va_get (D := (dC, dI)) (ci := 5) (v := .int (nI nx)) (C := RX5) (T := TX5) (N := 11) hx hb hts in_X5 hown hK hP 0 rfl rfl 7 (by decide) f53 (fun _ h9 => h9) rfl dX5_planHead_60 ?_
    refine va_putN (D := (dC, dI)) (ci := 1) (v := .int (nI nx)) (ty := .int) (C := RX1) (T := TX1) (N := 4) hx hb hts in_X1 tyX1 tyX1_ok nmX1 hown hK hP hD hS 15 rfl rfl 3 (by decide) (va_Nw.use (A := args) rfl f90) (fun _ h9 => h9) rfl (by decide +kernel) rfl rfl (Nat.le_of_ble_eq_true rfl) dX5_planHead_63 (fun H locs hP hD hS => ?_)
    have hP : va_P (dC, dI) vwCl (wS a cB cI cL h1 h2 s1 s2 op nx wt sf lf dn dg un ug qn qt qg tn tk tv ts ef eg ex eF (((hal ef eF ef 0 (0, pF)).1) + 1) (eg + 1) nx (hap ((hal ef eF ef 0 (0, pF)).1) ((hal ef eF ef 0 (0, pF)).2) (lf + 1) y1 y2 y3)) H := hP
    have hD : va_D A (wS a cB cI cL h1 h2 s1 s2 op nx wt sf lf dn dg un ug qn qt qg tn tk tv ts ef eg ex eF (((hal ef eF ef 0 (0, pF)).1) + 1) (eg + 1) nx (hap ((hal ef eF ef 0 (0, pF)).1) ((hal ef eF ef 0 (0, pF)).2) (lf + 1) y1 y2 y3)) := hD
    have e3 : (((hal ef eF ef 0 (0, pF)).1) + 1) = ((plh mg ef eF pF lf y1 y2 y3).1) := by simp [plh, c8]
    have h9 : wS a cB cI cL h1 h2 s1 s2 op nx wt sf lf dn dg un ug qn qt qg tn tk tv ts ef eg ex eF (((hal ef eF ef 0 (0, pF)).1) + 1) (eg + 1) nx (hap ((hal ef eF ef 0 (0, pF)).1) ((hal ef eF ef 0 (0, pF)).2) (lf + 1) y1 y2 y3) = wS a cB cI cL h1 h2 s1 s2 op nx wt sf lf dn dg un ug qn qt qg tn tk tv ts ef eg ex eF ((plh mg ef eF pF lf y1 y2 y3).1) (eg + 1) nx (hap ((hal ef eF ef 0 (0, pF)).1) ((hal ef eF ef 0 (0, pF)).2) (lf + 1) y1 y2 y3) := by rw [e3]
    have hP := x_wP h9 hP
    have hD := x_wD h9 hD
    have e4 : (hap ((hal ef eF ef 0 (0, pF)).1) ((hal ef eF ef 0 (0, pF)).2) (lf + 1) y1 y2 y3) = ((plh mg ef eF pF lf y1 y2 y3).2) := by simp [plh, c8]
    have h9 : wS a cB cI cL h1 h2 s1 s2 op nx wt sf lf dn dg un ug qn qt qg tn tk tv ts ef eg ex eF ((plh mg ef eF pF lf y1 y2 y3).1) (eg + 1) nx (hap ((hal ef eF ef 0 (0, pF)).1) ((hal ef eF ef 0 (0, pF)).2) (lf + 1) y1 y2 y3) = wS a cB cI cL h1 h2 s1 s2 op nx wt sf lf dn dg un ug qn qt qg tn tk tv ts ef eg ex eF ((plh mg ef eF pF lf y1 y2 y3).1) (eg + 1) nx ((plh mg ef eF pF lf y1 y2 y3).2) := by rw [e4]
    have hP := x_wP h9 hP
    have hD := x_wD h9 hD
    exact hret dX5_planHead_66 hP hD hS

set_option maxHeartbeats 4000000 in
set_option maxRecDepth 100000 in
theorem c_SL_queueFile {l : Launch} {dC : Nat → ClassId} {dI : Nat → Nat → Nat} {A : Nat → Prop} {a : Nat → Nat} {cB cI cL : ClassId} {h1 h2 s1 s2 : Nat} {op : Bool} {nx wt sf lf dn : Nat} {dg : Nat → Nat} {un : Nat} {ug : Nat → Nat} {qn : Nat} {qt qg : Nat → Nat} {tn : Nat} {tk tv : Nat → Int64} {ts : Nat → Nat} {ef eg ex : Nat} {eF : Nat → Nat} {pf pg px : Nat} {pF : Nat → Nat} (hqn : qn ≤ 64) (htn : tn ≤ 192) (hqt : ∀ j, qt j < 64) (hqg : ∀ j, qg j < 256) (hs : ∀ j, ts j < 2 ^ 31) (hpF : ∀ j, pF j < 1048576) (hpf : pf ≤ 5) (mg : Bool) (nb rc fi nu : Nat) (hnb : hfl pf pF (pf - 1) 2 = nb) (hrc : hfl pf pF (pf - 1) 3 = rc) (hfi : hfl pf pF (pf - 1) 1 = fi) (hnu : hfl pf pF (pf - 1) 0 = nu) (hp0 : 0 < pf) (hbk : (rc + 2) / 3 = nb) (hqb : qn + nb ≤ 64) (hfb : fi + nb ≤ 64) (hnu1 : nu < 1048576) : Met l yX5_queueFile (Cond.code yX5_queueFile cX5_queueFile 8 none :: TB) { frames := 4, cells := 0, slots := 0, locals := 97 } (xPre Nst (dC, dI) A (tyS cB cI cL) (wS a cB cI cL h1 h2 s1 s2 op nx wt sf lf dn dg un ug qn qt qg tn tk tv ts ef eg ex eF pf pg px pF) [.ref (a 0), .int (bI mg)]) (xQv (dC, dI) A (wS a cB cI cL h1 h2 s1 s2 op nx wt sf lf dn dg un ug ((qf1 nb rc fi nu nb 0 (qn, qt, qg)).1) ((qf1 nb rc fi nu nb 0 (qn, qt, qg)).2.1) (qf3 qn (qf1 nb rc fi nu nb 0 (qn, qt, qg)).2.1 nb 0 (qf2 mg qn tk tv ts tn 0 0 (qf1 nb rc fi nu nb 0 (qn, qt, qg)).2.2)) tn tk tv ts ef eg ex eF pf pg px pF)) 0 0 A := by
  refine x_ofWv (cc := cX5_queueFile) (maxL := 8) (by decide) rfl (Nat.le_of_ble_eq_true rfl) ?_
  intro p e s m args below meth c Q hx hb hml hts hown hK hN hP hD hS hret ls hl
  have hl : lv_has ls 8 [(0, .ref (a 0)), (1, .int (bI mg))] := hl
  have hown : s.vm.findClass RX5 = some m.cls := hown
  have f46 := hts _ (List.mem_cons_of_mem _ tw_212)
  have in_X5 := (fun q hq => List.mem_cons_of_mem _ (inX5 q hq) : ∀ q ∈ wsX50, q ∈ (Cond.code yX5_queueFile cX5_queueFile 8 none :: TB))
  have f91 := hN (.fieldLinkNest RX5 91 "SegmentLog$Head" "files" "I" "SegmentLog") (by decide +kernel)
  have in_X1 := (fun q hq => List.mem_cons_of_mem _ (inX1 q hq) : ∀ q ∈ wsX10, q ∈ (Cond.code yX5_queueFile cX5_queueFile 8 none :: TB))
  have n157 := hN (.methodLinkNest RX5 157 yX1_field "SegmentLog") (by decide +kernel)
  have ini_X1 := hts _ (List.mem_cons_of_mem _ tw_90)
  have im_yX1_field := hts _ (List.mem_cons_of_mem _ tw_386)
  have se_yX1_field := hts _ (List.mem_cons_of_mem _ tw_30)
  have f28 := hts _ (List.mem_cons_of_mem _ tw_209)
  have f189 := hN (.fieldLinkNest RX5 189 "SegmentLog$Queue" "size" "I" "SegmentLog") (by decide +kernel)
  have in_X2 := (fun q hq => List.mem_cons_of_mem _ (inX2 q hq) : ∀ q ∈ wsX20, q ∈ (Cond.code yX5_queueFile cX5_queueFile 8 none :: TB))
  have f35 := hts _ (List.mem_cons_of_mem _ tw_210)
  have f94 := hN (.fieldLinkNest RX5 94 "SegmentLog$Table" "size" "I" "SegmentLog") (by decide +kernel)
  have in_X3 := (fun q hq => List.mem_cons_of_mem _ (inX3 q hq) : ∀ q ∈ wsX30, q ∈ (Cond.code yX5_queueFile cX5_queueFile 8 none :: TB))
  have n222 := hN (.methodLinkNest RX5 222 yX2_seal "SegmentLog") (by decide +kernel)
  have ini_X2 := hts _ (List.mem_cons_of_mem _ tw_88)
  have im_yX2_seal := hts _ (List.mem_cons_of_mem _ tw_332)
  have se_yX2_seal := hts _ (List.mem_cons_of_mem _ tw_22)
  have n151 := hN (.methodLinkNest RX5 151 yX3_sequence "SegmentLog") (by decide +kernel)
  have ini_X3 := hts _ (List.mem_cons_of_mem _ tw_89)
  have im_yX3_sequence := hts _ (List.mem_cons_of_mem _ tw_404)
  have se_yX3_sequence := hts _ (List.mem_cons_of_mem _ tw_33)
  have n205 := hN (.methodLinkNest RX5 205 yX2_append "SegmentLog") (by decide +kernel)
  have im_yX2_append := hts _ (List.mem_cons_of_mem _ tw_301)
  have se_yX2_append := hts _ (List.mem_cons_of_mem _ tw_15)
  have f209 := hN (.fieldLinkNest RX5 209 "SegmentLog$Queue" "images" "LSegmentLog$Blocks;" "SegmentLog") (by decide +kernel)
  have n212 := hN (.methodLinkNest RX5 212 yX0_putNumber "SegmentLog") (by decide +kernel)
  have ini_X0 := hts _ (List.mem_cons_of_mem _ tw_85)
  have im_yX0_putNumber := hts _ (List.mem_cons_of_mem _ tw_307)
  have se_yX0_putNumber := hts _ (List.mem_cons_of_mem _ tw_16)
  refine lv_aload_n hx hb dX5_queueFile_0 rfl (lv_at hl 0 rfl) ?_
  refine va_get (D := (dC, dI)) (ci := 5) (v := .ref s1) (C := RX5) (T := TX5) (N := 11) hx hb hts in_X5 hown hK hP 0 rfl rfl 5 (by decide) f46 (fun _ h9 => h9) rfl dX5_queueFile_1 ?_
  refine va_getN (D := (dC, dI)) (ci := 1) (v := .int (nI pf)) (C := RX1) (T := TX1) (N := 4) hx hb hts in_X1 hown hK hP 15 rfl rfl 1 (by decide) (va_Nw.use (A := args) rfl f91) (fun _ h9 => h9) rfl dX5_queueFile_4 ?_
  refine lv_iconst (v := nI 1) hx hb dX5_queueFile_7 (by decide) ?_
  refine x_isub hx hb dX5_queueFile_8 (by omega) ?_
  refine lv_istore_n (lv' := [(2, .int (nI (pf - 1))), (0, .ref (a 0)), (1, .int (bI mg))]) hx hb dX5_queueFile_9 rfl hl (by decide) rfl (fun ls hl => ?_)
  refine lv_aload_n hx hb dX5_queueFile_10 rfl (lv_at hl 1 rfl) ?_
  refine va_get (D := (dC, dI)) (ci := 5) (v := .ref s1) (C := RX5) (T := TX5) (N := 11) hx hb hts in_X5 hown hK hP 0 rfl rfl 5 (by decide) f46 (fun _ h9 => h9) rfl dX5_queueFile_11 ?_
  refine lv_iload_n hx hb dX5_queueFile_14 rfl (lv_at hl 0 rfl) ?_
  refine lv_iconst (v := nI 2) hx hb dX5_queueFile_15 (by decide) ?_
  refine x_calli (va_runVN (As := [.int (nI (pf - 1)), .int (nI 2)]) (rest := []) ⟨hx, hb, hml, hown, hts⟩ (c_He_field (show okH (fun pf' pg' px' pF' => wS a cB cI cL h1 h2 s1 s2 op nx wt sf lf dn dg un ug qn qt qg tn tk tv ts ef eg ex eF pf' pg' px' pF') 15 16 s1 s2 cI from ⟨fun _ _ _ _ => rfl, fun _ _ _ _ => rfl, fun _ _ _ _ _ _ _ => rfl, fun _ _ _ _ _ => rfl⟩) (tyS_I cB cI cL) pf pg px pF (pf - 1) 2 (by omega) (by omega) (by omega)) ⟨(va_cnB 2 hts (tbG tw_387) rfl rfl rfl n157 ini_X1 (by decide +kernel) ⟨Nat.le_of_ble_eq_true rfl, Nat.le_of_ble_eq_true rfl⟩), im_yX1_field, se_yX1_field⟩ ⟨x_blind, va_recv hK hP (ci := 1) (q0 := 15) rfl rfl, x_pre hK hP hD hN⟩ rfl rfl hl.1 rfl (lv_room (Nat.le_of_ble_eq_true rfl)) dX5_queueFile_16 ⟨Nat.zero_le _, Nat.zero_le _⟩) hS (fun H locs hP hD hS => ?_)
  have hP : va_P (dC, dI) vwCl (wS a cB cI cL h1 h2 s1 s2 op nx wt sf lf dn dg un ug qn qt qg tn tk tv ts ef eg ex eF pf pg px pF) H := hP
  have hD : va_D A (wS a cB cI cL h1 h2 s1 s2 op nx wt sf lf dn dg un ug qn qt qg tn tk tv ts ef eg ex eF pf pg px pF) := hD
  have hv16 : hfl pf pF (pf - 1) 2 < 1048576 := hfl_lt hpF
  refine x_top (y := nI nb) (by rw [hnb]) ?_
  refine lv_istore_n (lv' := [(3, .int (nI nb)), (2, .int (nI (pf - 1))), (0, .ref (a 0)), (1, .int (bI mg))]) hx hb dX5_queueFile_19 rfl hl (by decide) rfl (fun ls hl => ?_)
  refine lv_aload_n hx hb dX5_queueFile_20 rfl (lv_at hl 2 rfl) ?_
  refine va_get (D := (dC, dI)) (ci := 5) (v := .ref (a 5)) (C := RX5) (T := TX5) (N := 11) hx hb hts in_X5 hown hK hP 0 rfl rfl 2 (by decide) f28 (fun _ h9 => h9) rfl dX5_queueFile_21 ?_
  refine va_getN (D := (dC, dI)) (ci := 2) (v := .int (nI qn)) (C := RX2) (T := TX2) (N := 3) hx hb hts in_X2 hown hK hP 5 rfl rfl 2 (by decide) (va_Nw.use (A := args) rfl f189) (fun _ h9 => h9) rfl dX5_queueFile_24 ?_
  refine lv_istore (lv' := [(4, .int (nI qn)), (3, .int (nI nb)), (2, .int (nI (pf - 1))), (0, .ref (a 0)), (1, .int (bI mg))]) hx hb dX5_queueFile_27 hl (by decide) rfl (fun ls hl => ?_)
  refine lv_iconst (v := nI 0) hx hb dX5_queueFile_29 (by decide) ?_
  refine lv_istore (lv' := [(5, .int (nI 0)), (4, .int (nI qn)), (3, .int (nI nb)), (2, .int (nI (pf - 1))), (0, .ref (a 0)), (1, .int (bI mg))]) hx hb dX5_queueFile_30 hl (by decide) rfl (fun ls hl => ?_)
  have L32 : ∀ (fu32 : Nat) (j : Nat) (Z' : QS), (nb - j < fu32) → (j ≤ nb) → (Z'.1 = qn + j) → (∀ q, Z'.2.1 q < 64) → (∀ q, Z'.2.2 q < 256) → (qf1 nb rc fi nu (nb - j) j Z' = (qf1 nb rc fi nu nb 0 (qn, qt, qg))) → ∀ (H : Heap) (locs : List Loc), va_P (dC, dI) vwCl (wS a cB cI cL h1 h2 s1 s2 op nx wt sf lf dn dg un ug Z'.1 Z'.2.1 Z'.2.2 tn tk tv ts ef eg ex eF pf pg px pF) H → va_D A (wS a cB cI cL h1 h2 s1 s2 op nx wt sf lf dn dg un ug Z'.1 Z'.2.1 Z'.2.2 tn tk tv ts ef eg ex eF pf pg px pF) → va_S A s.heap H locs → ∀ (ls : Array Slot), lv_has ls 8 [(0, .ref (a 0)), (1, .int (bI mg)), (2, .int (nI (pf - 1))), (3, .int (nI nb)), (4, .int (nI qn)), (5, .int (nI j))] → W p l e { frames := 4, cells := 0, slots := 0, locals := 97 } s m args below meth c H locs 0 0 Q (F0 m 32 ls []) := by
    intro fu32
    induction fu32 with
    | zero => intro j Z' hm; exact absurd hm (Nat.not_lt_zero _)
    | succ fu32 ih32 =>
      intro j Z' hm i32_0 i32_1 i32_2 i32_3 i32_4 H locs hP hD hS ls hl
      refine lv_iload hx hb dX5_queueFile_32 (lv_at hl 5 rfl) ?_
      refine lv_iload_n hx hb dX5_queueFile_34 rfl (lv_at hl 3 rfl) ?_
      refine x_icmp_ge (tgt := 142) hx hb dX5_queueFile_35 (by decide) (by omega) (by omega) (fun c35 => ?_) (fun c35 => ?_)
      · have zz := i32_4
        rw [show nb - j = 0 by omega, qf1] at zz
        subst zz
        refine lv_iconst (v := nI 0) hx hb dX5_queueFile_142 (by decide) ?_
        refine lv_istore (lv' := [(5, .int (nI 0)), (0, .ref (a 0)), (1, .int (bI mg)), (2, .int (nI (pf - 1))), (3, .int (nI nb)), (4, .int (nI qn))]) hx hb dX5_queueFile_143 hl (by decide) rfl (fun ls hl => ?_)
        refine lv_iconst (v := nI 0) hx hb dX5_queueFile_145 (by decide) ?_
        refine lv_istore (lv' := [(6, .int (nI 0)), (5, .int (nI 0)), (0, .ref (a 0)), (1, .int (bI mg)), (2, .int (nI (pf - 1))), (3, .int (nI nb)), (4, .int (nI qn))]) hx hb dX5_queueFile_146 hl (by decide) rfl (fun ls hl => ?_)
        have L148 : ∀ (fu148 : Nat) (i : Nat) (d : Nat) (g' : Nat → Nat), (tn - i < fu148) → (i ≤ tn) → (d ≤ i) → (∀ q, g' q < 256) → (qf2 mg qn tk tv ts (tn - i) i d g' = qf2 mg qn tk tv ts tn 0 0 (qf1 nb rc fi nu nb 0 (qn, qt, qg)).2.2) → ∀ (H : Heap) (locs : List Loc), va_P (dC, dI) vwCl (wS a cB cI cL h1 h2 s1 s2 op nx wt sf lf dn dg un ug ((qf1 nb rc fi nu nb 0 (qn, qt, qg)).1) ((qf1 nb rc fi nu nb 0 (qn, qt, qg)).2.1) g' tn tk tv ts ef eg ex eF pf pg px pF) H → va_D A (wS a cB cI cL h1 h2 s1 s2 op nx wt sf lf dn dg un ug ((qf1 nb rc fi nu nb 0 (qn, qt, qg)).1) ((qf1 nb rc fi nu nb 0 (qn, qt, qg)).2.1) g' tn tk tv ts ef eg ex eF pf pg px pF) → va_S A s.heap H locs → ∀ (ls : Array Slot), lv_has ls 8 [(0, .ref (a 0)), (1, .int (bI mg)), (2, .int (nI (pf - 1))), (3, .int (nI nb)), (4, .int (nI qn)), (5, .int (nI d)), (6, .int (nI i))] → W p l e { frames := 4, cells := 0, slots := 0, locals := 97 } s m args below meth c H locs 0 0 Q (F0 m 148 ls []) := by
          intro fu148
          induction fu148 with
          | zero => intro i d g' hm; exact absurd hm (Nat.not_lt_zero _)
          | succ fu148 ih148 =>
            intro i d g' hm i148_0 i148_1 i148_2 i148_3 H locs hP hD hS ls hl
            have hsi := hs i
            refine lv_iload hx hb dX5_queueFile_148 (lv_at hl 6 rfl) ?_
            refine lv_aload_n hx hb dX5_queueFile_150 rfl (lv_at hl 0 rfl) ?_
            refine va_get (D := (dC, dI)) (ci := 5) (v := .ref (a 9)) (C := RX5) (T := TX5) (N := 11) hx hb hts in_X5 hown hK hP 0 rfl rfl 3 (by decide) f35 (fun _ h9 => h9) rfl dX5_queueFile_151 ?_
            refine va_getN (D := (dC, dI)) (ci := 3) (v := .int (nI tn)) (C := RX3) (T := TX3) (N := 4) hx hb hts in_X3 hown hK hP 9 rfl rfl 3 (by decide) (va_Nw.use (A := args) rfl f94) (fun _ h9 => h9) rfl dX5_queueFile_154 ?_
            refine x_icmp_ge (tgt := 202) hx hb dX5_queueFile_157 (by decide) (by omega) (by omega) (fun c157 => ?_) (fun c157 => ?_)
            · refine lv_iconst (v := nI 0) hx hb dX5_queueFile_202 (by decide) ?_
              refine lv_istore (lv' := [(6, .int (nI 0)), (0, .ref (a 0)), (1, .int (bI mg)), (2, .int (nI (pf - 1))), (3, .int (nI nb)), (4, .int (nI qn)), (5, .int (nI d))]) hx hb dX5_queueFile_203 hl (by decide) rfl (fun ls hl => ?_)
              have L205 : ∀ (fu205 : Nat) (j2 : Nat) (g2 : Nat → Nat), (nb - j2 < fu205) → (j2 ≤ nb) → (∀ q, g2 q < 256) → (qf3 qn (qf1 nb rc fi nu nb 0 (qn, qt, qg)).2.1 (nb - j2) j2 g2 = qf3 qn (qf1 nb rc fi nu nb 0 (qn, qt, qg)).2.1 nb 0 (qf2 mg qn tk tv ts tn 0 0 (qf1 nb rc fi nu nb 0 (qn, qt, qg)).2.2)) → ∀ (H : Heap) (locs : List Loc), va_P (dC, dI) vwCl (wS a cB cI cL h1 h2 s1 s2 op nx wt sf lf dn dg un ug ((qf1 nb rc fi nu nb 0 (qn, qt, qg)).1) ((qf1 nb rc fi nu nb 0 (qn, qt, qg)).2.1) g2 tn tk tv ts ef eg ex eF pf pg px pF) H → va_D A (wS a cB cI cL h1 h2 s1 s2 op nx wt sf lf dn dg un ug ((qf1 nb rc fi nu nb 0 (qn, qt, qg)).1) ((qf1 nb rc fi nu nb 0 (qn, qt, qg)).2.1) g2 tn tk tv ts ef eg ex eF pf pg px pF) → va_S A s.heap H locs → ∀ (ls : Array Slot), lv_has ls 8 [(0, .ref (a 0)), (1, .int (bI mg)), (2, .int (nI (pf - 1))), (3, .int (nI nb)), (4, .int (nI qn)), (5, .int (nI d)), (6, .int (nI j2))] → W p l e { frames := 4, cells := 0, slots := 0, locals := 97 } s m args below meth c H locs 0 0 Q (F0 m 205 ls []) := by
                intro fu205
                induction fu205 with
                | zero => intro j2 g2 hm; exact absurd hm (Nat.not_lt_zero _)
                | succ fu205 ih205 =>
                  intro j2 g2 hm i205_0 i205_1 i205_2 H locs hP hD hS ls hl
                  refine lv_iload hx hb dX5_queueFile_205 (lv_at hl 6 rfl) ?_
                  refine lv_iload_n hx hb dX5_queueFile_207 rfl (lv_at hl 3 rfl) ?_
                  refine x_icmp_ge (tgt := 229) hx hb dX5_queueFile_208 (by decide) (by omega) (by omega) (fun c208 => ?_) (fun c208 => ?_)
                  · have e1 : g2 = (qf3 qn (qf1 nb rc fi nu nb 0 (qn, qt, qg)).2.1 nb 0 (qf2 mg qn tk tv ts tn 0 0 (qf1 nb rc fi nu nb 0 (qn, qt, qg)).2.2)) := by have h := i205_2; rw [show nb - j2 = 0 by omega, qf3] at h; exact h
                    have h9 : wS a cB cI cL h1 h2 s1 s2 op nx wt sf lf dn dg un ug ((qf1 nb rc fi nu nb 0 (qn, qt, qg)).1) ((qf1 nb rc fi nu nb 0 (qn, qt, qg)).2.1) g2 tn tk tv ts ef eg ex eF pf pg px pF = wS a cB cI cL h1 h2 s1 s2 op nx wt sf lf dn dg un ug ((qf1 nb rc fi nu nb 0 (qn, qt, qg)).1) ((qf1 nb rc fi nu nb 0 (qn, qt, qg)).2.1) (qf3 qn (qf1 nb rc fi nu nb 0 (qn, qt, qg)).2.1 nb 0 (qf2 mg qn tk tv ts tn 0 0 (qf1 nb rc fi nu nb 0 (qn, qt, qg)).2.2)) tn tk tv ts ef eg ex eF pf pg px pF := by rw [← e1]
                    have hP := x_wP h9 hP
                    have hD := x_wD h9 hD
                    exact hret dX5_queueFile_229 hP hD hS
                  · refine lv_aload_n hx hb dX5_queueFile_211 rfl (lv_at hl 0 rfl) ?_
                    refine va_get (D := (dC, dI)) (ci := 5) (v := .ref (a 5)) (C := RX5) (T := TX5) (N := 11) hx hb hts in_X5 hown hK hP 0 rfl rfl 2 (by decide) f28 (fun _ h9 => h9) rfl dX5_queueFile_212 ?_
                    refine lv_iload hx hb dX5_queueFile_215 (lv_at hl 4 rfl) ?_
                    refine lv_iload hx hb dX5_queueFile_217 (lv_at hl 6 rfl) ?_
                    refine x_iadd hx hb dX5_queueFile_219 ?_
                    refine x_callv (va_runVN (As := [.int (nI (qn + j2))]) (rest := []) ⟨hx, hb, hml, hown, hts⟩ (c_Qu_seal (by omega) i32_2 i205_1 (qn + j2) (by omega)) ⟨(va_cnB 1 hts (tbG tw_333) rfl rfl rfl n222 ini_X2 (by decide +kernel) ⟨Nat.le_of_ble_eq_true rfl, Nat.le_of_ble_eq_true rfl⟩), im_yX2_seal, se_yX2_seal⟩ ⟨x_blind, va_recv hK hP (ci := 2) (q0 := 5) rfl rfl, x_pre hK hP hD hN⟩ rfl rfl hl.1 rfl (lv_room (Nat.le_of_ble_eq_true rfl)) dX5_queueFile_220 ⟨Nat.zero_le _, Nat.zero_le _⟩) hS (fun H locs hP hD hS => ?_)
                    have hP : va_P (dC, dI) vwCl (wS a cB cI cL h1 h2 s1 s2 op nx wt sf lf dn dg un ug ((qf1 nb rc fi nu nb 0 (qn, qt, qg)).1) ((qf1 nb rc fi nu nb 0 (qn, qt, qg)).2.1) (qsl (qn + j2) ((qf1 nb rc fi nu nb 0 (qn, qt, qg)).2.1) g2) tn tk tv ts ef eg ex eF pf pg px pF) H := hP
                    have hD : va_D A (wS a cB cI cL h1 h2 s1 s2 op nx wt sf lf dn dg un ug ((qf1 nb rc fi nu nb 0 (qn, qt, qg)).1) ((qf1 nb rc fi nu nb 0 (qn, qt, qg)).2.1) (qsl (qn + j2) ((qf1 nb rc fi nu nb 0 (qn, qt, qg)).2.1) g2) tn tk tv ts ef eg ex eF pf pg px pF) := hD
                    refine lv_iinc (v := nI (j2 + 1)) (lv' := [(6, .int (nI (j2 + 1))), (0, .ref (a 0)), (1, .int (bI mg)), (2, .int (nI (pf - 1))), (3, .int (nI nb)), (4, .int (nI qn)), (5, .int (nI d))]) hx hb dX5_queueFile_223 hl (k := 6) rfl (x_inc _) (by decide) rfl (fun ls hl => ?_)
                    refine lv_goto (tgt := 205) hx hb dX5_queueFile_226 (by decide) ?_
                    exact ih205 (j2 + 1) (qsl (qn + j2) ((qf1 nb rc fi nu nb 0 (qn, qt, qg)).2.1) g2) (by omega) (by omega) (by exact qsl_lt i205_1) (by have h := i205_2; rw [show nb - j2 = (nb - (j2 + 1)) + 1 by omega, qf3] at h; exact h) _ _ hP hD hS ls (lv_sub hl [1, 2, 3, 4, 5, 6, 0] rfl)
              have e2 : g' = (qf2 mg qn tk tv ts tn 0 0 (qf1 nb rc fi nu nb 0 (qn, qt, qg)).2.2) := by have h := i148_3; rw [show tn - i = 0 by omega, qf2] at h; exact h
              exact L205 (nb - 0 + 1) 0 (qf2 mg qn tk tv ts tn 0 0 (qf1 nb rc fi nu nb 0 (qn, qt, qg)).2.2) (by omega) (by omega) (by exact qf2_lt i32_3) (by rfl) _ _ (x_wP (by rw [← e2]) hP) (x_wD (by rw [← e2]) hD) hS ls (lv_sub hl [1, 2, 3, 4, 5, 6, 0] rfl)
            · refine lv_iload_n hx hb dX5_queueFile_160 rfl (lv_at hl 1 rfl) ?_
              refine x_if_ne_b (tgt := 176) hx hb dX5_queueFile_161 (by decide) (fun c161 => ?_) (fun c161 => ?_)
              · refine lv_aload_n hx hb dX5_queueFile_176 rfl (lv_at hl 0 rfl) ?_
                refine lv_iload hx hb dX5_queueFile_177 (lv_at hl 4 rfl) ?_
                refine lv_iload hx hb dX5_queueFile_179 (lv_at hl 5 rfl) ?_
                refine lv_iconst (v := nI 3) hx hb dX5_queueFile_181 (by decide) ?_
                refine x_idiv hx hb dX5_queueFile_182 (by omega) (by omega) (by omega) ?_
                refine x_iadd hx hb dX5_queueFile_183 ?_
                refine lv_iload hx hb dX5_queueFile_184 (lv_at hl 5 rfl) ?_
                refine lv_iconst (v := nI 3) hx hb dX5_queueFile_186 (by decide) ?_
                refine x_irem hx hb dX5_queueFile_187 (by omega) (by omega) (by omega) ?_
                refine lv_iload hx hb dX5_queueFile_188 (lv_at hl 6 rfl) ?_
                refine x_callv (va_runV (As := [.int (nI (qn + (d / 3))), .int (nI (d % 3)), .int (nI i)]) (rest := []) ⟨hx, hb, hml, hown, hts⟩ (c_SL_queueRecord (by omega) i148_2 (qn + (d / 3)) (d % 3) i (by omega) (by omega) (by omega)) (cwV 3 hts (tbV tw_314 tw_316 tw_18 tw_84 tw_317) rfl rfl rfl (by decide +kernel) ⟨Nat.le_of_ble_eq_true rfl, Nat.le_of_ble_eq_true rfl⟩) ⟨x_blind, va_recv hK hP (ci := 5) (q0 := 0) rfl rfl, x_pre hK hP hD hN⟩ rfl rfl hl.1 rfl (lv_room (Nat.le_of_ble_eq_true rfl)) dX5_queueFile_190 ⟨Nat.zero_le _, Nat.zero_le _⟩) hS (fun H locs hP hD hS => ?_)
                have hP : va_P (dC, dI) vwCl (wS a cB cI cL h1 h2 s1 s2 op nx wt sf lf dn dg un ug ((qf1 nb rc fi nu nb 0 (qn, qt, qg)).1) ((qf1 nb rc fi nu nb 0 (qn, qt, qg)).2.1) (qrec (qn + (d / 3)) (d % 3) (tk i) (tv i) g') tn tk tv ts ef eg ex eF pf pg px pF) H := hP
                have hD : va_D A (wS a cB cI cL h1 h2 s1 s2 op nx wt sf lf dn dg un ug ((qf1 nb rc fi nu nb 0 (qn, qt, qg)).1) ((qf1 nb rc fi nu nb 0 (qn, qt, qg)).2.1) (qrec (qn + (d / 3)) (d % 3) (tk i) (tv i) g') tn tk tv ts ef eg ex eF pf pg px pF) := hD
                refine lv_iinc (v := nI (d + 1)) (lv' := [(5, .int (nI (d + 1))), (0, .ref (a 0)), (1, .int (bI mg)), (2, .int (nI (pf - 1))), (3, .int (nI nb)), (4, .int (nI qn)), (6, .int (nI i))]) hx hb dX5_queueFile_193 hl (k := 5) rfl (x_inc _) (by decide) rfl (fun ls hl => ?_)
                refine lv_iinc (v := nI (i + 1)) (lv' := [(6, .int (nI (i + 1))), (5, .int (nI (d + 1))), (0, .ref (a 0)), (1, .int (bI mg)), (2, .int (nI (pf - 1))), (3, .int (nI nb)), (4, .int (nI qn))]) hx hb dX5_queueFile_196 hl (k := 6) rfl (x_inc _) (by decide) rfl (fun ls hl => ?_)
                refine lv_goto (tgt := 148) hx hb dX5_queueFile_199 (by decide) ?_
                exact ih148 (i + 1) (d + 1) (qrec (qn + (d / 3)) (d % 3) (tk i) (tv i) g') (by omega) (by omega) (by omega) (by first | exact i148_2 | exact qrec_lt i148_2) (by have h := i148_3; rw [show tn - i = (tn - (i + 1)) + 1 by omega, qf2] at h; first | (rw [if_pos (Or.inl c161)] at h; exact h) | (rw [if_pos (Or.inr c173)] at h; exact h) | (rw [if_neg (by rintro (r | r); exact absurd (c161.symm.trans r) (by decide); exact r c173)] at h; exact h)) _ _ hP hD hS ls (lv_sub hl [2, 3, 4, 5, 6, 1, 0] rfl)
              · refine lv_aload_n hx hb dX5_queueFile_164 rfl (lv_at hl 0 rfl) ?_
                refine va_get (D := (dC, dI)) (ci := 5) (v := .ref (a 9)) (C := RX5) (T := TX5) (N := 11) hx hb hts in_X5 hown hK hP 0 rfl rfl 3 (by decide) f35 (fun _ h9 => h9) rfl dX5_queueFile_165 ?_
                refine lv_iload hx hb dX5_queueFile_168 (lv_at hl 6 rfl) ?_
                refine x_calli (va_runVN (As := [.int (nI i)]) (rest := []) ⟨hx, hb, hml, hown, hts⟩ (c_Ta_sequence (by omega) i (by omega)) ⟨(va_cnB 1 hts (tbG tw_405) rfl rfl rfl n151 ini_X3 (by decide +kernel) ⟨Nat.le_of_ble_eq_true rfl, Nat.le_of_ble_eq_true rfl⟩), im_yX3_sequence, se_yX3_sequence⟩ ⟨x_blind, va_recv hK hP (ci := 3) (q0 := 9) rfl rfl, x_pre hK hP hD hN⟩ rfl rfl hl.1 rfl (lv_room (Nat.le_of_ble_eq_true rfl)) dX5_queueFile_170 ⟨Nat.zero_le _, Nat.zero_le _⟩) hS (fun H locs hP hD hS => ?_)
                have hP : va_P (dC, dI) vwCl (wS a cB cI cL h1 h2 s1 s2 op nx wt sf lf dn dg un ug ((qf1 nb rc fi nu nb 0 (qn, qt, qg)).1) ((qf1 nb rc fi nu nb 0 (qn, qt, qg)).2.1) g' tn tk tv ts ef eg ex eF pf pg px pF) H := hP
                have hD : va_D A (wS a cB cI cL h1 h2 s1 s2 op nx wt sf lf dn dg un ug ((qf1 nb rc fi nu nb 0 (qn, qt, qg)).1) ((qf1 nb rc fi nu nb 0 (qn, qt, qg)).2.1) g' tn tk tv ts ef eg ex eF pf pg px pF) := hD
                refine x_if_eq (tgt := 196) hx hb dX5_queueFile_173 (by decide) (by omega) (fun c173 => ?_) (fun c173 => ?_)
                · refine lv_iinc (v := nI (i + 1)) (lv' := [(6, .int (nI (i + 1))), (0, .ref (a 0)), (1, .int (bI mg)), (2, .int (nI (pf - 1))), (3, .int (nI nb)), (4, .int (nI qn)), (5, .int (nI d))]) hx hb dX5_queueFile_196 hl (k := 6) rfl (x_inc _) (by decide) rfl (fun ls hl => ?_)
                  refine lv_goto (tgt := 148) hx hb dX5_queueFile_199 (by decide) ?_
                  exact ih148 (i + 1) d g' (by omega) (by omega) (by omega) (by first | exact i148_2 | exact qrec_lt i148_2) (by have h := i148_3; rw [show tn - i = (tn - (i + 1)) + 1 by omega, qf2] at h; first | (rw [if_pos (Or.inl c161)] at h; exact h) | (rw [if_pos (Or.inr c173)] at h; exact h) | (rw [if_neg (by rintro (r | r); exact absurd (c161.symm.trans r) (by decide); exact r c173)] at h; exact h)) _ _ hP hD hS ls (lv_sub hl [1, 2, 3, 4, 5, 6, 0] rfl)
                · refine lv_aload_n hx hb dX5_queueFile_176 rfl (lv_at hl 0 rfl) ?_
                  refine lv_iload hx hb dX5_queueFile_177 (lv_at hl 4 rfl) ?_
                  refine lv_iload hx hb dX5_queueFile_179 (lv_at hl 5 rfl) ?_
                  refine lv_iconst (v := nI 3) hx hb dX5_queueFile_181 (by decide) ?_
                  refine x_idiv hx hb dX5_queueFile_182 (by omega) (by omega) (by omega) ?_
                  refine x_iadd hx hb dX5_queueFile_183 ?_
                  refine lv_iload hx hb dX5_queueFile_184 (lv_at hl 5 rfl) ?_
                  refine lv_iconst (v := nI 3) hx hb dX5_queueFile_186 (by decide) ?_
                  refine x_irem hx hb dX5_queueFile_187 (by omega) (by omega) (by omega) ?_
                  refine lv_iload hx hb dX5_queueFile_188 (lv_at hl 6 rfl) ?_
                  refine x_callv (va_runV (As := [.int (nI (qn + (d / 3))), .int (nI (d % 3)), .int (nI i)]) (rest := []) ⟨hx, hb, hml, hown, hts⟩ (c_SL_queueRecord (by omega) i148_2 (qn + (d / 3)) (d % 3) i (by omega) (by omega) (by omega)) (cwV 3 hts (tbV tw_314 tw_316 tw_18 tw_84 tw_317) rfl rfl rfl (by decide +kernel) ⟨Nat.le_of_ble_eq_true rfl, Nat.le_of_ble_eq_true rfl⟩) ⟨x_blind, va_recv hK hP (ci := 5) (q0 := 0) rfl rfl, x_pre hK hP hD hN⟩ rfl rfl hl.1 rfl (lv_room (Nat.le_of_ble_eq_true rfl)) dX5_queueFile_190 ⟨Nat.zero_le _, Nat.zero_le _⟩) hS (fun H locs hP hD hS => ?_)
                  have hP : va_P (dC, dI) vwCl (wS a cB cI cL h1 h2 s1 s2 op nx wt sf lf dn dg un ug ((qf1 nb rc fi nu nb 0 (qn, qt, qg)).1) ((qf1 nb rc fi nu nb 0 (qn, qt, qg)).2.1) (qrec (qn + (d / 3)) (d % 3) (tk i) (tv i) g') tn tk tv ts ef eg ex eF pf pg px pF) H := hP
                  have hD : va_D A (wS a cB cI cL h1 h2 s1 s2 op nx wt sf lf dn dg un ug ((qf1 nb rc fi nu nb 0 (qn, qt, qg)).1) ((qf1 nb rc fi nu nb 0 (qn, qt, qg)).2.1) (qrec (qn + (d / 3)) (d % 3) (tk i) (tv i) g') tn tk tv ts ef eg ex eF pf pg px pF) := hD
                  refine lv_iinc (v := nI (d + 1)) (lv' := [(5, .int (nI (d + 1))), (0, .ref (a 0)), (1, .int (bI mg)), (2, .int (nI (pf - 1))), (3, .int (nI nb)), (4, .int (nI qn)), (6, .int (nI i))]) hx hb dX5_queueFile_193 hl (k := 5) rfl (x_inc _) (by decide) rfl (fun ls hl => ?_)
                  refine lv_iinc (v := nI (i + 1)) (lv' := [(6, .int (nI (i + 1))), (5, .int (nI (d + 1))), (0, .ref (a 0)), (1, .int (bI mg)), (2, .int (nI (pf - 1))), (3, .int (nI nb)), (4, .int (nI qn))]) hx hb dX5_queueFile_196 hl (k := 6) rfl (x_inc _) (by decide) rfl (fun ls hl => ?_)
                  refine lv_goto (tgt := 148) hx hb dX5_queueFile_199 (by decide) ?_
                  exact ih148 (i + 1) (d + 1) (qrec (qn + (d / 3)) (d % 3) (tk i) (tv i) g') (by omega) (by omega) (by omega) (by first | exact i148_2 | exact qrec_lt i148_2) (by have h := i148_3; rw [show tn - i = (tn - (i + 1)) + 1 by omega, qf2] at h; first | (rw [if_pos (Or.inl c161)] at h; exact h) | (rw [if_pos (Or.inr c173)] at h; exact h) | (rw [if_neg (by rintro (r | r); exact absurd (c161.symm.trans r) (by decide); exact r c173)] at h; exact h)) _ _ hP hD hS ls (lv_sub hl [2, 3, 4, 5, 6, 1, 0] rfl)
        exact L148 (tn - 0 + 1) 0 0 ((qf1 nb rc fi nu nb 0 (qn, qt, qg)).2.2) (by omega) (by omega) (by omega) (by exact i32_3) (by rfl) _ _ hP hD hS ls (lv_sub hl [2, 3, 4, 5, 6, 1, 0] rfl)
      · refine lv_iload hx hb dX5_queueFile_38 (lv_at hl 5 rfl) ?_
        refine lv_aload_n hx hb dX5_queueFile_40 rfl (lv_at hl 0 rfl) ?_
        refine va_get (D := (dC, dI)) (ci := 5) (v := .ref s1) (C := RX5) (T := TX5) (N := 11) hx hb hts in_X5 hown hK hP 0 rfl rfl 5 (by decide) f46 (fun _ h9 => h9) rfl dX5_queueFile_41 ?_
        refine lv_iload_n hx hb dX5_queueFile_44 rfl (lv_at hl 2 rfl) ?_
        refine lv_iconst (v := nI 3) hx hb dX5_queueFile_45 (by decide) ?_
        refine x_calli (va_runVN (As := [.int (nI (pf - 1)), .int (nI 3)]) (rest := [.int (nI j)]) ⟨hx, hb, hml, hown, hts⟩ (c_He_field (show okH (fun pf' pg' px' pF' => wS a cB cI cL h1 h2 s1 s2 op nx wt sf lf dn dg un ug Z'.1 Z'.2.1 Z'.2.2 tn tk tv ts ef eg ex eF pf' pg' px' pF') 15 16 s1 s2 cI from ⟨fun _ _ _ _ => rfl, fun _ _ _ _ => rfl, fun _ _ _ _ _ _ _ => rfl, fun _ _ _ _ _ => rfl⟩) (tyS_I cB cI cL) pf pg px pF (pf - 1) 3 (by omega) (by omega) (by omega)) ⟨(va_cnB 2 hts (tbG tw_387) rfl rfl rfl n157 ini_X1 (by decide +kernel) ⟨Nat.le_of_ble_eq_true rfl, Nat.le_of_ble_eq_true rfl⟩), im_yX1_field, se_yX1_field⟩ ⟨x_blind, va_recv hK hP (ci := 1) (q0 := 15) rfl rfl, x_pre hK hP hD hN⟩ rfl rfl hl.1 rfl (lv_room (Nat.le_of_ble_eq_true rfl)) dX5_queueFile_46 ⟨Nat.zero_le _, Nat.zero_le _⟩) hS (fun H locs hP hD hS => ?_)
        have hP : va_P (dC, dI) vwCl (wS a cB cI cL h1 h2 s1 s2 op nx wt sf lf dn dg un ug Z'.1 Z'.2.1 Z'.2.2 tn tk tv ts ef eg ex eF pf pg px pF) H := hP
        have hD : va_D A (wS a cB cI cL h1 h2 s1 s2 op nx wt sf lf dn dg un ug Z'.1 Z'.2.1 Z'.2.2 tn tk tv ts ef eg ex eF pf pg px pF) := hD
        have hv46 : hfl pf pF (pf - 1) 3 < 1048576 := hfl_lt hpF
        refine x_top (y := nI rc) (by rw [hrc]) ?_
        refine x_calli (va_runS (As := [.int (nI j), .int (nI rc)]) (rest := []) ⟨hx, hb, hml, hown, hts⟩ (c_SL_recordsAt j rc (by omega) (by omega)) (va_cwS 2 hts (tbS tw_398 tw_399 tw_84 tw_400) rfl rfl rfl (by decide +kernel) ⟨Nat.le_of_ble_eq_true rfl, Nat.le_of_ble_eq_true rfl⟩) ⟨x_blind, x_pre hK hP hD hN⟩ rfl rfl hl.1 rfl (lv_room (Nat.le_of_ble_eq_true rfl)) dX5_queueFile_49 ⟨Nat.zero_le _, Nat.zero_le _⟩) hS (fun H locs hP hD hS => ?_)
        have hP : va_P (dC, dI) vwCl (wS a cB cI cL h1 h2 s1 s2 op nx wt sf lf dn dg un ug Z'.1 Z'.2.1 Z'.2.2 tn tk tv ts ef eg ex eF pf pg px pF) H := hP
        have hD : va_D A (wS a cB cI cL h1 h2 s1 s2 op nx wt sf lf dn dg un ug Z'.1 Z'.2.1 Z'.2.2 tn tk tv ts ef eg ex eF pf pg px pF) := hD
        refine lv_istore (lv' := [(6, .int (nI (min 3 (rc - j * 3)))), (0, .ref (a 0)), (1, .int (bI mg)), (2, .int (nI (pf - 1))), (3, .int (nI nb)), (4, .int (nI qn)), (5, .int (nI j))]) hx hb dX5_queueFile_52 hl (by decide) rfl (fun ls hl => ?_)
        refine lv_aload_n hx hb dX5_queueFile_54 rfl (lv_at hl 1 rfl) ?_
        refine va_get (D := (dC, dI)) (ci := 5) (v := .ref (a 5)) (C := RX5) (T := TX5) (N := 11) hx hb hts in_X5 hown hK hP 0 rfl rfl 2 (by decide) f28 (fun _ h9 => h9) rfl dX5_queueFile_55 ?_
        refine lv_aload_n hx hb dX5_queueFile_58 rfl (lv_at hl 1 rfl) ?_
        refine va_get (D := (dC, dI)) (ci := 5) (v := .ref s1) (C := RX5) (T := TX5) (N := 11) hx hb hts in_X5 hown hK hP 0 rfl rfl 5 (by decide) f46 (fun _ h9 => h9) rfl dX5_queueFile_59 ?_
        refine lv_iload_n hx hb dX5_queueFile_62 rfl (lv_at hl 3 rfl) ?_
        refine lv_iconst (v := nI 1) hx hb dX5_queueFile_63 (by decide) ?_
        refine x_calli (va_runVN (As := [.int (nI (pf - 1)), .int (nI 1)]) (rest := [.ref (a 5)]) ⟨hx, hb, hml, hown, hts⟩ (c_He_field (show okH (fun pf' pg' px' pF' => wS a cB cI cL h1 h2 s1 s2 op nx wt sf lf dn dg un ug Z'.1 Z'.2.1 Z'.2.2 tn tk tv ts ef eg ex eF pf' pg' px' pF') 15 16 s1 s2 cI from ⟨fun _ _ _ _ => rfl, fun _ _ _ _ => rfl, fun _ _ _ _ _ _ _ => rfl, fun _ _ _ _ _ => rfl⟩) (tyS_I cB cI cL) pf pg px pF (pf - 1) 1 (by omega) (by omega) (by omega)) ⟨(va_cnB 2 hts (tbG tw_387) rfl rfl rfl n157 ini_X1 (by decide +kernel) ⟨Nat.le_of_ble_eq_true rfl, Nat.le_of_ble_eq_true rfl⟩), im_yX1_field, se_yX1_field⟩ ⟨x_blind, va_recv hK hP (ci := 1) (q0 := 15) rfl rfl, x_pre hK hP hD hN⟩ rfl rfl hl.1 rfl (lv_room (Nat.le_of_ble_eq_true rfl)) dX5_queueFile_64 ⟨Nat.zero_le _, Nat.zero_le _⟩) hS (fun H locs hP hD hS => ?_)
        have hP : va_P (dC, dI) vwCl (wS a cB cI cL h1 h2 s1 s2 op nx wt sf lf dn dg un ug Z'.1 Z'.2.1 Z'.2.2 tn tk tv ts ef eg ex eF pf pg px pF) H := hP
        have hD : va_D A (wS a cB cI cL h1 h2 s1 s2 op nx wt sf lf dn dg un ug Z'.1 Z'.2.1 Z'.2.2 tn tk tv ts ef eg ex eF pf pg px pF) := hD
        have hv64 : hfl pf pF (pf - 1) 1 < 1048576 := hfl_lt hpF
        refine x_top (y := nI fi) (by rw [hfi]) ?_
        refine lv_iload hx hb dX5_queueFile_67 (lv_at hl 6 rfl) ?_
        refine x_iadd hx hb dX5_queueFile_69 ?_
        refine lv_iconst (v := nI 2) hx hb dX5_queueFile_70 (by decide) ?_
        refine lv_iload hx hb dX5_queueFile_71 (lv_at hl 0 rfl) ?_
        refine x_calli (va_runVN (As := [.int (nI (fi + j)), .int (nI 2), .int (nI (min 3 (rc - j * 3)))]) (rest := []) ⟨hx, hb, hml, hown, hts⟩ (c_Qu_append (by omega) i32_3 (fi + j) 2 (min 3 (rc - j * 3)) (by omega) (by omega)) ⟨(va_cnB 3 hts (tbG tw_302) rfl rfl rfl n205 ini_X2 (by decide +kernel) ⟨Nat.le_of_ble_eq_true rfl, Nat.le_of_ble_eq_true rfl⟩), im_yX2_append, se_yX2_append⟩ ⟨x_blind, va_recv hK hP (ci := 2) (q0 := 5) rfl rfl, x_pre hK hP hD hN⟩ rfl rfl hl.1 rfl (lv_room (Nat.le_of_ble_eq_true rfl)) dX5_queueFile_73 ⟨Nat.zero_le _, Nat.zero_le _⟩) hS (fun H locs hP hD hS => ?_)
        have hP : va_P (dC, dI) vwCl (wS a cB cI cL h1 h2 s1 s2 op nx wt sf lf dn dg un ug (Z'.1 + 1) (va_up Z'.2.1 Z'.1 (fi + j)) (qap Z'.1 Z'.2.2 2 (min 3 (rc - j * 3))) tn tk tv ts ef eg ex eF pf pg px pF) H := hP
        have hD : va_D A (wS a cB cI cL h1 h2 s1 s2 op nx wt sf lf dn dg un ug (Z'.1 + 1) (va_up Z'.2.1 Z'.1 (fi + j)) (qap Z'.1 Z'.2.2 2 (min 3 (rc - j * 3))) tn tk tv ts ef eg ex eF pf pg px pF) := hD
        refine lv_istore (lv' := [(7, .int (nI Z'.1)), (6, .int (nI (min 3 (rc - j * 3)))), (0, .ref (a 0)), (1, .int (bI mg)), (2, .int (nI (pf - 1))), (3, .int (nI nb)), (4, .int (nI qn)), (5, .int (nI j))]) hx hb dX5_queueFile_76 hl (by decide) rfl (fun ls hl => ?_)
        refine lv_aload_n hx hb dX5_queueFile_78 rfl (lv_at hl 2 rfl) ?_
        refine va_get (D := (dC, dI)) (ci := 5) (v := .ref (a 5)) (C := RX5) (T := TX5) (N := 11) hx hb hts in_X5 hown hK hP 0 rfl rfl 2 (by decide) f28 (fun _ h9 => h9) rfl dX5_queueFile_79 ?_
        refine va_getN (D := (dC, dI)) (ci := 2) (v := .ref (a 6)) (C := RX2) (T := TX2) (N := 3) hx hb hts in_X2 hown hK hP 5 rfl rfl 0 (by decide) (va_Nw.use (A := args) rfl f209) (fun _ h9 => h9) rfl dX5_queueFile_82 ?_
        refine lv_iload hx hb dX5_queueFile_85 (lv_at hl 0 rfl) ?_
        refine lv_iconst (v := nI 2) hx hb dX5_queueFile_87 (by decide) ?_
        refine lv_iconst (v := nI 2) hx hb dX5_queueFile_88 (by decide) ?_
        refine lv_aload_n hx hb dX5_queueFile_89 rfl (lv_at hl 2 rfl) ?_
        refine va_get (D := (dC, dI)) (ci := 5) (v := .ref s1) (C := RX5) (T := TX5) (N := 11) hx hb hts in_X5 hown hK hP 0 rfl rfl 5 (by decide) f46 (fun _ h9 => h9) rfl dX5_queueFile_90 ?_
        refine lv_iload_n hx hb dX5_queueFile_93 rfl (lv_at hl 4 rfl) ?_
        refine lv_iconst (v := nI 0) hx hb dX5_queueFile_94 (by decide) ?_
        refine x_calli (va_runVN (As := [.int (nI (pf - 1)), .int (nI 0)]) (rest := [.int (nI 2), .int (nI 2), .int (nI Z'.1), .ref (a 6)]) ⟨hx, hb, hml, hown, hts⟩ (c_He_field (show okH (fun pf' pg' px' pF' => wS a cB cI cL h1 h2 s1 s2 op nx wt sf lf dn dg un ug (Z'.1 + 1) (va_up Z'.2.1 Z'.1 (fi + j)) (qap Z'.1 Z'.2.2 2 (min 3 (rc - j * 3))) tn tk tv ts ef eg ex eF pf' pg' px' pF') 15 16 s1 s2 cI from ⟨fun _ _ _ _ => rfl, fun _ _ _ _ => rfl, fun _ _ _ _ _ _ _ => rfl, fun _ _ _ _ _ => rfl⟩) (tyS_I cB cI cL) pf pg px pF (pf - 1) 0 (by omega) (by omega) (by omega)) ⟨(va_cnB 2 hts (tbG tw_387) rfl rfl rfl n157 ini_X1 (by decide +kernel) ⟨Nat.le_of_ble_eq_true rfl, Nat.le_of_ble_eq_true rfl⟩), im_yX1_field, se_yX1_field⟩ ⟨x_blind, va_recv hK hP (ci := 1) (q0 := 15) rfl rfl, x_pre hK hP hD hN⟩ rfl rfl hl.1 rfl (lv_room (Nat.le_of_ble_eq_true rfl)) dX5_queueFile_95 ⟨Nat.zero_le _, Nat.zero_le _⟩) hS (fun H locs hP hD hS => ?_)
        have hP : va_P (dC, dI) vwCl (wS a cB cI cL h1 h2 s1 s2 op nx wt sf lf dn dg un ug (Z'.1 + 1) (va_up Z'.2.1 Z'.1 (fi + j)) (qap Z'.1 Z'.2.2 2 (min 3 (rc - j * 3))) tn tk tv ts ef eg ex eF pf pg px pF) H := hP
        have hD : va_D A (wS a cB cI cL h1 h2 s1 s2 op nx wt sf lf dn dg un ug (Z'.1 + 1) (va_up Z'.2.1 Z'.1 (fi + j)) (qap Z'.1 Z'.2.2 2 (min 3 (rc - j * 3))) tn tk tv ts ef eg ex eF pf pg px pF) := hD
        have hv95 : hfl pf pF (pf - 1) 0 < 1048576 := hfl_lt hpF
        refine x_top (y := nI nu) (by rw [hnu]) ?_
        refine lv_i2l (v := lN nu) hx hb dX5_queueFile_98 (nI_l (by omega)) ?_
        refine x_callv (va_runVN (As := [.int (nI Z'.1), .int (nI 2), .int (nI 2), .long (lN nu)]) (rest := []) ⟨hx, hb, hml, hown, hts⟩ (c_Bl_putNumber (show okB (fun qg' => wS a cB cI cL h1 h2 s1 s2 op nx wt sf lf dn dg un ug (Z'.1 + 1) (va_up Z'.2.1 Z'.1 (fi + j)) qg' tn tk tv ts ef eg ex eF pf pg px pF) 6 7 (a 6) (a 7) cB 64 from ⟨fun _ => rfl, fun _ => rfl, fun _ _ => rfl⟩) (tyS_B cB cI cL) (by omega) (qap Z'.1 Z'.2.2 2 (min 3 (rc - j * 3))) (qap_lt i32_3) Z'.1 2 2 nu (by omega) (by omega) (by omega)) ⟨(va_cnB 4 hts (tbG tw_308) rfl rfl rfl n212 ini_X0 (by decide +kernel) ⟨Nat.le_of_ble_eq_true rfl, Nat.le_of_ble_eq_true rfl⟩), im_yX0_putNumber, se_yX0_putNumber⟩ ⟨x_blind, va_recv hK hP (ci := 0) (q0 := 6) rfl rfl, x_pre hK hP hD hN⟩ rfl rfl hl.1 rfl (lv_room (Nat.le_of_ble_eq_true rfl)) dX5_queueFile_99 ⟨Nat.zero_le _, Nat.zero_le _⟩) hS (fun H locs hP hD hS => ?_)
        have hP : va_P (dC, dI) vwCl (wS a cB cI cL h1 h2 s1 s2 op nx wt sf lf dn dg un ug (Z'.1 + 1) (va_up Z'.2.1 Z'.1 (fi + j)) (pnum 64 Z'.1 2 (qap Z'.1 Z'.2.2 2 (min 3 (rc - j * 3))) 2 nu) tn tk tv ts ef eg ex eF pf pg px pF) H := hP
        have hD : va_D A (wS a cB cI cL h1 h2 s1 s2 op nx wt sf lf dn dg un ug (Z'.1 + 1) (va_up Z'.2.1 Z'.1 (fi + j)) (pnum 64 Z'.1 2 (qap Z'.1 Z'.2.2 2 (min 3 (rc - j * 3))) 2 nu) tn tk tv ts ef eg ex eF pf pg px pF) := hD
        refine lv_aload_n hx hb dX5_queueFile_102 rfl (lv_at hl 2 rfl) ?_
        refine va_get (D := (dC, dI)) (ci := 5) (v := .ref (a 5)) (C := RX5) (T := TX5) (N := 11) hx hb hts in_X5 hown hK hP 0 rfl rfl 2 (by decide) f28 (fun _ h9 => h9) rfl dX5_queueFile_103 ?_
        refine va_getN (D := (dC, dI)) (ci := 2) (v := .ref (a 6)) (C := RX2) (T := TX2) (N := 3) hx hb hts in_X2 hown hK hP 5 rfl rfl 0 (by decide) (va_Nw.use (A := args) rfl f209) (fun _ h9 => h9) rfl dX5_queueFile_106 ?_
        refine lv_iload hx hb dX5_queueFile_109 (lv_at hl 0 rfl) ?_
        refine lv_iconst (v := nI 4) hx hb dX5_queueFile_111 (by decide) ?_
        refine lv_iconst (v := nI 2) hx hb dX5_queueFile_112 (by decide) ?_
        refine lv_iload hx hb dX5_queueFile_113 (lv_at hl 7 rfl) ?_
        refine lv_i2l (v := lN j) hx hb dX5_queueFile_115 (nI_l (by omega)) ?_
        refine x_callv (va_runVN (As := [.int (nI Z'.1), .int (nI 4), .int (nI 2), .long (lN j)]) (rest := []) ⟨hx, hb, hml, hown, hts⟩ (c_Bl_putNumber (show okB (fun qg' => wS a cB cI cL h1 h2 s1 s2 op nx wt sf lf dn dg un ug (Z'.1 + 1) (va_up Z'.2.1 Z'.1 (fi + j)) qg' tn tk tv ts ef eg ex eF pf pg px pF) 6 7 (a 6) (a 7) cB 64 from ⟨fun _ => rfl, fun _ => rfl, fun _ _ => rfl⟩) (tyS_B cB cI cL) (by omega) (pnum 64 Z'.1 2 (qap Z'.1 Z'.2.2 2 (min 3 (rc - j * 3))) 2 nu) (pnum_lt (qap_lt i32_3)) Z'.1 4 2 j (by omega) (by omega) (by omega)) ⟨(va_cnB 4 hts (tbG tw_308) rfl rfl rfl n212 ini_X0 (by decide +kernel) ⟨Nat.le_of_ble_eq_true rfl, Nat.le_of_ble_eq_true rfl⟩), im_yX0_putNumber, se_yX0_putNumber⟩ ⟨x_blind, va_recv hK hP (ci := 0) (q0 := 6) rfl rfl, x_pre hK hP hD hN⟩ rfl rfl hl.1 rfl (lv_room (Nat.le_of_ble_eq_true rfl)) dX5_queueFile_116 ⟨Nat.zero_le _, Nat.zero_le _⟩) hS (fun H locs hP hD hS => ?_)
        have hP : va_P (dC, dI) vwCl (wS a cB cI cL h1 h2 s1 s2 op nx wt sf lf dn dg un ug (Z'.1 + 1) (va_up Z'.2.1 Z'.1 (fi + j)) (pnum 64 Z'.1 2 (pnum 64 Z'.1 2 (qap Z'.1 Z'.2.2 2 (min 3 (rc - j * 3))) 2 nu) 4 j) tn tk tv ts ef eg ex eF pf pg px pF) H := hP
        have hD : va_D A (wS a cB cI cL h1 h2 s1 s2 op nx wt sf lf dn dg un ug (Z'.1 + 1) (va_up Z'.2.1 Z'.1 (fi + j)) (pnum 64 Z'.1 2 (pnum 64 Z'.1 2 (qap Z'.1 Z'.2.2 2 (min 3 (rc - j * 3))) 2 nu) 4 j) tn tk tv ts ef eg ex eF pf pg px pF) := hD
        refine lv_aload_n hx hb dX5_queueFile_119 rfl (lv_at hl 2 rfl) ?_
        refine va_get (D := (dC, dI)) (ci := 5) (v := .ref (a 5)) (C := RX5) (T := TX5) (N := 11) hx hb hts in_X5 hown hK hP 0 rfl rfl 2 (by decide) f28 (fun _ h9 => h9) rfl dX5_queueFile_120 ?_
        refine va_getN (D := (dC, dI)) (ci := 2) (v := .ref (a 6)) (C := RX2) (T := TX2) (N := 3) hx hb hts in_X2 hown hK hP 5 rfl rfl 0 (by decide) (va_Nw.use (A := args) rfl f209) (fun _ h9 => h9) rfl dX5_queueFile_123 ?_
        refine lv_iload hx hb dX5_queueFile_126 (lv_at hl 0 rfl) ?_
        refine lv_bipush (v := nI 6) hx hb dX5_queueFile_128 (by decide) ?_
        refine lv_iconst (v := nI 2) hx hb dX5_queueFile_130 (by decide) ?_
        refine lv_iload_n hx hb dX5_queueFile_131 rfl (lv_at hl 5 rfl) ?_
        refine lv_i2l (v := lN nb) hx hb dX5_queueFile_132 (nI_l (by omega)) ?_
        refine x_callv (va_runVN (As := [.int (nI Z'.1), .int (nI 6), .int (nI 2), .long (lN nb)]) (rest := []) ⟨hx, hb, hml, hown, hts⟩ (c_Bl_putNumber (show okB (fun qg' => wS a cB cI cL h1 h2 s1 s2 op nx wt sf lf dn dg un ug (Z'.1 + 1) (va_up Z'.2.1 Z'.1 (fi + j)) qg' tn tk tv ts ef eg ex eF pf pg px pF) 6 7 (a 6) (a 7) cB 64 from ⟨fun _ => rfl, fun _ => rfl, fun _ _ => rfl⟩) (tyS_B cB cI cL) (by omega) (pnum 64 Z'.1 2 (pnum 64 Z'.1 2 (qap Z'.1 Z'.2.2 2 (min 3 (rc - j * 3))) 2 nu) 4 j) (pnum_lt (pnum_lt (qap_lt i32_3))) Z'.1 6 2 nb (by omega) (by omega) (by omega)) ⟨(va_cnB 4 hts (tbG tw_308) rfl rfl rfl n212 ini_X0 (by decide +kernel) ⟨Nat.le_of_ble_eq_true rfl, Nat.le_of_ble_eq_true rfl⟩), im_yX0_putNumber, se_yX0_putNumber⟩ ⟨x_blind, va_recv hK hP (ci := 0) (q0 := 6) rfl rfl, x_pre hK hP hD hN⟩ rfl rfl hl.1 rfl (lv_room (Nat.le_of_ble_eq_true rfl)) dX5_queueFile_133 ⟨Nat.zero_le _, Nat.zero_le _⟩) hS (fun H locs hP hD hS => ?_)
        have hP : va_P (dC, dI) vwCl (wS a cB cI cL h1 h2 s1 s2 op nx wt sf lf dn dg un ug (Z'.1 + 1) (va_up Z'.2.1 Z'.1 (fi + j)) (pnum 64 Z'.1 2 (pnum 64 Z'.1 2 (pnum 64 Z'.1 2 (qap Z'.1 Z'.2.2 2 (min 3 (rc - j * 3))) 2 nu) 4 j) 6 nb) tn tk tv ts ef eg ex eF pf pg px pF) H := hP
        have hD : va_D A (wS a cB cI cL h1 h2 s1 s2 op nx wt sf lf dn dg un ug (Z'.1 + 1) (va_up Z'.2.1 Z'.1 (fi + j)) (pnum 64 Z'.1 2 (pnum 64 Z'.1 2 (pnum 64 Z'.1 2 (qap Z'.1 Z'.2.2 2 (min 3 (rc - j * 3))) 2 nu) 4 j) 6 nb) tn tk tv ts ef eg ex eF pf pg px pF) := hD
        refine lv_iinc (v := nI (j + 1)) (lv' := [(5, .int (nI (j + 1))), (7, .int (nI Z'.1)), (6, .int (nI (min 3 (rc - j * 3)))), (0, .ref (a 0)), (1, .int (bI mg)), (2, .int (nI (pf - 1))), (3, .int (nI nb)), (4, .int (nI qn))]) hx hb dX5_queueFile_136 hl (k := 7) rfl (x_inc _) (by decide) rfl (fun ls hl => ?_)
        refine lv_goto (tgt := 32) hx hb dX5_queueFile_139 (by decide) ?_
        have e3 : (Z'.1 + 1) = ((qfS nb rc fi nu j Z').1) := by rfl
        have e4 : (va_up Z'.2.1 Z'.1 (fi + j)) = ((qfS nb rc fi nu j Z').2.1) := by rfl
        have e5 : (pnum 64 Z'.1 2 (pnum 64 Z'.1 2 (pnum 64 Z'.1 2 (qap Z'.1 Z'.2.2 2 (min 3 (rc - j * 3))) 2 nu) 4 j) 6 nb) = ((qfS nb rc fi nu j Z').2.2) := by rfl
        exact ih32 (j + 1) (qfS nb rc fi nu j Z') (by omega) (by omega) (by show Z'.1 + 1 = qn + (j + 1); omega) (by exact va_up_lt i32_2 (by omega)) (by exact pnum_lt (pnum_lt (pnum_lt (qap_lt i32_3)))) (by have h := i32_4; rw [show nb - j = (nb - (j + 1)) + 1 by omega, qf1] at h; exact h) _ _ (x_wP (by rw [← e3, e4, e5]) hP) (x_wD (by rw [← e3, e4, e5]) hD) hS ls (lv_sub hl [3, 4, 5, 6, 7, 0] rfl)
  have e6 : qn = ((qn, qt, qg).1) := by rfl
  have e7 : qt = ((qn, qt, qg).2.1) := by rfl
  have e8 : qg = ((qn, qt, qg).2.2) := by rfl
  exact L32 (nb - 0 + 1) 0 (qn, qt, qg) (by omega) (by omega) (by rfl) (by exact hqt) (by exact hqg) (by rfl) _ _ (x_wP (by rw [← e6, ← e7, ← e8]) hP) (x_wD (by rw [← e6, ← e7, ← e8]) hD) hS ls (lv_sub hl [4, 5, 3, 2, 1, 0] rfl)

set_option maxHeartbeats 4000000 in
set_option maxRecDepth 100000 in
theorem c_SL_queueHead {l : Launch} {dC : Nat → ClassId} {dI : Nat → Nat → Nat} {A : Nat → Prop} {a : Nat → Nat} {cB cI cL : ClassId} {h1 h2 s1 s2 : Nat} {op : Bool} {nx wt sf lf dn : Nat} {dg : Nat → Nat} {un : Nat} {ug : Nat → Nat} {qn : Nat} {qt qg : Nat → Nat} {tn : Nat} {tk tv : Nat → Int64} {ts : Nat → Nat} {ef eg ex : Nat} {eF : Nat → Nat} {pf pg px : Nat} {pF : Nat → Nat} (hqn : qn ≤ 64) (hqt : ∀ j, qt j < 64) (hqg : ∀ j, qg j < 256) (hpF : ∀ j, pF j < 1048576) (hpf : pf ≤ 5) (hpg : pg < 2 ^ 30) (hpx : px < 2 ^ 30) (hq1 : qn < 64) : Met l yX5_queueHead (Cond.code yX5_queueHead cX5_queueHead 4 none :: TB) { frames := 4, cells := 0, slots := 0, locals := 94 } (xPre Nst (dC, dI) A (tyS cB cI cL) (wS a cB cI cL h1 h2 s1 s2 op nx wt sf lf dn dg un ug qn qt qg tn tk tv ts ef eg ex eF pf pg px pF) [.ref (a 0)]) (xQv (dC, dI) A (wS a cB cI cL h1 h2 s1 s2 op nx wt sf lf dn dg un ug (qn + 1) (va_up qt qn (pg % 2)) (qhG qn pf pg px pF qt qg) tn tk tv ts ef eg ex eF pf pg px pF)) 0 0 A := by
  refine x_ofWv (cc := cX5_queueHead) (maxL := 4) (by decide) rfl (Nat.le_of_ble_eq_true rfl) ?_
  intro p e s m args below meth c Q hx hb hml hts hown hK hN hP hD hS hret ls hl
  have hl : lv_has ls 4 [(0, .ref (a 0))] := hl
  have hown : s.vm.findClass RX5 = some m.cls := hown
  have f28 := hts _ (List.mem_cons_of_mem _ tw_209)
  have in_X5 := (fun q hq => List.mem_cons_of_mem _ (inX5 q hq) : ∀ q ∈ wsX50, q ∈ (Cond.code yX5_queueHead cX5_queueHead 4 none :: TB))
  have f46 := hts _ (List.mem_cons_of_mem _ tw_212)
  have f118 := hN (.fieldLinkNest RX5 118 "SegmentLog$Head" "generation" "I" "SegmentLog") (by decide +kernel)
  have in_X1 := (fun q hq => List.mem_cons_of_mem _ (inX1 q hq) : ∀ q ∈ wsX10, q ∈ (Cond.code yX5_queueHead cX5_queueHead 4 none :: TB))
  have f91 := hN (.fieldLinkNest RX5 91 "SegmentLog$Head" "files" "I" "SegmentLog") (by decide +kernel)
  have n205 := hN (.methodLinkNest RX5 205 yX2_append "SegmentLog") (by decide +kernel)
  have ini_X2 := hts _ (List.mem_cons_of_mem _ tw_88)
  have im_yX2_append := hts _ (List.mem_cons_of_mem _ tw_301)
  have se_yX2_append := hts _ (List.mem_cons_of_mem _ tw_15)
  have f209 := hN (.fieldLinkNest RX5 209 "SegmentLog$Queue" "images" "LSegmentLog$Blocks;" "SegmentLog") (by decide +kernel)
  have in_X2 := (fun q hq => List.mem_cons_of_mem _ (inX2 q hq) : ∀ q ∈ wsX20, q ∈ (Cond.code yX5_queueHead cX5_queueHead 4 none :: TB))
  have n212 := hN (.methodLinkNest RX5 212 yX0_putNumber "SegmentLog") (by decide +kernel)
  have ini_X0 := hts _ (List.mem_cons_of_mem _ tw_85)
  have im_yX0_putNumber := hts _ (List.mem_cons_of_mem _ tw_307)
  have se_yX0_putNumber := hts _ (List.mem_cons_of_mem _ tw_16)
  have f90 := hN (.fieldLinkNest RX5 90 "SegmentLog$Head" "next" "I" "SegmentLog") (by decide +kernel)
  have n222 := hN (.methodLinkNest RX5 222 yX2_seal "SegmentLog") (by decide +kernel)
  have im_yX2_seal := hts _ (List.mem_cons_of_mem _ tw_332)
  have se_yX2_seal := hts _ (List.mem_cons_of_mem _ tw_22)
  have n238 := hN (.methodLinkNest RX5 238 yX1_fieldAt "SegmentLog") (by decide +kernel)
  have ini_X1 := hts _ (List.mem_cons_of_mem _ tw_90)
  have st_yX1_fieldAt := hts _ (List.mem_cons_of_mem _ tw_411)
  have n157 := hN (.methodLinkNest RX5 157 yX1_field "SegmentLog") (by decide +kernel)
  have im_yX1_field := hts _ (List.mem_cons_of_mem _ tw_386)
  have se_yX1_field := hts _ (List.mem_cons_of_mem _ tw_30)
  refine lv_aload_n hx hb dX5_queueHead_0 rfl (lv_at hl 0 rfl) ?_
  refine va_get (D := (dC, dI)) (ci := 5) (v := .ref (a 5)) (C := RX5) (T := TX5) (N := 11) hx hb hts in_X5 hown hK hP 0 rfl rfl 2 (by decide) f28 (fun _ h9 => h9) rfl dX5_queueHead_1 ?_
  refine lv_aload_n hx hb dX5_queueHead_4 rfl (lv_at hl 0 rfl) ?_
  refine va_get (D := (dC, dI)) (ci := 5) (v := .ref s1) (C := RX5) (T := TX5) (N := 11) hx hb hts in_X5 hown hK hP 0 rfl rfl 5 (by decide) f46 (fun _ h9 => h9) rfl dX5_queueHead_5 ?_
  refine va_getN (D := (dC, dI)) (ci := 1) (v := .int (nI pg)) (C := RX1) (T := TX1) (N := 4) hx hb hts in_X1 hown hK hP 15 rfl rfl 2 (by decide) (va_Nw.use (A := args) rfl f118) (fun _ h9 => h9) rfl dX5_queueHead_8 ?_
  refine lv_iconst (v := nI 2) hx hb dX5_queueHead_11 (by decide) ?_
  refine x_irem hx hb dX5_queueHead_12 (by omega) (by omega) (by omega) ?_
  refine lv_iconst (v := nI 3) hx hb dX5_queueHead_13 (by decide) ?_
  refine lv_aload_n hx hb dX5_queueHead_14 rfl (lv_at hl 0 rfl) ?_
  refine va_get (D := (dC, dI)) (ci := 5) (v := .ref s1) (C := RX5) (T := TX5) (N := 11) hx hb hts in_X5 hown hK hP 0 rfl rfl 5 (by decide) f46 (fun _ h9 => h9) rfl dX5_queueHead_15 ?_
  refine va_getN (D := (dC, dI)) (ci := 1) (v := .int (nI pf)) (C := RX1) (T := TX1) (N := 4) hx hb hts in_X1 hown hK hP 15 rfl rfl 1 (by decide) (va_Nw.use (A := args) rfl f91) (fun _ h9 => h9) rfl dX5_queueHead_18 ?_
  refine x_calli (va_runVN (As := [.int (nI (pg % 2)), .int (nI 3), .int (nI pf)]) (rest := []) ⟨hx, hb, hml, hown, hts⟩ (c_Qu_append (by omega) hqg (pg % 2) 3 pf (by omega) (by omega)) ⟨(va_cnB 3 hts (tbG tw_302) rfl rfl rfl n205 ini_X2 (by decide +kernel) ⟨Nat.le_of_ble_eq_true rfl, Nat.le_of_ble_eq_true rfl⟩), im_yX2_append, se_yX2_append⟩ ⟨x_blind, va_recv hK hP (ci := 2) (q0 := 5) rfl rfl, x_pre hK hP hD hN⟩ rfl rfl hl.1 rfl (lv_room (Nat.le_of_ble_eq_true rfl)) dX5_queueHead_21 ⟨Nat.zero_le _, Nat.zero_le _⟩) hS (fun H locs hP hD hS => ?_)
  have hP : va_P (dC, dI) vwCl (wS a cB cI cL h1 h2 s1 s2 op nx wt sf lf dn dg un ug (qn + 1) (va_up qt qn (pg % 2)) (qap qn qg 3 pf) tn tk tv ts ef eg ex eF pf pg px pF) H := hP
  have hD : va_D A (wS a cB cI cL h1 h2 s1 s2 op nx wt sf lf dn dg un ug (qn + 1) (va_up qt qn (pg % 2)) (qap qn qg 3 pf) tn tk tv ts ef eg ex eF pf pg px pF) := hD
  refine lv_istore_n (lv' := [(1, .int (nI qn)), (0, .ref (a 0))]) hx hb dX5_queueHead_24 rfl hl (by decide) rfl (fun ls hl => ?_)
  refine lv_aload_n hx hb dX5_queueHead_25 rfl (lv_at hl 1 rfl) ?_
  refine va_get (D := (dC, dI)) (ci := 5) (v := .ref (a 5)) (C := RX5) (T := TX5) (N := 11) hx hb hts in_X5 hown hK hP 0 rfl rfl 2 (by decide) f28 (fun _ h9 => h9) rfl dX5_queueHead_26 ?_
  refine va_getN (D := (dC, dI)) (ci := 2) (v := .ref (a 6)) (C := RX2) (T := TX2) (N := 3) hx hb hts in_X2 hown hK hP 5 rfl rfl 0 (by decide) (va_Nw.use (A := args) rfl f209) (fun _ h9 => h9) rfl dX5_queueHead_29 ?_
  refine lv_iload_n hx hb dX5_queueHead_32 rfl (lv_at hl 0 rfl) ?_
  refine lv_iconst (v := nI 2) hx hb dX5_queueHead_33 (by decide) ?_
  refine lv_bipush (v := nI 6) hx hb dX5_queueHead_34 (by decide) ?_
  refine lv_aload_n hx hb dX5_queueHead_36 rfl (lv_at hl 1 rfl) ?_
  refine va_get (D := (dC, dI)) (ci := 5) (v := .ref s1) (C := RX5) (T := TX5) (N := 11) hx hb hts in_X5 hown hK hP 0 rfl rfl 5 (by decide) f46 (fun _ h9 => h9) rfl dX5_queueHead_37 ?_
  refine va_getN (D := (dC, dI)) (ci := 1) (v := .int (nI pg)) (C := RX1) (T := TX1) (N := 4) hx hb hts in_X1 hown hK hP 15 rfl rfl 2 (by decide) (va_Nw.use (A := args) rfl f118) (fun _ h9 => h9) rfl dX5_queueHead_40 ?_
  refine lv_i2l (v := lN pg) hx hb dX5_queueHead_43 (nI_l (by omega)) ?_
  refine x_callv (va_runVN (As := [.int (nI qn), .int (nI 2), .int (nI 6), .long (lN pg)]) (rest := []) ⟨hx, hb, hml, hown, hts⟩ (c_Bl_putNumber (show okB (fun qg' => wS a cB cI cL h1 h2 s1 s2 op nx wt sf lf dn dg un ug (qn + 1) (va_up qt qn (pg % 2)) qg' tn tk tv ts ef eg ex eF pf pg px pF) 6 7 (a 6) (a 7) cB 64 from ⟨fun _ => rfl, fun _ => rfl, fun _ _ => rfl⟩) (tyS_B cB cI cL) (by omega) (qap qn qg 3 pf) (qap_lt hqg) qn 2 6 pg (by omega) (by omega) (by omega)) ⟨(va_cnB 4 hts (tbG tw_308) rfl rfl rfl n212 ini_X0 (by decide +kernel) ⟨Nat.le_of_ble_eq_true rfl, Nat.le_of_ble_eq_true rfl⟩), im_yX0_putNumber, se_yX0_putNumber⟩ ⟨x_blind, va_recv hK hP (ci := 0) (q0 := 6) rfl rfl, x_pre hK hP hD hN⟩ rfl rfl hl.1 rfl (lv_room (Nat.le_of_ble_eq_true rfl)) dX5_queueHead_44 ⟨Nat.zero_le _, Nat.zero_le _⟩) hS (fun H locs hP hD hS => ?_)
  have hP : va_P (dC, dI) vwCl (wS a cB cI cL h1 h2 s1 s2 op nx wt sf lf dn dg un ug (qn + 1) (va_up qt qn (pg % 2)) (pnum 64 qn 6 (qap qn qg 3 pf) 2 pg) tn tk tv ts ef eg ex eF pf pg px pF) H := hP
  have hD : va_D A (wS a cB cI cL h1 h2 s1 s2 op nx wt sf lf dn dg un ug (qn + 1) (va_up qt qn (pg % 2)) (pnum 64 qn 6 (qap qn qg 3 pf) 2 pg) tn tk tv ts ef eg ex eF pf pg px pF) := hD
  refine lv_iconst (v := nI 0) hx hb dX5_queueHead_47 (by decide) ?_
  refine lv_istore_n (lv' := [(2, .int (nI 0)), (1, .int (nI qn)), (0, .ref (a 0))]) hx hb dX5_queueHead_48 rfl hl (by decide) rfl (fun ls hl => ?_)
  have L49 : ∀ (fu49 : Nat) (i : Nat) (g' : Nat → Nat), (pf - i < fu49) → (i ≤ pf) → (∀ q, g' q < 256) → (qh1 qn pf pF (pf - i) i g' = qh1 qn pf pF pf 0 (pnum 64 qn 6 (qap qn qg 3 pf) 2 pg)) → ∀ (H : Heap) (locs : List Loc), va_P (dC, dI) vwCl (wS a cB cI cL h1 h2 s1 s2 op nx wt sf lf dn dg un ug (qn + 1) (va_up qt qn (pg % 2)) g' tn tk tv ts ef eg ex eF pf pg px pF) H → va_D A (wS a cB cI cL h1 h2 s1 s2 op nx wt sf lf dn dg un ug (qn + 1) (va_up qt qn (pg % 2)) g' tn tk tv ts ef eg ex eF pf pg px pF) → va_S A s.heap H locs → ∀ (ls : Array Slot), lv_has ls 4 [(0, .ref (a 0)), (1, .int (nI qn)), (2, .int (nI i))] → W p l e { frames := 4, cells := 0, slots := 0, locals := 94 } s m args below meth c H locs 0 0 Q (F0 m 49 ls []) := by
    intro fu49
    induction fu49 with
    | zero => intro i g' hm; exact absurd hm (Nat.not_lt_zero _)
    | succ fu49 ih49 =>
      intro i g' hm i49_0 i49_1 i49_2 H locs hP hD hS ls hl
      refine lv_iload_n hx hb dX5_queueHead_49 rfl (lv_at hl 2 rfl) ?_
      refine lv_aload_n hx hb dX5_queueHead_50 rfl (lv_at hl 0 rfl) ?_
      refine va_get (D := (dC, dI)) (ci := 5) (v := .ref s1) (C := RX5) (T := TX5) (N := 11) hx hb hts in_X5 hown hK hP 0 rfl rfl 5 (by decide) f46 (fun _ h9 => h9) rfl dX5_queueHead_51 ?_
      refine va_getN (D := (dC, dI)) (ci := 1) (v := .int (nI pf)) (C := RX1) (T := TX1) (N := 4) hx hb hts in_X1 hown hK hP 15 rfl rfl 1 (by decide) (va_Nw.use (A := args) rfl f91) (fun _ h9 => h9) rfl dX5_queueHead_54 ?_
      refine x_icmp_ge (tgt := 106) hx hb dX5_queueHead_57 (by decide) (by omega) (by omega) (fun c57 => ?_) (fun c57 => ?_)
      · refine lv_aload_n hx hb dX5_queueHead_106 rfl (lv_at hl 0 rfl) ?_
        refine va_get (D := (dC, dI)) (ci := 5) (v := .ref (a 5)) (C := RX5) (T := TX5) (N := 11) hx hb hts in_X5 hown hK hP 0 rfl rfl 2 (by decide) f28 (fun _ h9 => h9) rfl dX5_queueHead_107 ?_
        refine va_getN (D := (dC, dI)) (ci := 2) (v := .ref (a 6)) (C := RX2) (T := TX2) (N := 3) hx hb hts in_X2 hown hK hP 5 rfl rfl 0 (by decide) (va_Nw.use (A := args) rfl f209) (fun _ h9 => h9) rfl dX5_queueHead_110 ?_
        refine lv_iload_n hx hb dX5_queueHead_113 rfl (lv_at hl 1 rfl) ?_
        refine lv_bipush (v := nI 48) hx hb dX5_queueHead_114 (by decide) ?_
        refine lv_bipush (v := nI 8) hx hb dX5_queueHead_116 (by decide) ?_
        refine lv_aload_n hx hb dX5_queueHead_118 rfl (lv_at hl 0 rfl) ?_
        refine va_get (D := (dC, dI)) (ci := 5) (v := .ref s1) (C := RX5) (T := TX5) (N := 11) hx hb hts in_X5 hown hK hP 0 rfl rfl 5 (by decide) f46 (fun _ h9 => h9) rfl dX5_queueHead_119 ?_
        refine va_getN (D := (dC, dI)) (ci := 1) (v := .int (nI px)) (C := RX1) (T := TX1) (N := 4) hx hb hts in_X1 hown hK hP 15 rfl rfl 3 (by decide) (va_Nw.use (A := args) rfl f90) (fun _ h9 => h9) rfl dX5_queueHead_122 ?_
        refine lv_i2l (v := lN px) hx hb dX5_queueHead_125 (nI_l (by omega)) ?_
        refine x_callv (va_runVN (As := [.int (nI qn), .int (nI 48), .int (nI 8), .long (lN px)]) (rest := []) ⟨hx, hb, hml, hown, hts⟩ (c_Bl_putNumber (show okB (fun qg' => wS a cB cI cL h1 h2 s1 s2 op nx wt sf lf dn dg un ug (qn + 1) (va_up qt qn (pg % 2)) qg' tn tk tv ts ef eg ex eF pf pg px pF) 6 7 (a 6) (a 7) cB 64 from ⟨fun _ => rfl, fun _ => rfl, fun _ _ => rfl⟩) (tyS_B cB cI cL) (by omega) g' i49_1 qn 48 8 px (by omega) (by omega) (by omega)) ⟨(va_cnB 4 hts (tbG tw_308) rfl rfl rfl n212 ini_X0 (by decide +kernel) ⟨Nat.le_of_ble_eq_true rfl, Nat.le_of_ble_eq_true rfl⟩), im_yX0_putNumber, se_yX0_putNumber⟩ ⟨x_blind, va_recv hK hP (ci := 0) (q0 := 6) rfl rfl, x_pre hK hP hD hN⟩ rfl rfl hl.1 rfl (lv_room (Nat.le_of_ble_eq_true rfl)) dX5_queueHead_126 ⟨Nat.zero_le _, Nat.zero_le _⟩) hS (fun H locs hP hD hS => ?_)
        have hP : va_P (dC, dI) vwCl (wS a cB cI cL h1 h2 s1 s2 op nx wt sf lf dn dg un ug (qn + 1) (va_up qt qn (pg % 2)) (pnum 64 qn 8 g' 48 px) tn tk tv ts ef eg ex eF pf pg px pF) H := hP
        have hD : va_D A (wS a cB cI cL h1 h2 s1 s2 op nx wt sf lf dn dg un ug (qn + 1) (va_up qt qn (pg % 2)) (pnum 64 qn 8 g' 48 px) tn tk tv ts ef eg ex eF pf pg px pF) := hD
        refine lv_aload_n hx hb dX5_queueHead_129 rfl (lv_at hl 0 rfl) ?_
        refine va_get (D := (dC, dI)) (ci := 5) (v := .ref (a 5)) (C := RX5) (T := TX5) (N := 11) hx hb hts in_X5 hown hK hP 0 rfl rfl 2 (by decide) f28 (fun _ h9 => h9) rfl dX5_queueHead_130 ?_
        refine lv_iload_n hx hb dX5_queueHead_133 rfl (lv_at hl 1 rfl) ?_
        refine x_callv (va_runVN (As := [.int (nI qn)]) (rest := []) ⟨hx, hb, hml, hown, hts⟩ (c_Qu_seal (by omega) (va_up_lt hqt (by omega)) (pnum_lt i49_1) qn (by omega)) ⟨(va_cnB 1 hts (tbG tw_333) rfl rfl rfl n222 ini_X2 (by decide +kernel) ⟨Nat.le_of_ble_eq_true rfl, Nat.le_of_ble_eq_true rfl⟩), im_yX2_seal, se_yX2_seal⟩ ⟨x_blind, va_recv hK hP (ci := 2) (q0 := 5) rfl rfl, x_pre hK hP hD hN⟩ rfl rfl hl.1 rfl (lv_room (Nat.le_of_ble_eq_true rfl)) dX5_queueHead_134 ⟨Nat.zero_le _, Nat.zero_le _⟩) hS (fun H locs hP hD hS => ?_)
        have hP : va_P (dC, dI) vwCl (wS a cB cI cL h1 h2 s1 s2 op nx wt sf lf dn dg un ug (qn + 1) (va_up qt qn (pg % 2)) (qsl qn (va_up qt qn (pg % 2)) (pnum 64 qn 8 g' 48 px)) tn tk tv ts ef eg ex eF pf pg px pF) H := hP
        have hD : va_D A (wS a cB cI cL h1 h2 s1 s2 op nx wt sf lf dn dg un ug (qn + 1) (va_up qt qn (pg % 2)) (qsl qn (va_up qt qn (pg % 2)) (pnum 64 qn 8 g' 48 px)) tn tk tv ts ef eg ex eF pf pg px pF) := hD
        have e1 : (qsl qn (va_up qt qn (pg % 2)) (pnum 64 qn 8 g' 48 px)) = (qhG qn pf pg px pF qt qg) := by have h := i49_2; rw [show pf - i = 0 by omega, qh1] at h; rw [h]; rfl
        have h9 : wS a cB cI cL h1 h2 s1 s2 op nx wt sf lf dn dg un ug (qn + 1) (va_up qt qn (pg % 2)) (qsl qn (va_up qt qn (pg % 2)) (pnum 64 qn 8 g' 48 px)) tn tk tv ts ef eg ex eF pf pg px pF = wS a cB cI cL h1 h2 s1 s2 op nx wt sf lf dn dg un ug (qn + 1) (va_up qt qn (pg % 2)) (qhG qn pf pg px pF qt qg) tn tk tv ts ef eg ex eF pf pg px pF := by rw [e1]
        have hP := x_wP h9 hP
        have hD := x_wD h9 hD
        exact hret dX5_queueHead_137 hP hD hS
      · refine lv_iconst (v := nI 0) hx hb dX5_queueHead_60 (by decide) ?_
        refine lv_istore_n (lv' := [(3, .int (nI 0)), (0, .ref (a 0)), (1, .int (nI qn)), (2, .int (nI i))]) hx hb dX5_queueHead_61 rfl hl (by decide) rfl (fun ls hl => ?_)
        have L62 : ∀ (fu62 : Nat) (w : Nat) (g2 : Nat → Nat), (4 - w < fu62) → (w ≤ 4) → (∀ q, g2 q < 256) → (qh2 qn pf pF i (4 - w) w g2 = qh2 qn pf pF i 4 0 g') → ∀ (H : Heap) (locs : List Loc), va_P (dC, dI) vwCl (wS a cB cI cL h1 h2 s1 s2 op nx wt sf lf dn dg un ug (qn + 1) (va_up qt qn (pg % 2)) g2 tn tk tv ts ef eg ex eF pf pg px pF) H → va_D A (wS a cB cI cL h1 h2 s1 s2 op nx wt sf lf dn dg un ug (qn + 1) (va_up qt qn (pg % 2)) g2 tn tk tv ts ef eg ex eF pf pg px pF) → va_S A s.heap H locs → ∀ (ls : Array Slot), lv_has ls 4 [(0, .ref (a 0)), (1, .int (nI qn)), (2, .int (nI i)), (3, .int (nI w))] → W p l e { frames := 4, cells := 0, slots := 0, locals := 94 } s m args below meth c H locs 0 0 Q (F0 m 62 ls []) := by
          intro fu62
          induction fu62 with
          | zero => intro w g2 hm; exact absurd hm (Nat.not_lt_zero _)
          | succ fu62 ih62 =>
            intro w g2 hm i62_0 i62_1 i62_2 H locs hP hD hS ls hl
            refine lv_iload_n hx hb dX5_queueHead_62 rfl (lv_at hl 3 rfl) ?_
            refine lv_iconst (v := nI 4) hx hb dX5_queueHead_63 (by decide) ?_
            refine x_icmp_ge (tgt := 100) hx hb dX5_queueHead_64 (by decide) (by omega) (by omega) (fun c64 => ?_) (fun c64 => ?_)
            · refine lv_iinc (v := nI (i + 1)) (lv' := [(2, .int (nI (i + 1))), (0, .ref (a 0)), (1, .int (nI qn)), (3, .int (nI w))]) hx hb dX5_queueHead_100 hl (k := 2) rfl (x_inc _) (by decide) rfl (fun ls hl => ?_)
              refine lv_goto (tgt := 49) hx hb dX5_queueHead_103 (by decide) ?_
              exact ih49 (i + 1) g2 (by omega) (by omega) (by exact i62_1) (by have h := i49_2; have z := i62_2; rw [show 4 - w = 0 by omega, qh2] at z; rw [show pf - i = (pf - (i + 1)) + 1 by omega, qh1, ← z] at h; exact h) _ _ hP hD hS ls (lv_sub hl [1, 2, 0] rfl)
            · refine lv_aload_n hx hb dX5_queueHead_67 rfl (lv_at hl 0 rfl) ?_
              refine va_get (D := (dC, dI)) (ci := 5) (v := .ref (a 5)) (C := RX5) (T := TX5) (N := 11) hx hb hts in_X5 hown hK hP 0 rfl rfl 2 (by decide) f28 (fun _ h9 => h9) rfl dX5_queueHead_68 ?_
              refine va_getN (D := (dC, dI)) (ci := 2) (v := .ref (a 6)) (C := RX2) (T := TX2) (N := 3) hx hb hts in_X2 hown hK hP 5 rfl rfl 0 (by decide) (va_Nw.use (A := args) rfl f209) (fun _ h9 => h9) rfl dX5_queueHead_71 ?_
              refine lv_iload_n hx hb dX5_queueHead_74 rfl (lv_at hl 1 rfl) ?_
              refine lv_iload_n hx hb dX5_queueHead_75 rfl (lv_at hl 2 rfl) ?_
              refine lv_iload_n hx hb dX5_queueHead_76 rfl (lv_at hl 3 rfl) ?_
              refine x_calli (va_runSN (As := [.int (nI i), .int (nI w)]) (rest := [.int (nI qn), .ref (a 6)]) ⟨hx, hb, hml, hown, hts⟩ (c_He_fieldAt i w) ⟨(va_cnB 2 hts (tbG tw_412) rfl rfl rfl n238 ini_X1 (by decide +kernel) ⟨Nat.le_of_ble_eq_true rfl, Nat.le_of_ble_eq_true rfl⟩), st_yX1_fieldAt, trivial⟩ ⟨x_blind, x_pre hK hP hD hN⟩ rfl rfl hl.1 rfl (lv_room (Nat.le_of_ble_eq_true rfl)) dX5_queueHead_77 ⟨Nat.zero_le _, Nat.zero_le _⟩) hS (fun H locs hP hD hS => ?_)
              have hP : va_P (dC, dI) vwCl (wS a cB cI cL h1 h2 s1 s2 op nx wt sf lf dn dg un ug (qn + 1) (va_up qt qn (pg % 2)) g2 tn tk tv ts ef eg ex eF pf pg px pF) H := hP
              have hD : va_D A (wS a cB cI cL h1 h2 s1 s2 op nx wt sf lf dn dg un ug (qn + 1) (va_up qt qn (pg % 2)) g2 tn tk tv ts ef eg ex eF pf pg px pF) := hD
              refine lv_iconst (v := nI 2) hx hb dX5_queueHead_80 (by decide) ?_
              refine lv_aload_n hx hb dX5_queueHead_81 rfl (lv_at hl 0 rfl) ?_
              refine va_get (D := (dC, dI)) (ci := 5) (v := .ref s1) (C := RX5) (T := TX5) (N := 11) hx hb hts in_X5 hown hK hP 0 rfl rfl 5 (by decide) f46 (fun _ h9 => h9) rfl dX5_queueHead_82 ?_
              refine lv_iload_n hx hb dX5_queueHead_85 rfl (lv_at hl 2 rfl) ?_
              refine lv_iload_n hx hb dX5_queueHead_86 rfl (lv_at hl 3 rfl) ?_
              refine x_calli (va_runVN (As := [.int (nI i), .int (nI w)]) (rest := [.int (nI 2), .int (nI (8 + 2 * (i * 4 + w))), .int (nI qn), .ref (a 6)]) ⟨hx, hb, hml, hown, hts⟩ (c_He_field (show okH (fun pf' pg' px' pF' => wS a cB cI cL h1 h2 s1 s2 op nx wt sf lf dn dg un ug (qn + 1) (va_up qt qn (pg % 2)) g2 tn tk tv ts ef eg ex eF pf' pg' px' pF') 15 16 s1 s2 cI from ⟨fun _ _ _ _ => rfl, fun _ _ _ _ => rfl, fun _ _ _ _ _ _ _ => rfl, fun _ _ _ _ _ => rfl⟩) (tyS_I cB cI cL) pf pg px pF i w (by omega) (by omega) (by omega)) ⟨(va_cnB 2 hts (tbG tw_387) rfl rfl rfl n157 ini_X1 (by decide +kernel) ⟨Nat.le_of_ble_eq_true rfl, Nat.le_of_ble_eq_true rfl⟩), im_yX1_field, se_yX1_field⟩ ⟨x_blind, va_recv hK hP (ci := 1) (q0 := 15) rfl rfl, x_pre hK hP hD hN⟩ rfl rfl hl.1 rfl (lv_room (Nat.le_of_ble_eq_true rfl)) dX5_queueHead_87 ⟨Nat.zero_le _, Nat.zero_le _⟩) hS (fun H locs hP hD hS => ?_)
              have hP : va_P (dC, dI) vwCl (wS a cB cI cL h1 h2 s1 s2 op nx wt sf lf dn dg un ug (qn + 1) (va_up qt qn (pg % 2)) g2 tn tk tv ts ef eg ex eF pf pg px pF) H := hP
              have hD : va_D A (wS a cB cI cL h1 h2 s1 s2 op nx wt sf lf dn dg un ug (qn + 1) (va_up qt qn (pg % 2)) g2 tn tk tv ts ef eg ex eF pf pg px pF) := hD
              have hv87 : hfl pf pF i w < 1048576 := hfl_lt hpF
              refine lv_i2l (v := lN (hfl pf pF i w)) hx hb dX5_queueHead_90 (nI_l (by omega)) ?_
              refine x_callv (va_runVN (As := [.int (nI qn), .int (nI (8 + 2 * (i * 4 + w))), .int (nI 2), .long (lN (hfl pf pF i w))]) (rest := []) ⟨hx, hb, hml, hown, hts⟩ (c_Bl_putNumber (show okB (fun qg' => wS a cB cI cL h1 h2 s1 s2 op nx wt sf lf dn dg un ug (qn + 1) (va_up qt qn (pg % 2)) qg' tn tk tv ts ef eg ex eF pf pg px pF) 6 7 (a 6) (a 7) cB 64 from ⟨fun _ => rfl, fun _ => rfl, fun _ _ => rfl⟩) (tyS_B cB cI cL) (by omega) g2 i62_1 qn (8 + 2 * (i * 4 + w)) 2 (hfl pf pF i w) (by omega) (by omega) (by omega)) ⟨(va_cnB 4 hts (tbG tw_308) rfl rfl rfl n212 ini_X0 (by decide +kernel) ⟨Nat.le_of_ble_eq_true rfl, Nat.le_of_ble_eq_true rfl⟩), im_yX0_putNumber, se_yX0_putNumber⟩ ⟨x_blind, va_recv hK hP (ci := 0) (q0 := 6) rfl rfl, x_pre hK hP hD hN⟩ rfl rfl hl.1 rfl (lv_room (Nat.le_of_ble_eq_true rfl)) dX5_queueHead_91 ⟨Nat.zero_le _, Nat.zero_le _⟩) hS (fun H locs hP hD hS => ?_)
              have hP : va_P (dC, dI) vwCl (wS a cB cI cL h1 h2 s1 s2 op nx wt sf lf dn dg un ug (qn + 1) (va_up qt qn (pg % 2)) (pnum 64 qn 2 g2 (8 + 2 * (i * 4 + w)) (hfl pf pF i w)) tn tk tv ts ef eg ex eF pf pg px pF) H := hP
              have hD : va_D A (wS a cB cI cL h1 h2 s1 s2 op nx wt sf lf dn dg un ug (qn + 1) (va_up qt qn (pg % 2)) (pnum 64 qn 2 g2 (8 + 2 * (i * 4 + w)) (hfl pf pF i w)) tn tk tv ts ef eg ex eF pf pg px pF) := hD
              refine lv_iinc (v := nI (w + 1)) (lv' := [(3, .int (nI (w + 1))), (0, .ref (a 0)), (1, .int (nI qn)), (2, .int (nI i))]) hx hb dX5_queueHead_94 hl (k := 3) rfl (x_inc _) (by decide) rfl (fun ls hl => ?_)
              refine lv_goto (tgt := 62) hx hb dX5_queueHead_97 (by decide) ?_
              exact ih62 (w + 1) (pnum 64 qn 2 g2 (8 + 2 * (i * 4 + w)) (hfl pf pF i w)) (by omega) (by omega) (by exact pnum_lt i62_1) (by have h := i62_2; rw [show 4 - w = (4 - (w + 1)) + 1 by omega, qh2] at h; exact h) _ _ hP hD hS ls (lv_sub hl [1, 2, 3, 0] rfl)
        exact L62 (4 - 0 + 1) 0 g' (by omega) (by omega) (by exact i49_1) (by rfl) _ _ hP hD hS ls (lv_sub hl [1, 2, 3, 0] rfl)
  exact L49 (pf - 0 + 1) 0 (pnum 64 qn 6 (qap qn qg 3 pf) 2 pg) (by omega) (by omega) (by exact pnum_lt (qap_lt hqg)) (by rfl) _ _ hP hD hS ls (lv_sub hl [2, 1, 0] rfl)

set_option maxHeartbeats 4000000 in
set_option maxRecDepth 100000 in
theorem c_SL_takePlannedHead {l : Launch} {dC : Nat → ClassId} {dI : Nat → Nat → Nat} {A : Nat → Prop} {a : Nat → Nat} {cB cI cL : ClassId} {h1 h2 s1 s2 : Nat} {op : Bool} {nx wt sf lf dn : Nat} {dg : Nat → Nat} {un : Nat} {ug : Nat → Nat} {qn : Nat} {qt qg : Nat → Nat} {tn : Nat} {tk tv : Nat → Int64} {ts : Nat → Nat} {ef eg ex : Nat} {eF : Nat → Nat} {pf pg px : Nat} {pF : Nat → Nat} (hun : un ≤ 64) (htn : tn ≤ 192) (hug : ∀ j, ug j < 8) (hs : ∀ j, ts j < 2 ^ 31) (heF : ∀ j, eF j < 1048576) (hpF : ∀ j, pF j < 1048576) (hpf : pf ≤ 5) (hnx : nx < 2 ^ 30) (mg : Bool) (hp0 : 0 < pf) (hn0 : 0 < nx) : Met l yX5_takePlannedHead (Cond.code yX5_takePlannedHead cX5_takePlannedHead 3 none :: TB) { frames := 1, cells := 0, slots := 0, locals := 25 } (xPre Nst (dC, dI) A (tyS cB cI cL) (wS a cB cI cL h1 h2 s1 s2 op nx wt sf lf dn dg un ug qn qt qg tn tk tv ts ef eg ex eF pf pg px pF) [.ref (a 0), .int (bI mg)]) (xQv (dC, dI) A (wS a cB cI cL s1 s2 h1 h2 op nx 0 (nx - 1) (hfl pf pF (pf - 1) 0) dn dg un (umk un (hfl pf pF (pf - 1) 1) 2 (hfl pf pF (pf - 1) 2) (tkU mg un ug) 0) qn qt qg tn tk tv (tset tn ts 0) pf pg px pF ef eg ex eF)) 0 0 A := by
  refine x_ofWv (cc := cX5_takePlannedHead) (maxL := 3) (by decide) rfl (Nat.le_of_ble_eq_true rfl) ?_
  intro p e s m args below meth c Q hx hb hml hts hown hK hN hP hD hS hret ls hl
  have hl : lv_has ls 3 [(0, .ref (a 0)), (1, .int (bI mg))] := hl
  have hown : s.vm.findClass RX5 = some m.cls := hown
  have f42 := hts _ (List.mem_cons_of_mem _ tw_211)
  have in_X5 := (fun q hq => List.mem_cons_of_mem _ (inX5 q hq) : ∀ q ∈ wsX50, q ∈ (Cond.code yX5_takePlannedHead cX5_takePlannedHead 3 none :: TB))
  have f91 := hN (.fieldLinkNest RX5 91 "SegmentLog$Head" "files" "I" "SegmentLog") (by decide +kernel)
  have in_X1 := (fun q hq => List.mem_cons_of_mem _ (inX1 q hq) : ∀ q ∈ wsX10, q ∈ (Cond.code yX5_takePlannedHead cX5_takePlannedHead 3 none :: TB))
  have f21 := hts _ (List.mem_cons_of_mem _ tw_208)
  have n244 := hN (.methodLinkNest RX5 244 yX4_turn "SegmentLog") (by decide +kernel)
  have ini_X4 := hts _ (List.mem_cons_of_mem _ tw_86)
  have im_yX4_turn := hts _ (List.mem_cons_of_mem _ tw_423)
  have se_yX4_turn := hts _ (List.mem_cons_of_mem _ tw_37)
  have n157 := hN (.methodLinkNest RX5 157 yX1_field "SegmentLog") (by decide +kernel)
  have ini_X1 := hts _ (List.mem_cons_of_mem _ tw_90)
  have im_yX1_field := hts _ (List.mem_cons_of_mem _ tw_386)
  have se_yX1_field := hts _ (List.mem_cons_of_mem _ tw_30)
  have n225 := hN (.methodLinkNest RX5 225 yX4_mark "SegmentLog") (by decide +kernel)
  have im_yX4_mark := hts _ (List.mem_cons_of_mem _ tw_130)
  have se_yX4_mark := hts _ (List.mem_cons_of_mem _ tw_1)
  have f190 := hts _ (List.mem_cons_of_mem _ tw_217)
  have f35 := hts _ (List.mem_cons_of_mem _ tw_210)
  have n248 := hN (.methodLinkNest RX5 248 yX3_settle "SegmentLog") (by decide +kernel)
  have ini_X3 := hts _ (List.mem_cons_of_mem _ tw_89)
  have im_yX3_settle := hts _ (List.mem_cons_of_mem _ tw_427)
  have se_yX3_settle := hts _ (List.mem_cons_of_mem _ tw_38)
  have f66 := hts _ (List.mem_cons_of_mem _ tw_215)
  have f53 := hts _ (List.mem_cons_of_mem _ tw_214)
  have f80 := hts _ (List.mem_cons_of_mem _ tw_216)
  refine lv_aload_n hx hb dX5_takePlannedHead_0 rfl (lv_at hl 0 rfl) ?_
  refine x_callv (va_runV (As := []) (rest := []) ⟨hx, hb, hml, hown, hts⟩ (c_SL_swapHeads) (cwV 0 hts (tbV tw_417 tw_419 tw_36 tw_84 tw_420) rfl rfl rfl (by decide +kernel) ⟨Nat.le_of_ble_eq_true rfl, Nat.le_of_ble_eq_true rfl⟩) ⟨x_blind, va_recv hK hP (ci := 5) (q0 := 0) rfl rfl, x_pre hK hP hD hN⟩ rfl rfl hl.1 rfl (lv_room (Nat.le_of_ble_eq_true rfl)) dX5_takePlannedHead_1 ⟨Nat.zero_le _, Nat.zero_le _⟩) hS (fun H locs hP hD hS => ?_)
  have hP : va_P (dC, dI) vwCl (wS a cB cI cL s1 s2 h1 h2 op nx wt sf lf dn dg un ug qn qt qg tn tk tv ts pf pg px pF ef eg ex eF) H := hP
  have hD : va_D A (wS a cB cI cL s1 s2 h1 h2 op nx wt sf lf dn dg un ug qn qt qg tn tk tv ts pf pg px pF ef eg ex eF) := hD
  refine lv_aload_n hx hb dX5_takePlannedHead_4 rfl (lv_at hl 0 rfl) ?_
  refine va_get (D := (dC, dI)) (ci := 5) (v := .ref s1) (C := RX5) (T := TX5) (N := 11) hx hb hts in_X5 hown hK hP 0 rfl rfl 4 (by decide) f42 (fun _ h9 => h9) rfl dX5_takePlannedHead_5 ?_
  refine va_getN (D := (dC, dI)) (ci := 1) (v := .int (nI pf)) (C := RX1) (T := TX1) (N := 4) hx hb hts in_X1 hown hK hP 13 rfl rfl 1 (by decide) (va_Nw.use (A := args) rfl f91) (fun _ h9 => h9) rfl dX5_takePlannedHead_8 ?_
  refine lv_iconst (v := nI 1) hx hb dX5_takePlannedHead_11 (by decide) ?_
  refine x_isub hx hb dX5_takePlannedHead_12 (by omega) ?_
  refine lv_istore_n (lv' := [(2, .int (nI (pf - 1))), (0, .ref (a 0)), (1, .int (bI mg))]) hx hb dX5_takePlannedHead_13 rfl hl (by decide) rfl (fun ls hl => ?_)
  refine lv_aload_n hx hb dX5_takePlannedHead_14 rfl (lv_at hl 1 rfl) ?_
  refine va_get (D := (dC, dI)) (ci := 5) (v := .ref (a 3)) (C := RX5) (T := TX5) (N := 11) hx hb hts in_X5 hown hK hP 0 rfl rfl 1 (by decide) f21 (fun _ h9 => h9) rfl dX5_takePlannedHead_15 ?_
  refine lv_iconst (v := nI 1) hx hb dX5_takePlannedHead_18 (by decide) ?_
  refine lv_iconst (v := nI 0) hx hb dX5_takePlannedHead_19 (by decide) ?_
  refine x_callv (va_runVN (As := [.int (nI 1), .int (nI 0)]) (rest := []) ⟨hx, hb, hml, hown, hts⟩ (c_Us_turn (show okU (fun ug' => wS a cB cI cL s1 s2 h1 h2 op nx wt sf lf dn dg un ug' qn qt qg tn tk tv ts pf pg px pF ef eg ex eF) 3 4 (a 3) (a 4) cI un from ⟨fun _ => rfl, fun _ => rfl, fun _ _ => rfl⟩) (tyS_I cB cI cL) (by omega) ug hug 1 0 (by omega) (by omega)) ⟨(va_cnB 2 hts (tbG tw_424) rfl rfl rfl n244 ini_X4 (by decide +kernel) ⟨Nat.le_of_ble_eq_true rfl, Nat.le_of_ble_eq_true rfl⟩), im_yX4_turn, se_yX4_turn⟩ ⟨x_blind, va_recv hK hP (ci := 4) (q0 := 3) rfl rfl, x_pre hK hP hD hN⟩ rfl rfl hl.1 rfl (lv_room (Nat.le_of_ble_eq_true rfl)) dX5_takePlannedHead_20 ⟨Nat.zero_le _, Nat.zero_le _⟩) hS (fun H locs hP hD hS => ?_)
  have hP : va_P (dC, dI) vwCl (wS a cB cI cL s1 s2 h1 h2 op nx wt sf lf dn dg un (utn 1 0 un ug 0) qn qt qg tn tk tv ts pf pg px pF ef eg ex eF) H := hP
  have hD : va_D A (wS a cB cI cL s1 s2 h1 h2 op nx wt sf lf dn dg un (utn 1 0 un ug 0) qn qt qg tn tk tv ts pf pg px pF ef eg ex eF) := hD
  refine lv_iload_n hx hb dX5_takePlannedHead_23 rfl (lv_at hl 2 rfl) ?_
  refine x_if_eq_b (tgt := 36) hx hb dX5_takePlannedHead_24 (by decide) (fun c24 => ?_) (fun c24 => ?_)
  · refine lv_aload_n hx hb dX5_takePlannedHead_36 rfl (lv_at hl 1 rfl) ?_
    refine va_get (D := (dC, dI)) (ci := 5) (v := .ref (a 3)) (C := RX5) (T := TX5) (N := 11) hx hb hts in_X5 hown hK hP 0 rfl rfl 1 (by decide) f21 (fun _ h9 => h9) rfl dX5_takePlannedHead_37 ?_
    refine lv_aload_n hx hb dX5_takePlannedHead_40 rfl (lv_at hl 1 rfl) ?_
    refine va_get (D := (dC, dI)) (ci := 5) (v := .ref s1) (C := RX5) (T := TX5) (N := 11) hx hb hts in_X5 hown hK hP 0 rfl rfl 4 (by decide) f42 (fun _ h9 => h9) rfl dX5_takePlannedHead_41 ?_
    refine lv_iload_n hx hb dX5_takePlannedHead_44 rfl (lv_at hl 0 rfl) ?_
    refine lv_iconst (v := nI 1) hx hb dX5_takePlannedHead_45 (by decide) ?_
    refine x_calli (va_runVN (As := [.int (nI (pf - 1)), .int (nI 1)]) (rest := [.ref (a 3)]) ⟨hx, hb, hml, hown, hts⟩ (c_He_field (show okH (fun ef' eg' ex' eF' => wS a cB cI cL s1 s2 h1 h2 op nx wt sf lf dn dg un (utn 1 0 un ug 0) qn qt qg tn tk tv ts ef' eg' ex' eF' ef eg ex eF) 13 14 s1 s2 cI from ⟨fun _ _ _ _ => rfl, fun _ _ _ _ => rfl, fun _ _ _ _ _ _ _ => rfl, fun _ _ _ _ _ => rfl⟩) (tyS_I cB cI cL) pf pg px pF (pf - 1) 1 (by omega) (by omega) (by omega)) ⟨(va_cnB 2 hts (tbG tw_387) rfl rfl rfl n157 ini_X1 (by decide +kernel) ⟨Nat.le_of_ble_eq_true rfl, Nat.le_of_ble_eq_true rfl⟩), im_yX1_field, se_yX1_field⟩ ⟨x_blind, va_recv hK hP (ci := 1) (q0 := 13) rfl rfl, x_pre hK hP hD hN⟩ rfl rfl hl.1 rfl (lv_room (Nat.le_of_ble_eq_true rfl)) dX5_takePlannedHead_46 ⟨Nat.zero_le _, Nat.zero_le _⟩) hS (fun H locs hP hD hS => ?_)
    have hP : va_P (dC, dI) vwCl (wS a cB cI cL s1 s2 h1 h2 op nx wt sf lf dn dg un (utn 1 0 un ug 0) qn qt qg tn tk tv ts pf pg px pF ef eg ex eF) H := hP
    have hD : va_D A (wS a cB cI cL s1 s2 h1 h2 op nx wt sf lf dn dg un (utn 1 0 un ug 0) qn qt qg tn tk tv ts pf pg px pF ef eg ex eF) := hD
    have hv46 : hfl pf pF (pf - 1) 1 < 1048576 := hfl_lt hpF
    refine lv_aload_n hx hb dX5_takePlannedHead_49 rfl (lv_at hl 1 rfl) ?_
    refine va_get (D := (dC, dI)) (ci := 5) (v := .ref s1) (C := RX5) (T := TX5) (N := 11) hx hb hts in_X5 hown hK hP 0 rfl rfl 4 (by decide) f42 (fun _ h9 => h9) rfl dX5_takePlannedHead_50 ?_
    refine lv_iload_n hx hb dX5_takePlannedHead_53 rfl (lv_at hl 0 rfl) ?_
    refine lv_iconst (v := nI 2) hx hb dX5_takePlannedHead_54 (by decide) ?_
    refine x_calli (va_runVN (As := [.int (nI (pf - 1)), .int (nI 2)]) (rest := [.int (nI (hfl pf pF (pf - 1) 1)), .ref (a 3)]) ⟨hx, hb, hml, hown, hts⟩ (c_He_field (show okH (fun ef' eg' ex' eF' => wS a cB cI cL s1 s2 h1 h2 op nx wt sf lf dn dg un (utn 1 0 un ug 0) qn qt qg tn tk tv ts ef' eg' ex' eF' ef eg ex eF) 13 14 s1 s2 cI from ⟨fun _ _ _ _ => rfl, fun _ _ _ _ => rfl, fun _ _ _ _ _ _ _ => rfl, fun _ _ _ _ _ => rfl⟩) (tyS_I cB cI cL) pf pg px pF (pf - 1) 2 (by omega) (by omega) (by omega)) ⟨(va_cnB 2 hts (tbG tw_387) rfl rfl rfl n157 ini_X1 (by decide +kernel) ⟨Nat.le_of_ble_eq_true rfl, Nat.le_of_ble_eq_true rfl⟩), im_yX1_field, se_yX1_field⟩ ⟨x_blind, va_recv hK hP (ci := 1) (q0 := 13) rfl rfl, x_pre hK hP hD hN⟩ rfl rfl hl.1 rfl (lv_room (Nat.le_of_ble_eq_true rfl)) dX5_takePlannedHead_55 ⟨Nat.zero_le _, Nat.zero_le _⟩) hS (fun H locs hP hD hS => ?_)
    have hP : va_P (dC, dI) vwCl (wS a cB cI cL s1 s2 h1 h2 op nx wt sf lf dn dg un (utn 1 0 un ug 0) qn qt qg tn tk tv ts pf pg px pF ef eg ex eF) H := hP
    have hD : va_D A (wS a cB cI cL s1 s2 h1 h2 op nx wt sf lf dn dg un (utn 1 0 un ug 0) qn qt qg tn tk tv ts pf pg px pF ef eg ex eF) := hD
    have hv55 : hfl pf pF (pf - 1) 2 < 1048576 := hfl_lt hpF
    refine lv_iconst (v := nI 2) hx hb dX5_takePlannedHead_58 (by decide) ?_
    refine x_callv (va_runVN (As := [.int (nI (hfl pf pF (pf - 1) 1)), .int (nI (hfl pf pF (pf - 1) 2)), .int (nI 2)]) (rest := []) ⟨hx, hb, hml, hown, hts⟩ (c_Us_mark (show okU (fun ug' => wS a cB cI cL s1 s2 h1 h2 op nx wt sf lf dn dg un ug' qn qt qg tn tk tv ts pf pg px pF ef eg ex eF) 3 4 (a 3) (a 4) cI un from ⟨fun _ => rfl, fun _ => rfl, fun _ _ => rfl⟩) (tyS_I cB cI cL) (by omega) (utn 1 0 un ug 0) (utn_lt hug (by decide)) (hfl pf pF (pf - 1) 1) (hfl pf pF (pf - 1) 2) 2 (by omega) (by omega)) ⟨(va_cnB 3 hts (tbG tw_131) rfl rfl rfl n225 ini_X4 (by decide +kernel) ⟨Nat.le_of_ble_eq_true rfl, Nat.le_of_ble_eq_true rfl⟩), im_yX4_mark, se_yX4_mark⟩ ⟨x_blind, va_recv hK hP (ci := 4) (q0 := 3) rfl rfl, x_pre hK hP hD hN⟩ rfl rfl hl.1 rfl (lv_room (Nat.le_of_ble_eq_true rfl)) dX5_takePlannedHead_59 ⟨Nat.zero_le _, Nat.zero_le _⟩) hS (fun H locs hP hD hS => ?_)
    have hP : va_P (dC, dI) vwCl (wS a cB cI cL s1 s2 h1 h2 op nx wt sf lf dn dg un (umk un (hfl pf pF (pf - 1) 1) 2 (hfl pf pF (pf - 1) 2) (utn 1 0 un ug 0) 0) qn qt qg tn tk tv ts pf pg px pF ef eg ex eF) H := hP
    have hD : va_D A (wS a cB cI cL s1 s2 h1 h2 op nx wt sf lf dn dg un (umk un (hfl pf pF (pf - 1) 1) 2 (hfl pf pF (pf - 1) 2) (utn 1 0 un ug 0) 0) qn qt qg tn tk tv ts pf pg px pF ef eg ex eF) := hD
    refine lv_aload_n hx hb dX5_takePlannedHead_62 rfl (lv_at hl 1 rfl) ?_
    refine lv_aload_n hx hb dX5_takePlannedHead_63 rfl (lv_at hl 1 rfl) ?_
    refine va_get (D := (dC, dI)) (ci := 5) (v := .ref s1) (C := RX5) (T := TX5) (N := 11) hx hb hts in_X5 hown hK hP 0 rfl rfl 4 (by decide) f42 (fun _ h9 => h9) rfl dX5_takePlannedHead_64 ?_
    refine lv_iload_n hx hb dX5_takePlannedHead_67 rfl (lv_at hl 0 rfl) ?_
    refine lv_iconst (v := nI 0) hx hb dX5_takePlannedHead_68 (by decide) ?_
    refine x_calli (va_runVN (As := [.int (nI (pf - 1)), .int (nI 0)]) (rest := [.ref (a 0)]) ⟨hx, hb, hml, hown, hts⟩ (c_He_field (show okH (fun ef' eg' ex' eF' => wS a cB cI cL s1 s2 h1 h2 op nx wt sf lf dn dg un (umk un (hfl pf pF (pf - 1) 1) 2 (hfl pf pF (pf - 1) 2) (utn 1 0 un ug 0) 0) qn qt qg tn tk tv ts ef' eg' ex' eF' ef eg ex eF) 13 14 s1 s2 cI from ⟨fun _ _ _ _ => rfl, fun _ _ _ _ => rfl, fun _ _ _ _ _ _ _ => rfl, fun _ _ _ _ _ => rfl⟩) (tyS_I cB cI cL) pf pg px pF (pf - 1) 0 (by omega) (by omega) (by omega)) ⟨(va_cnB 2 hts (tbG tw_387) rfl rfl rfl n157 ini_X1 (by decide +kernel) ⟨Nat.le_of_ble_eq_true rfl, Nat.le_of_ble_eq_true rfl⟩), im_yX1_field, se_yX1_field⟩ ⟨x_blind, va_recv hK hP (ci := 1) (q0 := 13) rfl rfl, x_pre hK hP hD hN⟩ rfl rfl hl.1 rfl (lv_room (Nat.le_of_ble_eq_true rfl)) dX5_takePlannedHead_69 ⟨Nat.zero_le _, Nat.zero_le _⟩) hS (fun H locs hP hD hS => ?_)
    have hP : va_P (dC, dI) vwCl (wS a cB cI cL s1 s2 h1 h2 op nx wt sf lf dn dg un (umk un (hfl pf pF (pf - 1) 1) 2 (hfl pf pF (pf - 1) 2) (utn 1 0 un ug 0) 0) qn qt qg tn tk tv ts pf pg px pF ef eg ex eF) H := hP
    have hD : va_D A (wS a cB cI cL s1 s2 h1 h2 op nx wt sf lf dn dg un (umk un (hfl pf pF (pf - 1) 1) 2 (hfl pf pF (pf - 1) 2) (utn 1 0 un ug 0) 0) qn qt qg tn tk tv ts pf pg px pF ef eg ex eF) := hD
    have hv69 : hfl pf pF (pf - 1) 0 < 1048576 := hfl_lt hpF
    refine va_put (D := (dC, dI)) (ci := 5) (v := .int (nI (hfl pf pF (pf - 1) 0))) (ty := .int) (C := RX5) (T := TX5) (N := 11) hx hb hts in_X5 tyX5 tyX5_ok nmX5 hown hK hP hD hS 0 rfl rfl 10 (by decide) f190 (fun _ h9 => h9) rfl (by decide +kernel) rfl rfl (Nat.le_of_ble_eq_true rfl) dX5_takePlannedHead_72 (fun H locs hP hD hS => ?_)
    have hP : va_P (dC, dI) vwCl (wS a cB cI cL s1 s2 h1 h2 op nx wt sf (hfl pf pF (pf - 1) 0) dn dg un (umk un (hfl pf pF (pf - 1) 1) 2 (hfl pf pF (pf - 1) 2) (utn 1 0 un ug 0) 0) qn qt qg tn tk tv ts pf pg px pF ef eg ex eF) H := hP
    have hD : va_D A (wS a cB cI cL s1 s2 h1 h2 op nx wt sf (hfl pf pF (pf - 1) 0) dn dg un (umk un (hfl pf pF (pf - 1) 1) 2 (hfl pf pF (pf - 1) 2) (utn 1 0 un ug 0) 0) qn qt qg tn tk tv ts pf pg px pF ef eg ex eF) := hD
    refine lv_aload_n hx hb dX5_takePlannedHead_75 rfl (lv_at hl 1 rfl) ?_
    refine va_get (D := (dC, dI)) (ci := 5) (v := .ref (a 9)) (C := RX5) (T := TX5) (N := 11) hx hb hts in_X5 hown hK hP 0 rfl rfl 3 (by decide) f35 (fun _ h9 => h9) rfl dX5_takePlannedHead_76 ?_
    refine x_callv (va_runVN (As := []) (rest := []) ⟨hx, hb, hml, hown, hts⟩ (c_Ta_settle (by omega)) ⟨(va_cnB 0 hts (tbG tw_428) rfl rfl rfl n248 ini_X3 (by decide +kernel) ⟨Nat.le_of_ble_eq_true rfl, Nat.le_of_ble_eq_true rfl⟩), im_yX3_settle, se_yX3_settle⟩ ⟨x_blind, va_recv hK hP (ci := 3) (q0 := 9) rfl rfl, x_pre hK hP hD hN⟩ rfl rfl hl.1 rfl (lv_room (Nat.le_of_ble_eq_true rfl)) dX5_takePlannedHead_79 ⟨Nat.zero_le _, Nat.zero_le _⟩) hS (fun H locs hP hD hS => ?_)
    have hP : va_P (dC, dI) vwCl (wS a cB cI cL s1 s2 h1 h2 op nx wt sf (hfl pf pF (pf - 1) 0) dn dg un (umk un (hfl pf pF (pf - 1) 1) 2 (hfl pf pF (pf - 1) 2) (utn 1 0 un ug 0) 0) qn qt qg tn tk tv (tset tn ts 0) pf pg px pF ef eg ex eF) H := hP
    have hD : va_D A (wS a cB cI cL s1 s2 h1 h2 op nx wt sf (hfl pf pF (pf - 1) 0) dn dg un (umk un (hfl pf pF (pf - 1) 1) 2 (hfl pf pF (pf - 1) 2) (utn 1 0 un ug 0) 0) qn qt qg tn tk tv (tset tn ts 0) pf pg px pF ef eg ex eF) := hD
    refine lv_aload_n hx hb dX5_takePlannedHead_82 rfl (lv_at hl 1 rfl) ?_
    refine lv_iconst (v := nI 0) hx hb dX5_takePlannedHead_83 (by decide) ?_
    refine va_put (D := (dC, dI)) (ci := 5) (v := .int (nI 0)) (ty := .int) (C := RX5) (T := TX5) (N := 11) hx hb hts in_X5 tyX5 tyX5_ok nmX5 hown hK hP hD hS 0 rfl rfl 8 (by decide) f66 (fun _ h9 => h9) rfl (by decide +kernel) rfl rfl (Nat.le_of_ble_eq_true rfl) dX5_takePlannedHead_84 (fun H locs hP hD hS => ?_)
    have hP : va_P (dC, dI) vwCl (wS a cB cI cL s1 s2 h1 h2 op nx 0 sf (hfl pf pF (pf - 1) 0) dn dg un (umk un (hfl pf pF (pf - 1) 1) 2 (hfl pf pF (pf - 1) 2) (utn 1 0 un ug 0) 0) qn qt qg tn tk tv (tset tn ts 0) pf pg px pF ef eg ex eF) H := hP
    have hD : va_D A (wS a cB cI cL s1 s2 h1 h2 op nx 0 sf (hfl pf pF (pf - 1) 0) dn dg un (umk un (hfl pf pF (pf - 1) 1) 2 (hfl pf pF (pf - 1) 2) (utn 1 0 un ug 0) 0) qn qt qg tn tk tv (tset tn ts 0) pf pg px pF ef eg ex eF) := hD
    refine lv_aload_n hx hb dX5_takePlannedHead_87 rfl (lv_at hl 1 rfl) ?_
    refine lv_aload_n hx hb dX5_takePlannedHead_88 rfl (lv_at hl 1 rfl) ?_
    refine va_get (D := (dC, dI)) (ci := 5) (v := .int (nI nx)) (C := RX5) (T := TX5) (N := 11) hx hb hts in_X5 hown hK hP 0 rfl rfl 7 (by decide) f53 (fun _ h9 => h9) rfl dX5_takePlannedHead_89 ?_
    refine lv_iconst (v := nI 1) hx hb dX5_takePlannedHead_92 (by decide) ?_
    refine x_isub hx hb dX5_takePlannedHead_93 (by omega) ?_
    refine va_put (D := (dC, dI)) (ci := 5) (v := .int (nI (nx - 1))) (ty := .int) (C := RX5) (T := TX5) (N := 11) hx hb hts in_X5 tyX5 tyX5_ok nmX5 hown hK hP hD hS 0 rfl rfl 9 (by decide) f80 (fun _ h9 => h9) rfl (by decide +kernel) rfl rfl (Nat.le_of_ble_eq_true rfl) dX5_takePlannedHead_94 (fun H locs hP hD hS => ?_)
    have hP : va_P (dC, dI) vwCl (wS a cB cI cL s1 s2 h1 h2 op nx 0 (nx - 1) (hfl pf pF (pf - 1) 0) dn dg un (umk un (hfl pf pF (pf - 1) 1) 2 (hfl pf pF (pf - 1) 2) (utn 1 0 un ug 0) 0) qn qt qg tn tk tv (tset tn ts 0) pf pg px pF ef eg ex eF) H := hP
    have hD : va_D A (wS a cB cI cL s1 s2 h1 h2 op nx 0 (nx - 1) (hfl pf pF (pf - 1) 0) dn dg un (umk un (hfl pf pF (pf - 1) 1) 2 (hfl pf pF (pf - 1) 2) (utn 1 0 un ug 0) 0) qn qt qg tn tk tv (tset tn ts 0) pf pg px pF ef eg ex eF) := hD
    have e1 : (umk un (hfl pf pF (pf - 1) 1) 2 (hfl pf pF (pf - 1) 2) (utn 1 0 un ug 0) 0) = (umk un (hfl pf pF (pf - 1) 1) 2 (hfl pf pF (pf - 1) 2) (tkU mg un ug) 0) := by simp [tkU, c24]
    have h9 : wS a cB cI cL s1 s2 h1 h2 op nx 0 (nx - 1) (hfl pf pF (pf - 1) 0) dn dg un (umk un (hfl pf pF (pf - 1) 1) 2 (hfl pf pF (pf - 1) 2) (utn 1 0 un ug 0) 0) qn qt qg tn tk tv (tset tn ts 0) pf pg px pF ef eg ex eF = wS a cB cI cL s1 s2 h1 h2 op nx 0 (nx - 1) (hfl pf pF (pf - 1) 0) dn dg un (umk un (hfl pf pF (pf - 1) 1) 2 (hfl pf pF (pf - 1) 2) (tkU mg un ug) 0) qn qt qg tn tk tv (tset tn ts 0) pf pg px pF ef eg ex eF := by rw [e1]
    have hP := x_wP h9 hP
    have hD := x_wD h9 hD
    exact hret dX5_takePlannedHead_97 hP hD hS
  · refine lv_aload_n hx hb dX5_takePlannedHead_27 rfl (lv_at hl 1 rfl) ?_
    refine va_get (D := (dC, dI)) (ci := 5) (v := .ref (a 3)) (C := RX5) (T := TX5) (N := 11) hx hb hts in_X5 hown hK hP 0 rfl rfl 1 (by decide) f21 (fun _ h9 => h9) rfl dX5_takePlannedHead_28 ?_
    refine lv_iconst (v := nI 2) hx hb dX5_takePlannedHead_31 (by decide) ?_
    refine lv_iconst (v := nI 0) hx hb dX5_takePlannedHead_32 (by decide) ?_
    refine x_callv (va_runVN (As := [.int (nI 2), .int (nI 0)]) (rest := []) ⟨hx, hb, hml, hown, hts⟩ (c_Us_turn (show okU (fun ug' => wS a cB cI cL s1 s2 h1 h2 op nx wt sf lf dn dg un ug' qn qt qg tn tk tv ts pf pg px pF ef eg ex eF) 3 4 (a 3) (a 4) cI un from ⟨fun _ => rfl, fun _ => rfl, fun _ _ => rfl⟩) (tyS_I cB cI cL) (by omega) (utn 1 0 un ug 0) (utn_lt hug (by decide)) 2 0 (by omega) (by omega)) ⟨(va_cnB 2 hts (tbG tw_424) rfl rfl rfl n244 ini_X4 (by decide +kernel) ⟨Nat.le_of_ble_eq_true rfl, Nat.le_of_ble_eq_true rfl⟩), im_yX4_turn, se_yX4_turn⟩ ⟨x_blind, va_recv hK hP (ci := 4) (q0 := 3) rfl rfl, x_pre hK hP hD hN⟩ rfl rfl hl.1 rfl (lv_room (Nat.le_of_ble_eq_true rfl)) dX5_takePlannedHead_33 ⟨Nat.zero_le _, Nat.zero_le _⟩) hS (fun H locs hP hD hS => ?_)
    have hP : va_P (dC, dI) vwCl (wS a cB cI cL s1 s2 h1 h2 op nx wt sf lf dn dg un (utn 2 0 un (utn 1 0 un ug 0) 0) qn qt qg tn tk tv ts pf pg px pF ef eg ex eF) H := hP
    have hD : va_D A (wS a cB cI cL s1 s2 h1 h2 op nx wt sf lf dn dg un (utn 2 0 un (utn 1 0 un ug 0) 0) qn qt qg tn tk tv ts pf pg px pF ef eg ex eF) := hD
    refine lv_aload_n hx hb dX5_takePlannedHead_36 rfl (lv_at hl 1 rfl) ?_
    refine va_get (D := (dC, dI)) (ci := 5) (v := .ref (a 3)) (C := RX5) (T := TX5) (N := 11) hx hb hts in_X5 hown hK hP 0 rfl rfl 1 (by decide) f21 (fun _ h9 => h9) rfl dX5_takePlannedHead_37 ?_
    refine lv_aload_n hx hb dX5_takePlannedHead_40 rfl (lv_at hl 1 rfl) ?_
    refine va_get (D := (dC, dI)) (ci := 5) (v := .ref s1) (C := RX5) (T := TX5) (N := 11) hx hb hts in_X5 hown hK hP 0 rfl rfl 4 (by decide) f42 (fun _ h9 => h9) rfl dX5_takePlannedHead_41 ?_
    refine lv_iload_n hx hb dX5_takePlannedHead_44 rfl (lv_at hl 0 rfl) ?_
    refine lv_iconst (v := nI 1) hx hb dX5_takePlannedHead_45 (by decide) ?_
    refine x_calli (va_runVN (As := [.int (nI (pf - 1)), .int (nI 1)]) (rest := [.ref (a 3)]) ⟨hx, hb, hml, hown, hts⟩ (c_He_field (show okH (fun ef' eg' ex' eF' => wS a cB cI cL s1 s2 h1 h2 op nx wt sf lf dn dg un (utn 2 0 un (utn 1 0 un ug 0) 0) qn qt qg tn tk tv ts ef' eg' ex' eF' ef eg ex eF) 13 14 s1 s2 cI from ⟨fun _ _ _ _ => rfl, fun _ _ _ _ => rfl, fun _ _ _ _ _ _ _ => rfl, fun _ _ _ _ _ => rfl⟩) (tyS_I cB cI cL) pf pg px pF (pf - 1) 1 (by omega) (by omega) (by omega)) ⟨(va_cnB 2 hts (tbG tw_387) rfl rfl rfl n157 ini_X1 (by decide +kernel) ⟨Nat.le_of_ble_eq_true rfl, Nat.le_of_ble_eq_true rfl⟩), im_yX1_field, se_yX1_field⟩ ⟨x_blind, va_recv hK hP (ci := 1) (q0 := 13) rfl rfl, x_pre hK hP hD hN⟩ rfl rfl hl.1 rfl (lv_room (Nat.le_of_ble_eq_true rfl)) dX5_takePlannedHead_46 ⟨Nat.zero_le _, Nat.zero_le _⟩) hS (fun H locs hP hD hS => ?_)
    have hP : va_P (dC, dI) vwCl (wS a cB cI cL s1 s2 h1 h2 op nx wt sf lf dn dg un (utn 2 0 un (utn 1 0 un ug 0) 0) qn qt qg tn tk tv ts pf pg px pF ef eg ex eF) H := hP
    have hD : va_D A (wS a cB cI cL s1 s2 h1 h2 op nx wt sf lf dn dg un (utn 2 0 un (utn 1 0 un ug 0) 0) qn qt qg tn tk tv ts pf pg px pF ef eg ex eF) := hD
    have hv46 : hfl pf pF (pf - 1) 1 < 1048576 := hfl_lt hpF
    refine lv_aload_n hx hb dX5_takePlannedHead_49 rfl (lv_at hl 1 rfl) ?_
    refine va_get (D := (dC, dI)) (ci := 5) (v := .ref s1) (C := RX5) (T := TX5) (N := 11) hx hb hts in_X5 hown hK hP 0 rfl rfl 4 (by decide) f42 (fun _ h9 => h9) rfl dX5_takePlannedHead_50 ?_
    refine lv_iload_n hx hb dX5_takePlannedHead_53 rfl (lv_at hl 0 rfl) ?_
    refine lv_iconst (v := nI 2) hx hb dX5_takePlannedHead_54 (by decide) ?_
    refine x_calli (va_runVN (As := [.int (nI (pf - 1)), .int (nI 2)]) (rest := [.int (nI (hfl pf pF (pf - 1) 1)), .ref (a 3)]) ⟨hx, hb, hml, hown, hts⟩ (c_He_field (show okH (fun ef' eg' ex' eF' => wS a cB cI cL s1 s2 h1 h2 op nx wt sf lf dn dg un (utn 2 0 un (utn 1 0 un ug 0) 0) qn qt qg tn tk tv ts ef' eg' ex' eF' ef eg ex eF) 13 14 s1 s2 cI from ⟨fun _ _ _ _ => rfl, fun _ _ _ _ => rfl, fun _ _ _ _ _ _ _ => rfl, fun _ _ _ _ _ => rfl⟩) (tyS_I cB cI cL) pf pg px pF (pf - 1) 2 (by omega) (by omega) (by omega)) ⟨(va_cnB 2 hts (tbG tw_387) rfl rfl rfl n157 ini_X1 (by decide +kernel) ⟨Nat.le_of_ble_eq_true rfl, Nat.le_of_ble_eq_true rfl⟩), im_yX1_field, se_yX1_field⟩ ⟨x_blind, va_recv hK hP (ci := 1) (q0 := 13) rfl rfl, x_pre hK hP hD hN⟩ rfl rfl hl.1 rfl (lv_room (Nat.le_of_ble_eq_true rfl)) dX5_takePlannedHead_55 ⟨Nat.zero_le _, Nat.zero_le _⟩) hS (fun H locs hP hD hS => ?_)
    have hP : va_P (dC, dI) vwCl (wS a cB cI cL s1 s2 h1 h2 op nx wt sf lf dn dg un (utn 2 0 un (utn 1 0 un ug 0) 0) qn qt qg tn tk tv ts pf pg px pF ef eg ex eF) H := hP
    have hD : va_D A (wS a cB cI cL s1 s2 h1 h2 op nx wt sf lf dn dg un (utn 2 0 un (utn 1 0 un ug 0) 0) qn qt qg tn tk tv ts pf pg px pF ef eg ex eF) := hD
    have hv55 : hfl pf pF (pf - 1) 2 < 1048576 := hfl_lt hpF
    refine lv_iconst (v := nI 2) hx hb dX5_takePlannedHead_58 (by decide) ?_
    refine x_callv (va_runVN (As := [.int (nI (hfl pf pF (pf - 1) 1)), .int (nI (hfl pf pF (pf - 1) 2)), .int (nI 2)]) (rest := []) ⟨hx, hb, hml, hown, hts⟩ (c_Us_mark (show okU (fun ug' => wS a cB cI cL s1 s2 h1 h2 op nx wt sf lf dn dg un ug' qn qt qg tn tk tv ts pf pg px pF ef eg ex eF) 3 4 (a 3) (a 4) cI un from ⟨fun _ => rfl, fun _ => rfl, fun _ _ => rfl⟩) (tyS_I cB cI cL) (by omega) (utn 2 0 un (utn 1 0 un ug 0) 0) (utn_lt (utn_lt hug (by decide)) (by decide)) (hfl pf pF (pf - 1) 1) (hfl pf pF (pf - 1) 2) 2 (by omega) (by omega)) ⟨(va_cnB 3 hts (tbG tw_131) rfl rfl rfl n225 ini_X4 (by decide +kernel) ⟨Nat.le_of_ble_eq_true rfl, Nat.le_of_ble_eq_true rfl⟩), im_yX4_mark, se_yX4_mark⟩ ⟨x_blind, va_recv hK hP (ci := 4) (q0 := 3) rfl rfl, x_pre hK hP hD hN⟩ rfl rfl hl.1 rfl (lv_room (Nat.le_of_ble_eq_true rfl)) dX5_takePlannedHead_59 ⟨Nat.zero_le _, Nat.zero_le _⟩) hS (fun H locs hP hD hS => ?_)
    have hP : va_P (dC, dI) vwCl (wS a cB cI cL s1 s2 h1 h2 op nx wt sf lf dn dg un (umk un (hfl pf pF (pf - 1) 1) 2 (hfl pf pF (pf - 1) 2) (utn 2 0 un (utn 1 0 un ug 0) 0) 0) qn qt qg tn tk tv ts pf pg px pF ef eg ex eF) H := hP
    have hD : va_D A (wS a cB cI cL s1 s2 h1 h2 op nx wt sf lf dn dg un (umk un (hfl pf pF (pf - 1) 1) 2 (hfl pf pF (pf - 1) 2) (utn 2 0 un (utn 1 0 un ug 0) 0) 0) qn qt qg tn tk tv ts pf pg px pF ef eg ex eF) := hD
    refine lv_aload_n hx hb dX5_takePlannedHead_62 rfl (lv_at hl 1 rfl) ?_
    refine lv_aload_n hx hb dX5_takePlannedHead_63 rfl (lv_at hl 1 rfl) ?_
    refine va_get (D := (dC, dI)) (ci := 5) (v := .ref s1) (C := RX5) (T := TX5) (N := 11) hx hb hts in_X5 hown hK hP 0 rfl rfl 4 (by decide) f42 (fun _ h9 => h9) rfl dX5_takePlannedHead_64 ?_
    refine lv_iload_n hx hb dX5_takePlannedHead_67 rfl (lv_at hl 0 rfl) ?_
    refine lv_iconst (v := nI 0) hx hb dX5_takePlannedHead_68 (by decide) ?_
    refine x_calli (va_runVN (As := [.int (nI (pf - 1)), .int (nI 0)]) (rest := [.ref (a 0)]) ⟨hx, hb, hml, hown, hts⟩ (c_He_field (show okH (fun ef' eg' ex' eF' => wS a cB cI cL s1 s2 h1 h2 op nx wt sf lf dn dg un (umk un (hfl pf pF (pf - 1) 1) 2 (hfl pf pF (pf - 1) 2) (utn 2 0 un (utn 1 0 un ug 0) 0) 0) qn qt qg tn tk tv ts ef' eg' ex' eF' ef eg ex eF) 13 14 s1 s2 cI from ⟨fun _ _ _ _ => rfl, fun _ _ _ _ => rfl, fun _ _ _ _ _ _ _ => rfl, fun _ _ _ _ _ => rfl⟩) (tyS_I cB cI cL) pf pg px pF (pf - 1) 0 (by omega) (by omega) (by omega)) ⟨(va_cnB 2 hts (tbG tw_387) rfl rfl rfl n157 ini_X1 (by decide +kernel) ⟨Nat.le_of_ble_eq_true rfl, Nat.le_of_ble_eq_true rfl⟩), im_yX1_field, se_yX1_field⟩ ⟨x_blind, va_recv hK hP (ci := 1) (q0 := 13) rfl rfl, x_pre hK hP hD hN⟩ rfl rfl hl.1 rfl (lv_room (Nat.le_of_ble_eq_true rfl)) dX5_takePlannedHead_69 ⟨Nat.zero_le _, Nat.zero_le _⟩) hS (fun H locs hP hD hS => ?_)
    have hP : va_P (dC, dI) vwCl (wS a cB cI cL s1 s2 h1 h2 op nx wt sf lf dn dg un (umk un (hfl pf pF (pf - 1) 1) 2 (hfl pf pF (pf - 1) 2) (utn 2 0 un (utn 1 0 un ug 0) 0) 0) qn qt qg tn tk tv ts pf pg px pF ef eg ex eF) H := hP
    have hD : va_D A (wS a cB cI cL s1 s2 h1 h2 op nx wt sf lf dn dg un (umk un (hfl pf pF (pf - 1) 1) 2 (hfl pf pF (pf - 1) 2) (utn 2 0 un (utn 1 0 un ug 0) 0) 0) qn qt qg tn tk tv ts pf pg px pF ef eg ex eF) := hD
    have hv69 : hfl pf pF (pf - 1) 0 < 1048576 := hfl_lt hpF
    refine va_put (D := (dC, dI)) (ci := 5) (v := .int (nI (hfl pf pF (pf - 1) 0))) (ty := .int) (C := RX5) (T := TX5) (N := 11) hx hb hts in_X5 tyX5 tyX5_ok nmX5 hown hK hP hD hS 0 rfl rfl 10 (by decide) f190 (fun _ h9 => h9) rfl (by decide +kernel) rfl rfl (Nat.le_of_ble_eq_true rfl) dX5_takePlannedHead_72 (fun H locs hP hD hS => ?_)
    have hP : va_P (dC, dI) vwCl (wS a cB cI cL s1 s2 h1 h2 op nx wt sf (hfl pf pF (pf - 1) 0) dn dg un (umk un (hfl pf pF (pf - 1) 1) 2 (hfl pf pF (pf - 1) 2) (utn 2 0 un (utn 1 0 un ug 0) 0) 0) qn qt qg tn tk tv ts pf pg px pF ef eg ex eF) H := hP
    have hD : va_D A (wS a cB cI cL s1 s2 h1 h2 op nx wt sf (hfl pf pF (pf - 1) 0) dn dg un (umk un (hfl pf pF (pf - 1) 1) 2 (hfl pf pF (pf - 1) 2) (utn 2 0 un (utn 1 0 un ug 0) 0) 0) qn qt qg tn tk tv ts pf pg px pF ef eg ex eF) := hD
    refine lv_aload_n hx hb dX5_takePlannedHead_75 rfl (lv_at hl 1 rfl) ?_
    refine va_get (D := (dC, dI)) (ci := 5) (v := .ref (a 9)) (C := RX5) (T := TX5) (N := 11) hx hb hts in_X5 hown hK hP 0 rfl rfl 3 (by decide) f35 (fun _ h9 => h9) rfl dX5_takePlannedHead_76 ?_
    refine x_callv (va_runVN (As := []) (rest := []) ⟨hx, hb, hml, hown, hts⟩ (c_Ta_settle (by omega)) ⟨(va_cnB 0 hts (tbG tw_428) rfl rfl rfl n248 ini_X3 (by decide +kernel) ⟨Nat.le_of_ble_eq_true rfl, Nat.le_of_ble_eq_true rfl⟩), im_yX3_settle, se_yX3_settle⟩ ⟨x_blind, va_recv hK hP (ci := 3) (q0 := 9) rfl rfl, x_pre hK hP hD hN⟩ rfl rfl hl.1 rfl (lv_room (Nat.le_of_ble_eq_true rfl)) dX5_takePlannedHead_79 ⟨Nat.zero_le _, Nat.zero_le _⟩) hS (fun H locs hP hD hS => ?_)
    have hP : va_P (dC, dI) vwCl (wS a cB cI cL s1 s2 h1 h2 op nx wt sf (hfl pf pF (pf - 1) 0) dn dg un (umk un (hfl pf pF (pf - 1) 1) 2 (hfl pf pF (pf - 1) 2) (utn 2 0 un (utn 1 0 un ug 0) 0) 0) qn qt qg tn tk tv (tset tn ts 0) pf pg px pF ef eg ex eF) H := hP
    have hD : va_D A (wS a cB cI cL s1 s2 h1 h2 op nx wt sf (hfl pf pF (pf - 1) 0) dn dg un (umk un (hfl pf pF (pf - 1) 1) 2 (hfl pf pF (pf - 1) 2) (utn 2 0 un (utn 1 0 un ug 0) 0) 0) qn qt qg tn tk tv (tset tn ts 0) pf pg px pF ef eg ex eF) := hD
    refine lv_aload_n hx hb dX5_takePlannedHead_82 rfl (lv_at hl 1 rfl) ?_
    refine lv_iconst (v := nI 0) hx hb dX5_takePlannedHead_83 (by decide) ?_
    refine va_put (D := (dC, dI)) (ci := 5) (v := .int (nI 0)) (ty := .int) (C := RX5) (T := TX5) (N := 11) hx hb hts in_X5 tyX5 tyX5_ok nmX5 hown hK hP hD hS 0 rfl rfl 8 (by decide) f66 (fun _ h9 => h9) rfl (by decide +kernel) rfl rfl (Nat.le_of_ble_eq_true rfl) dX5_takePlannedHead_84 (fun H locs hP hD hS => ?_)
    have hP : va_P (dC, dI) vwCl (wS a cB cI cL s1 s2 h1 h2 op nx 0 sf (hfl pf pF (pf - 1) 0) dn dg un (umk un (hfl pf pF (pf - 1) 1) 2 (hfl pf pF (pf - 1) 2) (utn 2 0 un (utn 1 0 un ug 0) 0) 0) qn qt qg tn tk tv (tset tn ts 0) pf pg px pF ef eg ex eF) H := hP
    have hD : va_D A (wS a cB cI cL s1 s2 h1 h2 op nx 0 sf (hfl pf pF (pf - 1) 0) dn dg un (umk un (hfl pf pF (pf - 1) 1) 2 (hfl pf pF (pf - 1) 2) (utn 2 0 un (utn 1 0 un ug 0) 0) 0) qn qt qg tn tk tv (tset tn ts 0) pf pg px pF ef eg ex eF) := hD
    refine lv_aload_n hx hb dX5_takePlannedHead_87 rfl (lv_at hl 1 rfl) ?_
    refine lv_aload_n hx hb dX5_takePlannedHead_88 rfl (lv_at hl 1 rfl) ?_
    refine va_get (D := (dC, dI)) (ci := 5) (v := .int (nI nx)) (C := RX5) (T := TX5) (N := 11) hx hb hts in_X5 hown hK hP 0 rfl rfl 7 (by decide) f53 (fun _ h9 => h9) rfl dX5_takePlannedHead_89 ?_
    refine lv_iconst (v := nI 1) hx hb dX5_takePlannedHead_92 (by decide) ?_
    refine x_isub hx hb dX5_takePlannedHead_93 (by omega) ?_
    refine va_put (D := (dC, dI)) (ci := 5) (v := .int (nI (nx - 1))) (ty := .int) (C := RX5) (T := TX5) (N := 11) hx hb hts in_X5 tyX5 tyX5_ok nmX5 hown hK hP hD hS 0 rfl rfl 9 (by decide) f80 (fun _ h9 => h9) rfl (by decide +kernel) rfl rfl (Nat.le_of_ble_eq_true rfl) dX5_takePlannedHead_94 (fun H locs hP hD hS => ?_)
    have hP : va_P (dC, dI) vwCl (wS a cB cI cL s1 s2 h1 h2 op nx 0 (nx - 1) (hfl pf pF (pf - 1) 0) dn dg un (umk un (hfl pf pF (pf - 1) 1) 2 (hfl pf pF (pf - 1) 2) (utn 2 0 un (utn 1 0 un ug 0) 0) 0) qn qt qg tn tk tv (tset tn ts 0) pf pg px pF ef eg ex eF) H := hP
    have hD : va_D A (wS a cB cI cL s1 s2 h1 h2 op nx 0 (nx - 1) (hfl pf pF (pf - 1) 0) dn dg un (umk un (hfl pf pF (pf - 1) 1) 2 (hfl pf pF (pf - 1) 2) (utn 2 0 un (utn 1 0 un ug 0) 0) 0) qn qt qg tn tk tv (tset tn ts 0) pf pg px pF ef eg ex eF) := hD
    have e2 : (umk un (hfl pf pF (pf - 1) 1) 2 (hfl pf pF (pf - 1) 2) (utn 2 0 un (utn 1 0 un ug 0) 0) 0) = (umk un (hfl pf pF (pf - 1) 1) 2 (hfl pf pF (pf - 1) 2) (tkU mg un ug) 0) := by simp [tkU, c24]
    have h9 : wS a cB cI cL s1 s2 h1 h2 op nx 0 (nx - 1) (hfl pf pF (pf - 1) 0) dn dg un (umk un (hfl pf pF (pf - 1) 1) 2 (hfl pf pF (pf - 1) 2) (utn 2 0 un (utn 1 0 un ug 0) 0) 0) qn qt qg tn tk tv (tset tn ts 0) pf pg px pF ef eg ex eF = wS a cB cI cL s1 s2 h1 h2 op nx 0 (nx - 1) (hfl pf pF (pf - 1) 0) dn dg un (umk un (hfl pf pF (pf - 1) 1) 2 (hfl pf pF (pf - 1) 2) (tkU mg un ug) 0) qn qt qg tn tk tv (tset tn ts 0) pf pg px pF ef eg ex eF := by rw [e2]
    have hP := x_wP h9 hP
    have hD := x_wD h9 hD
    exact hret dX5_takePlannedHead_97 hP hD hS
