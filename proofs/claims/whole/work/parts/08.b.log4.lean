set_option maxHeartbeats 4000000 in
set_option maxRecDepth 100000 in
theorem c_Bl_renew {l : Launch} {dC : Nat → ClassId} {dI : Nat → Nat → Nat} {A : Nat → Prop} {a : Nat → Nat} {cB cI cL : ClassId} {h1 h2 s1 s2 : Nat} {op : Bool} {nx wt sf lf dn : Nat} {dg : Nat → Nat} {un : Nat} {ug : Nat → Nat} {qn : Nat} {qt qg : Nat → Nat} {tn : Nat} {tk tv : Nat → Int64} {ts : Nat → Nat} {ef eg ex : Nat} {eF : Nat → Nat} {pf pg px : Nat} {pF : Nat → Nat} (hdg : ∀ j, dg j < 256) (n : Nat) (hn1 : n ≤ 64) : Met l yX0_renew (Cond.code yX0_renew cX0_renew 3 none :: TB) { frames := 3, cells := 0, slots := 0, locals := 67 } (xPre Nst (dC, dI) A (tyS cB cI cL) (wS a cB cI cL h1 h2 s1 s2 op nx wt sf lf dn dg un ug qn qt qg tn tk tv ts ef eg ex eF pf pg px pF) [.ref (a 1), .int (nI n)]) (xQv (dC, dI) A (wS a cB cI cL h1 h2 s1 s2 op nx wt sf lf n (ren n n dg 0) un ug qn qt qg tn tk tv ts ef eg ex eF pf pg px pF)) 0 0 A := by
  refine x_ofWv (cc := cX0_renew) (maxL := 3) (by decide) rfl (Nat.le_of_ble_eq_true rfl) ?_
  intro p e s m args below meth c Q hx hb hml hts hown hK hN hP hD hS hret ls hl
  have hl : lv_has ls 3 [(0, .ref (a 1)), (1, .int (nI n))] := hl
  have hown : s.vm.findClass RX0 = some m.cls := hown
  have f15 := hts _ (List.mem_cons_of_mem _ tw_107)
  have in_X0 := (fun q hq => List.mem_cons_of_mem _ (inX0 q hq) : ∀ q ∈ wsX00, q ∈ (Cond.code yX0_renew cX0_renew 3 none :: TB))
  refine lv_aload_n hx hb dX0_renew_0 rfl (lv_at hl 0 rfl) ?_
  refine lv_iload_n hx hb dX0_renew_1 rfl (lv_at hl 1 rfl) ?_
  refine va_put (D := (dC, dI)) (ci := 0) (v := .int (nI n)) (ty := .int) (C := RX0) (T := TX0) (N := 2) hx hb hts in_X0 tyX0 tyX0_ok nmX0 hown hK hP hD hS 1 rfl rfl 1 (by decide) f15 (fun _ h9 => h9) rfl (by decide +kernel) rfl rfl (Nat.le_of_ble_eq_true rfl) dX0_renew_2 (fun H locs hP hD hS => ?_)
  have hP : va_P (dC, dI) vwCl (wS a cB cI cL h1 h2 s1 s2 op nx wt sf lf n dg un ug qn qt qg tn tk tv ts ef eg ex eF pf pg px pF) H := hP
  have hD : va_D A (wS a cB cI cL h1 h2 s1 s2 op nx wt sf lf n dg un ug qn qt qg tn tk tv ts ef eg ex eF pf pg px pF) := hD
  refine lv_iconst (v := nI 0) hx hb dX0_renew_5 (by decide) ?_
  refine lv_istore_n (lv' := [(2, .int (nI 0)), (0, .ref (a 1)), (1, .int (nI n))]) hx hb dX0_renew_6 rfl hl (by decide) rfl (fun ls hl => ?_)
  have L7 : ∀ (fu7 : Nat) (b : Nat) (g' : Nat → Nat), (n - b < fu7) → (b ≤ n) → (∀ q, g' q < 256) → (ren n (n - b) g' b = ren n n dg 0) → ∀ (H : Heap) (locs : List Loc), va_P (dC, dI) vwCl (wS a cB cI cL h1 h2 s1 s2 op nx wt sf lf n g' un ug qn qt qg tn tk tv ts ef eg ex eF pf pg px pF) H → va_D A (wS a cB cI cL h1 h2 s1 s2 op nx wt sf lf n g' un ug qn qt qg tn tk tv ts ef eg ex eF pf pg px pF) → va_S A s.heap H locs → ∀ (ls : Array Slot), lv_has ls 3 [(0, .ref (a 1)), (1, .int (nI n)), (2, .int (nI b))] → W p l e { frames := 3, cells := 0, slots := 0, locals := 67 } s m args below meth c H locs 0 0 Q (F0 m 7 ls []) := by
    intro fu7
    induction fu7 with
    | zero => intro b g' hm; exact absurd hm (Nat.not_lt_zero _)
    | succ fu7 ih7 =>
      intro b g' hm i7_0 i7_1 i7_2 H locs hP hD hS ls hl
      refine lv_iload_n hx hb dX0_renew_7 rfl (lv_at hl 2 rfl) ?_
      refine lv_aload_n hx hb dX0_renew_8 rfl (lv_at hl 0 rfl) ?_
      refine va_get (D := (dC, dI)) (ci := 0) (v := .int (nI n)) (C := RX0) (T := TX0) (N := 2) hx hb hts in_X0 hown hK hP 1 rfl rfl 1 (by decide) f15 (fun _ h9 => h9) rfl dX0_renew_9 ?_
      refine x_icmp_ge (tgt := 26) hx hb dX0_renew_12 (by decide) (by omega) (by omega) (fun c12 => ?_) (fun c12 => ?_)
      · have e1 : g' = (ren n n dg 0) := by have h := i7_2; rw [show n - b = 0 by omega, ren] at h; exact h
        have h9 : wS a cB cI cL h1 h2 s1 s2 op nx wt sf lf n g' un ug qn qt qg tn tk tv ts ef eg ex eF pf pg px pF = wS a cB cI cL h1 h2 s1 s2 op nx wt sf lf n (ren n n dg 0) un ug qn qt qg tn tk tv ts ef eg ex eF pf pg px pF := by rw [← e1]
        have hP := x_wP h9 hP
        have hD := x_wD h9 hD
        exact hret dX0_renew_26 hP hD hS
      · refine lv_aload_n hx hb dX0_renew_15 rfl (lv_at hl 0 rfl) ?_
        refine lv_iload_n hx hb dX0_renew_16 rfl (lv_at hl 2 rfl) ?_
        refine x_callv (va_runV (As := [.int (nI b)]) (rest := []) ⟨hx, hb, hml, hown, hts⟩ (c_Bl_wipe (show okB (fun dg' => wS a cB cI cL h1 h2 s1 s2 op nx wt sf lf n dg' un ug qn qt qg tn tk tv ts ef eg ex eF pf pg px pF) 1 2 (a 1) (a 2) cB n from ⟨fun _ => rfl, fun _ => rfl, fun _ _ => rfl⟩) (tyS_B cB cI cL) (by omega) g' i7_1 b (by omega)) (cwV 1 hts (tbV tw_249 tw_251 tw_4 tw_85 tw_252) rfl rfl rfl (by decide +kernel) ⟨Nat.le_of_ble_eq_true rfl, Nat.le_of_ble_eq_true rfl⟩) ⟨x_blind, va_recv hK hP (ci := 0) (q0 := 1) rfl rfl, x_pre hK hP hD hN⟩ rfl rfl hl.1 rfl (lv_room (Nat.le_of_ble_eq_true rfl)) dX0_renew_17 ⟨Nat.zero_le _, Nat.zero_le _⟩) hS (fun H locs hP hD hS => ?_)
        have hP : va_P (dC, dI) vwCl (wS a cB cI cL h1 h2 s1 s2 op nx wt sf lf n (wipG n b g') un ug qn qt qg tn tk tv ts ef eg ex eF pf pg px pF) H := hP
        have hD : va_D A (wS a cB cI cL h1 h2 s1 s2 op nx wt sf lf n (wipG n b g') un ug qn qt qg tn tk tv ts ef eg ex eF pf pg px pF) := hD
        refine lv_iinc (v := nI (b + 1)) (lv' := [(2, .int (nI (b + 1))), (0, .ref (a 1)), (1, .int (nI n))]) hx hb dX0_renew_20 hl (k := 2) rfl (x_inc _) (by decide) rfl (fun ls hl => ?_)
        refine lv_goto (tgt := 7) hx hb dX0_renew_23 (by decide) ?_
        exact ih7 (b + 1) (wipG n b g') (by omega) (by omega) (by exact wipG_lt i7_1) (by have h := i7_2; rw [show n - b = (n - (b + 1)) + 1 by omega, ren] at h; exact h) _ _ hP hD hS ls (lv_sub hl [1, 2, 0] rfl)
  exact L7 (n - 0 + 1) 0 dg (by omega) (by omega) (by exact hdg) (by rfl) _ _ hP hD hS ls (lv_sub hl [1, 2, 0] rfl)

set_option maxHeartbeats 4000000 in
set_option maxRecDepth 100000 in
theorem c_SL_formatB {l : Launch} {dC : Nat → ClassId} {dI : Nat → Nat → Nat} {A : Nat → Prop} {a : Nat → Nat} {cB cI cL : ClassId} {h1 h2 s1 s2 : Nat} {op : Bool} {nx wt sf lf dn : Nat} {dg : Nat → Nat} {un : Nat} {ug : Nat → Nat} {qn : Nat} {qt qg : Nat → Nat} {tn : Nat} {tk tv : Nat → Int64} {ts : Nat → Nat} {ef eg ex : Nat} {eF : Nat → Nat} {pf pg px : Nat} {pF : Nat → Nat} (z : Int32) (hz : z < nI 4 ∨ ¬ z ≤ nI 64) : Met l yX5_format (Cond.code yX5_format cX5_format 2 (some .int) :: TB) { frames := 4, cells := 0, slots := 0, locals := 89 } (xPre Nst (dC, dI) A (tyS cB cI cL) (wS a cB cI cL h1 h2 s1 s2 op nx wt sf lf dn dg un ug qn qt qg tn tk tv ts ef eg ex eF pf pg px pF) [.ref (a 0), .int (z)]) (xQi (dC, dI) A ((-1)) (wS a cB cI cL h1 h2 s1 s2 op nx wt sf lf dn dg un ug qn qt qg tn tk tv ts ef eg ex eF pf pg px pF)) 0 0 A := by
  refine x_ofWi (cc := cX5_format) (maxL := 2) (by decide) rfl (Nat.le_of_ble_eq_true rfl) ?_
  intro p e s m args below meth c Q hx hb hml hts hown hK hN hP hD hS hret ls hl
  have hl : lv_has ls 2 [(0, .ref (a 0)), (1, .int (z))] := hl
  have hown : s.vm.findClass RX5 = some m.cls := hown
  refine lv_iload_n hx hb dX5_format_0 rfl (lv_at hl 1 rfl) ?_
  refine lv_iconst (v := nI 4) hx hb dX5_format_1 (by decide) ?_
  refine lv_icmp_lt (tgt := 11) hx hb dX5_format_2 (by decide) (fun c2 => ?_) (fun c2 => ?_)
  · refine lv_iconst (v := (-1)) hx hb dX5_format_11 (by decide) ?_
    exact hret dX5_format_12 (by rfl) hP hD hS
  · refine lv_iload_n hx hb dX5_format_5 rfl (lv_at hl 1 rfl) ?_
    refine lv_bipush (v := nI 64) hx hb dX5_format_6 (by decide) ?_
    refine lv_icmp_le (tgt := 13) hx hb dX5_format_8 (by decide) (fun c8 => ?_) (fun c8 => ?_)
    · exact absurd hz (by rintro (q | q); exact c2 q; exact q c8)
    · refine lv_iconst (v := (-1)) hx hb dX5_format_11 (by decide) ?_
      exact hret dX5_format_12 (by rfl) hP hD hS

set_option maxHeartbeats 4000000 in
set_option maxRecDepth 100000 in
theorem c_SL_formatG {l : Launch} {dC : Nat → ClassId} {dI : Nat → Nat → Nat} {A : Nat → Prop} {a : Nat → Nat} {cB cI cL : ClassId} {h1 h2 s1 s2 : Nat} {op : Bool} {nx wt sf lf dn : Nat} {dg : Nat → Nat} {un : Nat} {ug : Nat → Nat} {qn : Nat} {qt qg : Nat → Nat} {tn : Nat} {tk tv : Nat → Int64} {ts : Nat → Nat} {ef eg ex : Nat} {eF : Nat → Nat} {pf pg px : Nat} {pF : Nat → Nat} (hdg : ∀ j, dg j < 256) (hug : ∀ j, ug j < 8) (n : Nat) (hn1 : 4 ≤ n) (hn2 : n ≤ 64) : Met l yX5_format (Cond.code yX5_format cX5_format 2 (some .int) :: TB) { frames := 4, cells := 0, slots := 0, locals := 89 } (xPre Nst (dC, dI) A (tyS cB cI cL) (wS a cB cI cL h1 h2 s1 s2 op nx wt sf lf dn dg un ug qn qt qg tn tk tv ts ef eg ex eF pf pg px pF) [.ref (a 0), .int (nI n)]) (xQi (dC, dI) A (nI 0) (wS a cB cI cL h1 h2 s1 s2 true 1 0 0 0 n (ren n n dg 0) n (uclr n ug) 0 qt qg 0 tk tv ts 0 0 1 eF pf pg px pF)) 0 0 A := by
  refine x_ofWi (cc := cX5_format) (maxL := 2) (by decide) rfl (Nat.le_of_ble_eq_true rfl) ?_
  intro p e s m args below meth c Q hx hb hml hts hown hK hN hP hD hS hret ls hl
  have hl : lv_has ls 2 [(0, .ref (a 0)), (1, .int (nI n))] := hl
  have hown : s.vm.findClass RX5 = some m.cls := hown
  have f14 := hts _ (List.mem_cons_of_mem _ tw_207)
  have in_X5 := (fun q hq => List.mem_cons_of_mem _ (inX5 q hq) : ∀ q ∈ wsX50, q ∈ (Cond.code yX5_format cX5_format 2 (some .int) :: TB))
  have n57 := hN (.methodLinkNest RX5 57 yX0_renew "SegmentLog") (by decide +kernel)
  have ini_X0 := hts _ (List.mem_cons_of_mem _ tw_85)
  have im_yX0_renew := hts _ (List.mem_cons_of_mem _ tw_247)
  have se_yX0_renew := hts _ (List.mem_cons_of_mem _ tw_3)
  have f42 := hts _ (List.mem_cons_of_mem _ tw_211)
  have n60 := hN (.methodLinkNest RX5 60 yX1_clear "SegmentLog") (by decide +kernel)
  have ini_X1 := hts _ (List.mem_cons_of_mem _ tw_90)
  have im_yX1_clear := hts _ (List.mem_cons_of_mem _ tw_189)
  have se_yX1_clear := hts _ (List.mem_cons_of_mem _ tw_2)
  have f49 := hts _ (List.mem_cons_of_mem _ tw_213)
  refine lv_iload_n hx hb dX5_format_0 rfl (lv_at hl 1 rfl) ?_
  refine lv_iconst (v := nI 4) hx hb dX5_format_1 (by decide) ?_
  refine x_icmp_lt (tgt := 11) hx hb dX5_format_2 (by decide) (by omega) (by omega) (fun c2 => ?_) (fun c2 => ?_)
  · exact absurd c2 (by omega)
  · refine lv_iload_n hx hb dX5_format_5 rfl (lv_at hl 1 rfl) ?_
    refine lv_bipush (v := nI 64) hx hb dX5_format_6 (by decide) ?_
    refine x_icmp_le (tgt := 13) hx hb dX5_format_8 (by decide) (by omega) (by omega) (fun c8 => ?_) (fun c8 => ?_)
    · refine lv_aload_n hx hb dX5_format_13 rfl (lv_at hl 0 rfl) ?_
      refine va_get (D := (dC, dI)) (ci := 5) (v := .ref (a 1)) (C := RX5) (T := TX5) (N := 11) hx hb hts in_X5 hown hK hP 0 rfl rfl 0 (by decide) f14 (fun _ h9 => h9) rfl dX5_format_14 ?_
      refine lv_iload_n hx hb dX5_format_17 rfl (lv_at hl 1 rfl) ?_
      refine x_callv (va_runVN (As := [.int (nI n)]) (rest := []) ⟨hx, hb, hml, hown, hts⟩ (c_Bl_renew hdg n (by omega)) ⟨(va_cnB 1 hts (tbG tw_248) rfl rfl rfl n57 ini_X0 (by decide +kernel) ⟨Nat.le_of_ble_eq_true rfl, Nat.le_of_ble_eq_true rfl⟩), im_yX0_renew, se_yX0_renew⟩ ⟨x_blind, va_recv hK hP (ci := 0) (q0 := 1) rfl rfl, x_pre hK hP hD hN⟩ rfl rfl hl.1 rfl (lv_room (Nat.le_of_ble_eq_true rfl)) dX5_format_18 ⟨Nat.zero_le _, Nat.zero_le _⟩) hS (fun H locs hP hD hS => ?_)
      have hP : va_P (dC, dI) vwCl (wS a cB cI cL h1 h2 s1 s2 op nx wt sf lf n (ren n n dg 0) un ug qn qt qg tn tk tv ts ef eg ex eF pf pg px pF) H := hP
      have hD : va_D A (wS a cB cI cL h1 h2 s1 s2 op nx wt sf lf n (ren n n dg 0) un ug qn qt qg tn tk tv ts ef eg ex eF pf pg px pF) := hD
      refine lv_aload_n hx hb dX5_format_21 rfl (lv_at hl 0 rfl) ?_
      refine va_get (D := (dC, dI)) (ci := 5) (v := .ref h1) (C := RX5) (T := TX5) (N := 11) hx hb hts in_X5 hown hK hP 0 rfl rfl 4 (by decide) f42 (fun _ h9 => h9) rfl dX5_format_22 ?_
      refine x_callv (va_runVN (As := []) (rest := []) ⟨hx, hb, hml, hown, hts⟩ (c_He_clear (show okH (fun ef' eg' ex' eF' => wS a cB cI cL h1 h2 s1 s2 op nx wt sf lf n (ren n n dg 0) un ug qn qt qg tn tk tv ts ef' eg' ex' eF' pf pg px pF) 13 14 h1 h2 cI from ⟨fun _ _ _ _ => rfl, fun _ _ _ _ => rfl, fun _ _ _ _ _ _ _ => rfl, fun _ _ _ _ _ => rfl⟩) (tyS_I cB cI cL) ef eg ex eF) ⟨(va_cnB 0 hts (tbG tw_190) rfl rfl rfl n60 ini_X1 (by decide +kernel) ⟨Nat.le_of_ble_eq_true rfl, Nat.le_of_ble_eq_true rfl⟩), im_yX1_clear, se_yX1_clear⟩ ⟨x_blind, va_recv hK hP (ci := 1) (q0 := 13) rfl rfl, x_pre hK hP hD hN⟩ rfl rfl hl.1 rfl (lv_room (Nat.le_of_ble_eq_true rfl)) dX5_format_25 ⟨Nat.zero_le _, Nat.zero_le _⟩) hS (fun H locs hP hD hS => ?_)
      have hP : va_P (dC, dI) vwCl (wS a cB cI cL h1 h2 s1 s2 op nx wt sf lf n (ren n n dg 0) un ug qn qt qg tn tk tv ts 0 0 1 eF pf pg px pF) H := hP
      have hD : va_D A (wS a cB cI cL h1 h2 s1 s2 op nx wt sf lf n (ren n n dg 0) un ug qn qt qg tn tk tv ts 0 0 1 eF pf pg px pF) := hD
      refine lv_aload_n hx hb dX5_format_28 rfl (lv_at hl 0 rfl) ?_
      refine x_callv (va_runV (As := []) (rest := []) ⟨hx, hb, hml, hown, hts⟩ (c_SL_forget (by omega) hug) (cwV 0 hts (tbV tw_262 tw_264 tw_7 tw_84 tw_265) rfl rfl rfl (by decide +kernel) ⟨Nat.le_of_ble_eq_true rfl, Nat.le_of_ble_eq_true rfl⟩) ⟨x_blind, va_recv hK hP (ci := 5) (q0 := 0) rfl rfl, x_pre hK hP hD hN⟩ rfl rfl hl.1 rfl (lv_room (Nat.le_of_ble_eq_true rfl)) dX5_format_29 ⟨Nat.zero_le _, Nat.zero_le _⟩) hS (fun H locs hP hD hS => ?_)
      have hP : va_P (dC, dI) vwCl (wS a cB cI cL h1 h2 s1 s2 op 1 0 0 0 n (ren n n dg 0) n (uclr n ug) 0 qt qg 0 tk tv ts 0 0 1 eF pf pg px pF) H := hP
      have hD : va_D A (wS a cB cI cL h1 h2 s1 s2 op 1 0 0 0 n (ren n n dg 0) n (uclr n ug) 0 qt qg 0 tk tv ts 0 0 1 eF pf pg px pF) := hD
      refine lv_aload_n hx hb dX5_format_32 rfl (lv_at hl 0 rfl) ?_
      refine lv_iconst (v := nI 1) hx hb dX5_format_33 (by decide) ?_
      refine x_top (y := bI true) rfl ?_
      refine va_put (D := (dC, dI)) (ci := 5) (v := .int (bI true)) (ty := .boolean) (C := RX5) (T := TX5) (N := 11) hx hb hts in_X5 tyX5 tyX5_ok nmX5 hown hK hP hD hS 0 rfl rfl 6 (by decide) f49 (fun _ h9 => h9) rfl (by decide +kernel) (x_narZ _) (x_fitZ _) (Nat.le_of_ble_eq_true rfl) dX5_format_34 (fun H locs hP hD hS => ?_)
      have hP : va_P (dC, dI) vwCl (wS a cB cI cL h1 h2 s1 s2 true 1 0 0 0 n (ren n n dg 0) n (uclr n ug) 0 qt qg 0 tk tv ts 0 0 1 eF pf pg px pF) H := hP
      have hD : va_D A (wS a cB cI cL h1 h2 s1 s2 true 1 0 0 0 n (ren n n dg 0) n (uclr n ug) 0 qt qg 0 tk tv ts 0 0 1 eF pf pg px pF) := hD
      refine lv_iconst (v := nI 0) hx hb dX5_format_37 (by decide) ?_
      exact hret dX5_format_38 (by rfl) hP hD hS
    · exact absurd c8 (by omega)

set_option maxHeartbeats 4000000 in
set_option maxRecDepth 100000 in
theorem c_SL_addC {l : Launch} {dC : Nat → ClassId} {dI : Nat → Nat → Nat} {A : Nat → Prop} {a : Nat → Nat} {cB cI cL : ClassId} {h1 h2 s1 s2 : Nat} {op : Bool} {nx wt sf lf dn : Nat} {dg : Nat → Nat} {un : Nat} {ug : Nat → Nat} {qn : Nat} {qt qg : Nat → Nat} {tn : Nat} {tk tv : Nat → Int64} {ts : Nat → Nat} {ef eg ex : Nat} {eF : Nat → Nat} {pf pg px : Nat} {pF : Nat → Nat} (k v : Int64) (ho : op = false) : Met l yX5_add (Cond.code yX5_add cX5_add 7 (some .int) :: TB) { frames := 5, cells := 0, slots := 0, locals := 121 } (xPre Nst (dC, dI) A (tyS cB cI cL) (wS a cB cI cL h1 h2 s1 s2 op nx wt sf lf dn dg un ug qn qt qg tn tk tv ts ef eg ex eF pf pg px pF) [.ref (a 0), .long (k), .long (v)]) (xQi (dC, dI) A ((-4)) (wS a cB cI cL h1 h2 s1 s2 op nx wt sf lf dn dg un ug qn qt qg tn tk tv ts ef eg ex eF pf pg px pF)) 0 0 A := by
  refine x_ofWi (cc := cX5_add) (maxL := 7) (by decide) rfl (Nat.le_of_ble_eq_true rfl) ?_
  intro p e s m args below meth c Q hx hb hml hts hown hK hN hP hD hS hret ls hl
  have hl : lv_has ls 7 [(0, .ref (a 0)), (1, .long (k)), (3, .long (v))] := hl
  have hown : s.vm.findClass RX5 = some m.cls := hown
  have f49 := hts _ (List.mem_cons_of_mem _ tw_213)
  have in_X5 := (fun q hq => List.mem_cons_of_mem _ (inX5 q hq) : ∀ q ∈ wsX50, q ∈ (Cond.code yX5_add cX5_add 7 (some .int) :: TB))
  refine lv_aload_n hx hb dX5_add_0 rfl (lv_at hl 0 rfl) ?_
  refine va_get (D := (dC, dI)) (ci := 5) (v := .int (bI op)) (C := RX5) (T := TX5) (N := 11) hx hb hts in_X5 hown hK hP 0 rfl rfl 6 (by decide) f49 (fun _ h9 => h9) rfl dX5_add_1 ?_
  refine x_if_ne_b (tgt := 10) hx hb dX5_add_4 (by decide) (fun c4 => ?_) (fun c4 => ?_)
  · exact absurd (ho.symm.trans c4) (by decide)
  · refine lv_bipush (v := (-4)) hx hb dX5_add_7 (by decide) ?_
    exact hret dX5_add_9 (by rfl) hP hD hS

set_option maxHeartbeats 4000000 in
set_option maxRecDepth 100000 in
theorem c_SL_addF {l : Launch} {dC : Nat → ClassId} {dI : Nat → Nat → Nat} {A : Nat → Prop} {a : Nat → Nat} {cB cI cL : ClassId} {h1 h2 s1 s2 : Nat} {op : Bool} {nx wt sf lf dn : Nat} {dg : Nat → Nat} {un : Nat} {ug : Nat → Nat} {qn : Nat} {qt qg : Nat → Nat} {tn : Nat} {tk tv : Nat → Int64} {ts : Nat → Nat} {ef eg ex : Nat} {eF : Nat → Nat} {pf pg px : Nat} {pF : Nat → Nat} (hun : un ≤ 64) (hug : ∀ j, ug j < 8) (k v : Int64) (ho : op = true) (ht : wt = 2) (hfr : ulr ug 1 un 0 0 = none) : Met l yX5_add (Cond.code yX5_add cX5_add 7 (some .int) :: TB) { frames := 5, cells := 0, slots := 0, locals := 121 } (xPre Nst (dC, dI) A (tyS cB cI cL) (wS a cB cI cL h1 h2 s1 s2 op nx wt sf lf dn dg un ug qn qt qg tn tk tv ts ef eg ex eF pf pg px pF) [.ref (a 0), .long (k), .long (v)]) (xQi (dC, dI) A ((-3)) (wS a cB cI cL h1 h2 s1 s2 op nx wt sf lf dn dg un ug qn qt qg tn tk tv ts ef eg ex eF pf pg px pF)) 0 0 A := by
  refine x_ofWi (cc := cX5_add) (maxL := 7) (by decide) rfl (Nat.le_of_ble_eq_true rfl) ?_
  intro p e s m args below meth c Q hx hb hml hts hown hK hN hP hD hS hret ls hl
  have hl : lv_has ls 7 [(0, .ref (a 0)), (1, .long (k)), (3, .long (v))] := hl
  have hown : s.vm.findClass RX5 = some m.cls := hown
  have f49 := hts _ (List.mem_cons_of_mem _ tw_213)
  have in_X5 := (fun q hq => List.mem_cons_of_mem _ (inX5 q hq) : ∀ q ∈ wsX50, q ∈ (Cond.code yX5_add cX5_add 7 (some .int) :: TB))
  have f66 := hts _ (List.mem_cons_of_mem _ tw_215)
  have f21 := hts _ (List.mem_cons_of_mem _ tw_208)
  have n69 := hN (.methodLinkNest RX5 69 yX4_leastFree "SegmentLog") (by decide +kernel)
  have ini_X4 := hts _ (List.mem_cons_of_mem _ tw_86)
  have im_yX4_leastFree := hts _ (List.mem_cons_of_mem _ tw_281)
  have se_yX4_leastFree := hts _ (List.mem_cons_of_mem _ tw_10)
  refine lv_aload_n hx hb dX5_add_0 rfl (lv_at hl 0 rfl) ?_
  refine va_get (D := (dC, dI)) (ci := 5) (v := .int (bI op)) (C := RX5) (T := TX5) (N := 11) hx hb hts in_X5 hown hK hP 0 rfl rfl 6 (by decide) f49 (fun _ h9 => h9) rfl dX5_add_1 ?_
  refine x_if_ne_b (tgt := 10) hx hb dX5_add_4 (by decide) (fun c4 => ?_) (fun c4 => ?_)
  · refine lv_aload_n hx hb dX5_add_10 rfl (lv_at hl 0 rfl) ?_
    refine va_get (D := (dC, dI)) (ci := 5) (v := .int (nI wt)) (C := RX5) (T := TX5) (N := 11) hx hb hts in_X5 hown hK hP 0 rfl rfl 8 (by decide) f66 (fun _ h9 => h9) rfl dX5_add_11 ?_
    refine lv_iconst (v := nI 1) hx hb dX5_add_14 (by decide) ?_
    refine x_iadd hx hb dX5_add_15 ?_
    refine lv_iconst (v := nI 3) hx hb dX5_add_16 (by decide) ?_
    refine x_icmp_lt (tgt := 24) hx hb dX5_add_17 (by decide) (by omega) (by omega) (fun c17 => ?_) (fun c17 => ?_)
    · exact absurd c17 (by omega)
    · refine lv_iconst (v := nI 1) hx hb dX5_add_20 (by decide) ?_
      refine lv_goto (tgt := 25) hx hb dX5_add_21 (by decide) ?_
      refine lv_istore (lv' := [(5, .int (nI 1)), (0, .ref (a 0)), (1, .long (k)), (3, .long (v))]) hx hb dX5_add_25 hl (by decide) rfl (fun ls hl => ?_)
      refine lv_iload hx hb dX5_add_27 (lv_at hl 0 rfl) ?_
      refine x_if_eq (tgt := 47) hx hb dX5_add_29 (by decide) (by decide) (fun c29 => absurd c29 (by decide)) (fun c29 => ?_)
      refine lv_aload_n hx hb dX5_add_32 rfl (lv_at hl 1 rfl) ?_
      refine va_get (D := (dC, dI)) (ci := 5) (v := .ref (a 3)) (C := RX5) (T := TX5) (N := 11) hx hb hts in_X5 hown hK hP 0 rfl rfl 1 (by decide) f21 (fun _ h9 => h9) rfl dX5_add_33 ?_
      refine x_calli (va_runVN (As := []) (rest := []) ⟨hx, hb, hml, hown, hts⟩ (c_Us_leastFree (show okU (fun ug' => wS a cB cI cL h1 h2 s1 s2 op nx wt sf lf dn dg un ug' qn qt qg tn tk tv ts ef eg ex eF pf pg px pF) 3 4 (a 3) (a 4) cI un from ⟨fun _ => rfl, fun _ => rfl, fun _ _ => rfl⟩) (tyS_I cB cI cL) (by omega) ug hug) ⟨(va_cnB 0 hts (tbG tw_282) rfl rfl rfl n69 ini_X4 (by decide +kernel) ⟨Nat.le_of_ble_eq_true rfl, Nat.le_of_ble_eq_true rfl⟩), im_yX4_leastFree, se_yX4_leastFree⟩ ⟨x_blind, va_recv hK hP (ci := 4) (q0 := 3) rfl rfl, x_pre hK hP hD hN⟩ rfl rfl hl.1 rfl (lv_room (Nat.le_of_ble_eq_true rfl)) dX5_add_36 ⟨Nat.zero_le _, Nat.zero_le _⟩) hS (fun H locs hP hD hS => ?_)
      have hP : va_P (dC, dI) vwCl (wS a cB cI cL h1 h2 s1 s2 op nx wt sf lf dn dg un ug qn qt qg tn tk tv ts ef eg ex eF pf pg px pF) H := hP
      have hD : va_D A (wS a cB cI cL h1 h2 s1 s2 op nx wt sf lf dn dg un ug qn qt qg tn tk tv ts ef eg ex eF pf pg px pF) := hD
      refine lv_bipush (v := (-2)) hx hb dX5_add_39 (by decide) ?_
      refine lv_icmp_ne (tgt := 47) hx hb dX5_add_41 (by decide) (fun c41 => ?_) (fun c41 => ?_)
      · exact absurd (show oI _ = (-2 : Int32) by rw [hfr]; rfl) c41
      · refine lv_bipush (v := (-3)) hx hb dX5_add_44 (by decide) ?_
        exact hret dX5_add_46 (by rfl) hP hD hS
  · exact absurd (ho.symm.trans c4) (by decide)

set_option maxHeartbeats 4000000 in
set_option maxRecDepth 100000 in
theorem c_SL_addN {l : Launch} {dC : Nat → ClassId} {dI : Nat → Nat → Nat} {A : Nat → Prop} {a : Nat → Nat} {cB cI cL : ClassId} {h1 h2 s1 s2 : Nat} {op : Bool} {nx wt sf lf dn : Nat} {dg : Nat → Nat} {un : Nat} {ug : Nat → Nat} {qn : Nat} {qt qg : Nat → Nat} {tn : Nat} {tk tv : Nat → Int64} {ts : Nat → Nat} {ef eg ex : Nat} {eF : Nat → Nat} {pf pg px : Nat} {pF : Nat → Nat} (htn : tn ≤ 192) (hs : ∀ j, ts j < 2 ^ 31) (hnx : nx < 2 ^ 30) (hwt : wt ≤ nx) (k v : Int64) (T0 : TS) (ho : op = true) (ht : wt < 2) (hT0 : tI (tn, tk, tv, ts) k v nx = T0) : Met l yX5_add (Cond.code yX5_add cX5_add 7 (some .int) :: TB) { frames := 5, cells := 0, slots := 0, locals := 121 } (xPre Nst (dC, dI) A (tyS cB cI cL) (wS a cB cI cL h1 h2 s1 s2 op nx wt sf lf dn dg un ug qn qt qg tn tk tv ts ef eg ex eF pf pg px pF) [.ref (a 0), .long (k), .long (v)]) (xQi (dC, dI) A (nI nx) (wS a cB cI cL h1 h2 s1 s2 op (nx + 1) (wt + 1) sf lf dn dg un ug qn qt qg T0.1 T0.2.1 T0.2.2.1 T0.2.2.2 ef eg ex eF pf pg px pF)) 0 0 A := by
  refine x_ofWi (cc := cX5_add) (maxL := 7) (by decide) rfl (Nat.le_of_ble_eq_true rfl) ?_
  intro p e s m args below meth c Q hx hb hml hts hown hK hN hP hD hS hret ls hl
  have hl : lv_has ls 7 [(0, .ref (a 0)), (1, .long (k)), (3, .long (v))] := hl
  have hown : s.vm.findClass RX5 = some m.cls := hown
  have hTs : ∀ j, T0.2.2.2 j < 2 ^ 31 := by rw [← hT0]; exact tI_lt hs (by omega)
  have hTn : T0.1 ≤ 192 := by rw [← hT0]; exact tI_le htn
  have f49 := hts _ (List.mem_cons_of_mem _ tw_213)
  have in_X5 := (fun q hq => List.mem_cons_of_mem _ (inX5 q hq) : ∀ q ∈ wsX50, q ∈ (Cond.code yX5_add cX5_add 7 (some .int) :: TB))
  have f66 := hts _ (List.mem_cons_of_mem _ tw_215)
  have f53 := hts _ (List.mem_cons_of_mem _ tw_214)
  have f35 := hts _ (List.mem_cons_of_mem _ tw_210)
  have n73 := hN (.methodLinkNest RX5 73 yX3_insert "SegmentLog") (by decide +kernel)
  have ini_X3 := hts _ (List.mem_cons_of_mem _ tw_89)
  have im_yX3_insert := hts _ (List.mem_cons_of_mem _ tw_289)
  have se_yX3_insert := hts _ (List.mem_cons_of_mem _ tw_12)
  refine lv_aload_n hx hb dX5_add_0 rfl (lv_at hl 0 rfl) ?_
  refine va_get (D := (dC, dI)) (ci := 5) (v := .int (bI op)) (C := RX5) (T := TX5) (N := 11) hx hb hts in_X5 hown hK hP 0 rfl rfl 6 (by decide) f49 (fun _ h9 => h9) rfl dX5_add_1 ?_
  refine x_if_ne_b (tgt := 10) hx hb dX5_add_4 (by decide) (fun c4 => ?_) (fun c4 => ?_)
  · refine lv_aload_n hx hb dX5_add_10 rfl (lv_at hl 0 rfl) ?_
    refine va_get (D := (dC, dI)) (ci := 5) (v := .int (nI wt)) (C := RX5) (T := TX5) (N := 11) hx hb hts in_X5 hown hK hP 0 rfl rfl 8 (by decide) f66 (fun _ h9 => h9) rfl dX5_add_11 ?_
    refine lv_iconst (v := nI 1) hx hb dX5_add_14 (by decide) ?_
    refine x_iadd hx hb dX5_add_15 ?_
    refine lv_iconst (v := nI 3) hx hb dX5_add_16 (by decide) ?_
    refine x_icmp_lt (tgt := 24) hx hb dX5_add_17 (by decide) (by omega) (by omega) (fun c17 => ?_) (fun c17 => ?_)
    · refine lv_iconst (v := nI 0) hx hb dX5_add_24 (by decide) ?_
      refine lv_istore (lv' := [(5, .int (nI 0)), (0, .ref (a 0)), (1, .long (k)), (3, .long (v))]) hx hb dX5_add_25 hl (by decide) rfl (fun ls hl => ?_)
      refine lv_iload hx hb dX5_add_27 (lv_at hl 0 rfl) ?_
      refine x_if_eq (tgt := 47) hx hb dX5_add_29 (by decide) (by decide) (fun c29 => ?_) (fun c29 => absurd c29 (by decide))
      refine lv_aload_n hx hb dX5_add_47 rfl (lv_at hl 1 rfl) ?_
      refine va_get (D := (dC, dI)) (ci := 5) (v := .int (nI nx)) (C := RX5) (T := TX5) (N := 11) hx hb hts in_X5 hown hK hP 0 rfl rfl 7 (by decide) f53 (fun _ h9 => h9) rfl dX5_add_48 ?_
      refine lv_istore (lv' := [(6, .int (nI nx)), (5, .int (nI 0)), (0, .ref (a 0)), (1, .long (k)), (3, .long (v))]) hx hb dX5_add_51 hl (by decide) rfl (fun ls hl => ?_)
      refine lv_aload_n hx hb dX5_add_53 rfl (lv_at hl 2 rfl) ?_
      refine va_get (D := (dC, dI)) (ci := 5) (v := .ref (a 9)) (C := RX5) (T := TX5) (N := 11) hx hb hts in_X5 hown hK hP 0 rfl rfl 3 (by decide) f35 (fun _ h9 => h9) rfl dX5_add_54 ?_
      refine lv_lload_n hx hb dX5_add_57 rfl (lv_at hl 3 rfl) ?_
      refine lv_lload_n hx hb dX5_add_58 rfl (lv_at hl 4 rfl) ?_
      refine lv_iload hx hb dX5_add_59 (lv_at hl 0 rfl) ?_
      refine x_callv (va_runVN (As := [.long (k), .long (v), .int (nI nx)]) (rest := []) ⟨hx, hb, hml, hown, hts⟩ (c_Ta_insert (by omega) hs k v nx (by omega)) ⟨(va_cnB 3 hts (tbG tw_290) rfl rfl rfl n73 ini_X3 (by decide +kernel) ⟨Nat.le_of_ble_eq_true rfl, Nat.le_of_ble_eq_true rfl⟩), im_yX3_insert, se_yX3_insert⟩ ⟨x_blind, va_recv hK hP (ci := 3) (q0 := 9) rfl rfl, x_pre hK hP hD hN⟩ rfl rfl hl.1 rfl (lv_room (Nat.le_of_ble_eq_true rfl)) dX5_add_61 ⟨Nat.zero_le _, Nat.zero_le _⟩) hS (fun H locs hP hD hS => ?_)
      rw [hT0] at hP hD
      have hP : va_P (dC, dI) vwCl (wS a cB cI cL h1 h2 s1 s2 op nx wt sf lf dn dg un ug qn qt qg T0.1 T0.2.1 T0.2.2.1 T0.2.2.2 ef eg ex eF pf pg px pF) H := hP
      have hD : va_D A (wS a cB cI cL h1 h2 s1 s2 op nx wt sf lf dn dg un ug qn qt qg T0.1 T0.2.1 T0.2.2.1 T0.2.2.2 ef eg ex eF pf pg px pF) := hD
      refine lv_aload_n hx hb dX5_add_64 rfl (lv_at hl 2 rfl) ?_
      refine lv_dup hx hb dX5_add_65 rfl ?_
      refine va_get (D := (dC, dI)) (ci := 5) (v := .int (nI nx)) (C := RX5) (T := TX5) (N := 11) hx hb hts in_X5 hown hK hP 0 rfl rfl 7 (by decide) f53 (fun _ h9 => h9) rfl dX5_add_66 ?_
      refine lv_iconst (v := nI 1) hx hb dX5_add_69 (by decide) ?_
      refine x_iadd hx hb dX5_add_70 ?_
      refine va_put (D := (dC, dI)) (ci := 5) (v := .int (nI (nx + 1))) (ty := .int) (C := RX5) (T := TX5) (N := 11) hx hb hts in_X5 tyX5 tyX5_ok nmX5 hown hK hP hD hS 0 rfl rfl 7 (by decide) f53 (fun _ h9 => h9) rfl (by decide +kernel) rfl rfl (Nat.le_of_ble_eq_true rfl) dX5_add_71 (fun H locs hP hD hS => ?_)
      have hP : va_P (dC, dI) vwCl (wS a cB cI cL h1 h2 s1 s2 op (nx + 1) wt sf lf dn dg un ug qn qt qg T0.1 T0.2.1 T0.2.2.1 T0.2.2.2 ef eg ex eF pf pg px pF) H := hP
      have hD : va_D A (wS a cB cI cL h1 h2 s1 s2 op (nx + 1) wt sf lf dn dg un ug qn qt qg T0.1 T0.2.1 T0.2.2.1 T0.2.2.2 ef eg ex eF pf pg px pF) := hD
      refine lv_aload_n hx hb dX5_add_74 rfl (lv_at hl 2 rfl) ?_
      refine lv_dup hx hb dX5_add_75 rfl ?_
      refine va_get (D := (dC, dI)) (ci := 5) (v := .int (nI wt)) (C := RX5) (T := TX5) (N := 11) hx hb hts in_X5 hown hK hP 0 rfl rfl 8 (by decide) f66 (fun _ h9 => h9) rfl dX5_add_76 ?_
      refine lv_iconst (v := nI 1) hx hb dX5_add_79 (by decide) ?_
      refine x_iadd hx hb dX5_add_80 ?_
      refine va_put (D := (dC, dI)) (ci := 5) (v := .int (nI (wt + 1))) (ty := .int) (C := RX5) (T := TX5) (N := 11) hx hb hts in_X5 tyX5 tyX5_ok nmX5 hown hK hP hD hS 0 rfl rfl 8 (by decide) f66 (fun _ h9 => h9) rfl (by decide +kernel) rfl rfl (Nat.le_of_ble_eq_true rfl) dX5_add_81 (fun H locs hP hD hS => ?_)
      have hP : va_P (dC, dI) vwCl (wS a cB cI cL h1 h2 s1 s2 op (nx + 1) (wt + 1) sf lf dn dg un ug qn qt qg T0.1 T0.2.1 T0.2.2.1 T0.2.2.2 ef eg ex eF pf pg px pF) H := hP
      have hD : va_D A (wS a cB cI cL h1 h2 s1 s2 op (nx + 1) (wt + 1) sf lf dn dg un ug qn qt qg T0.1 T0.2.1 T0.2.2.1 T0.2.2.2 ef eg ex eF pf pg px pF) := hD
      refine lv_iload hx hb dX5_add_84 (lv_at hl 1 rfl) ?_
      refine x_if_eq (tgt := 100) hx hb dX5_add_86 (by decide) (by decide) (fun c86 => ?_) (fun c86 => absurd c86 (by decide))
      refine lv_iload hx hb dX5_add_100 (lv_at hl 0 rfl) ?_
      exact hret dX5_add_102 (by rfl) hP hD hS
    · exact absurd c17 (by omega)
  · exact absurd (ho.symm.trans c4) (by decide)

set_option maxHeartbeats 4000000 in
set_option maxRecDepth 100000 in
theorem c_SL_addL {l : Launch} {dC : Nat → ClassId} {dI : Nat → Nat → Nat} {A : Nat → Prop} {a : Nat → Nat} {cB cI cL : ClassId} {h1 h2 s1 s2 : Nat} {op : Bool} {nx wt sf lf dn : Nat} {dg : Nat → Nat} {un : Nat} {ug : Nat → Nat} {qn : Nat} {qt qg : Nat → Nat} {tn : Nat} {tk tv : Nat → Int64} {ts : Nat → Nat} {ef eg ex : Nat} {eF : Nat → Nat} {pf pg px : Nat} {pF : Nat → Nat} (hun : un ≤ 64) (hqn : qn ≤ 64) (htn : tn ≤ 192) (hug : ∀ j, ug j < 8) (hqt : ∀ j, qt j < 64) (hqg : ∀ j, qg j < 256) (hs : ∀ j, ts j < 2 ^ 31) (hnx : nx < 2 ^ 30) (hwt : wt ≤ nx) (k v : Int64) (b : Nat) (T0 : TS) (ho : op = true) (ht : wt = 2) (hfr : ulr ug 1 un 0 0 = some b) (hb1 : b < 64) (hq1 : qn < 64) (hx1 : nx + 1 < 2 ^ 30) (hT0 : tI (tn, tk, tv, ts) k v nx = T0) (hfd : ∀ j, j < wt + 1 → ∃ i, twi T0.2.2.2 (nx + 1 - (wt + 1) + j) T0.1 0 = some i) : Met l yX5_add (Cond.code yX5_add cX5_add 7 (some .int) :: TB) { frames := 5, cells := 0, slots := 0, locals := 121 } (xPre Nst (dC, dI) A (tyS cB cI cL) (wS a cB cI cL h1 h2 s1 s2 op nx wt sf lf dn dg un ug qn qt qg tn tk tv ts ef eg ex eF pf pg px pF) [.ref (a 0), .long (k), .long (v)]) (xQi (dC, dI) A (nI nx) (wS a cB cI cL h1 h2 s1 s2 op (nx + 1) 0 sf lf dn dg un (umk un b 1 1 ug 0) (qn + 1) (va_up qt qn b) (qlG qn (nx + 1 - (wt + 1)) (wt + 1) T0.2.1 T0.2.2.1 T0.2.2.2 T0.1 b qt qg) T0.1 T0.2.1 T0.2.2.1 T0.2.2.2 ef eg ex eF pf pg px pF)) 0 0 A := by
  refine x_ofWi (cc := cX5_add) (maxL := 7) (by decide) rfl (Nat.le_of_ble_eq_true rfl) ?_
  intro p e s m args below meth c Q hx hb hml hts hown hK hN hP hD hS hret ls hl
  have hl : lv_has ls 7 [(0, .ref (a 0)), (1, .long (k)), (3, .long (v))] := hl
  have hown : s.vm.findClass RX5 = some m.cls := hown
  have hTs : ∀ j, T0.2.2.2 j < 2 ^ 31 := by rw [← hT0]; exact tI_lt hs (by omega)
  have hTn : T0.1 ≤ 192 := by rw [← hT0]; exact tI_le htn
  have f49 := hts _ (List.mem_cons_of_mem _ tw_213)
  have in_X5 := (fun q hq => List.mem_cons_of_mem _ (inX5 q hq) : ∀ q ∈ wsX50, q ∈ (Cond.code yX5_add cX5_add 7 (some .int) :: TB))
  have f66 := hts _ (List.mem_cons_of_mem _ tw_215)
  have f21 := hts _ (List.mem_cons_of_mem _ tw_208)
  have n69 := hN (.methodLinkNest RX5 69 yX4_leastFree "SegmentLog") (by decide +kernel)
  have ini_X4 := hts _ (List.mem_cons_of_mem _ tw_86)
  have im_yX4_leastFree := hts _ (List.mem_cons_of_mem _ tw_281)
  have se_yX4_leastFree := hts _ (List.mem_cons_of_mem _ tw_10)
  have f53 := hts _ (List.mem_cons_of_mem _ tw_214)
  have f35 := hts _ (List.mem_cons_of_mem _ tw_210)
  have n73 := hN (.methodLinkNest RX5 73 yX3_insert "SegmentLog") (by decide +kernel)
  have ini_X3 := hts _ (List.mem_cons_of_mem _ tw_89)
  have im_yX3_insert := hts _ (List.mem_cons_of_mem _ tw_289)
  have se_yX3_insert := hts _ (List.mem_cons_of_mem _ tw_12)
  refine lv_aload_n hx hb dX5_add_0 rfl (lv_at hl 0 rfl) ?_
  refine va_get (D := (dC, dI)) (ci := 5) (v := .int (bI op)) (C := RX5) (T := TX5) (N := 11) hx hb hts in_X5 hown hK hP 0 rfl rfl 6 (by decide) f49 (fun _ h9 => h9) rfl dX5_add_1 ?_
  refine x_if_ne_b (tgt := 10) hx hb dX5_add_4 (by decide) (fun c4 => ?_) (fun c4 => ?_)
  · refine lv_aload_n hx hb dX5_add_10 rfl (lv_at hl 0 rfl) ?_
    refine va_get (D := (dC, dI)) (ci := 5) (v := .int (nI wt)) (C := RX5) (T := TX5) (N := 11) hx hb hts in_X5 hown hK hP 0 rfl rfl 8 (by decide) f66 (fun _ h9 => h9) rfl dX5_add_11 ?_
    refine lv_iconst (v := nI 1) hx hb dX5_add_14 (by decide) ?_
    refine x_iadd hx hb dX5_add_15 ?_
    refine lv_iconst (v := nI 3) hx hb dX5_add_16 (by decide) ?_
    refine x_icmp_lt (tgt := 24) hx hb dX5_add_17 (by decide) (by omega) (by omega) (fun c17 => ?_) (fun c17 => ?_)
    · exact absurd c17 (by omega)
    · refine lv_iconst (v := nI 1) hx hb dX5_add_20 (by decide) ?_
      refine lv_goto (tgt := 25) hx hb dX5_add_21 (by decide) ?_
      refine lv_istore (lv' := [(5, .int (nI 1)), (0, .ref (a 0)), (1, .long (k)), (3, .long (v))]) hx hb dX5_add_25 hl (by decide) rfl (fun ls hl => ?_)
      refine lv_iload hx hb dX5_add_27 (lv_at hl 0 rfl) ?_
      refine x_if_eq (tgt := 47) hx hb dX5_add_29 (by decide) (by decide) (fun c29 => absurd c29 (by decide)) (fun c29 => ?_)
      refine lv_aload_n hx hb dX5_add_32 rfl (lv_at hl 1 rfl) ?_
      refine va_get (D := (dC, dI)) (ci := 5) (v := .ref (a 3)) (C := RX5) (T := TX5) (N := 11) hx hb hts in_X5 hown hK hP 0 rfl rfl 1 (by decide) f21 (fun _ h9 => h9) rfl dX5_add_33 ?_
      refine x_calli (va_runVN (As := []) (rest := []) ⟨hx, hb, hml, hown, hts⟩ (c_Us_leastFree (show okU (fun ug' => wS a cB cI cL h1 h2 s1 s2 op nx wt sf lf dn dg un ug' qn qt qg tn tk tv ts ef eg ex eF pf pg px pF) 3 4 (a 3) (a 4) cI un from ⟨fun _ => rfl, fun _ => rfl, fun _ _ => rfl⟩) (tyS_I cB cI cL) (by omega) ug hug) ⟨(va_cnB 0 hts (tbG tw_282) rfl rfl rfl n69 ini_X4 (by decide +kernel) ⟨Nat.le_of_ble_eq_true rfl, Nat.le_of_ble_eq_true rfl⟩), im_yX4_leastFree, se_yX4_leastFree⟩ ⟨x_blind, va_recv hK hP (ci := 4) (q0 := 3) rfl rfl, x_pre hK hP hD hN⟩ rfl rfl hl.1 rfl (lv_room (Nat.le_of_ble_eq_true rfl)) dX5_add_36 ⟨Nat.zero_le _, Nat.zero_le _⟩) hS (fun H locs hP hD hS => ?_)
      have hP : va_P (dC, dI) vwCl (wS a cB cI cL h1 h2 s1 s2 op nx wt sf lf dn dg un ug qn qt qg tn tk tv ts ef eg ex eF pf pg px pF) H := hP
      have hD : va_D A (wS a cB cI cL h1 h2 s1 s2 op nx wt sf lf dn dg un ug qn qt qg tn tk tv ts ef eg ex eF pf pg px pF) := hD
      refine lv_bipush (v := (-2)) hx hb dX5_add_39 (by decide) ?_
      refine lv_icmp_ne (tgt := 47) hx hb dX5_add_41 (by decide) (fun c41 => ?_) (fun c41 => ?_)
      · refine lv_aload_n hx hb dX5_add_47 rfl (lv_at hl 1 rfl) ?_
        refine va_get (D := (dC, dI)) (ci := 5) (v := .int (nI nx)) (C := RX5) (T := TX5) (N := 11) hx hb hts in_X5 hown hK hP 0 rfl rfl 7 (by decide) f53 (fun _ h9 => h9) rfl dX5_add_48 ?_
        refine lv_istore (lv' := [(6, .int (nI nx)), (5, .int (nI 1)), (0, .ref (a 0)), (1, .long (k)), (3, .long (v))]) hx hb dX5_add_51 hl (by decide) rfl (fun ls hl => ?_)
        refine lv_aload_n hx hb dX5_add_53 rfl (lv_at hl 2 rfl) ?_
        refine va_get (D := (dC, dI)) (ci := 5) (v := .ref (a 9)) (C := RX5) (T := TX5) (N := 11) hx hb hts in_X5 hown hK hP 0 rfl rfl 3 (by decide) f35 (fun _ h9 => h9) rfl dX5_add_54 ?_
        refine lv_lload_n hx hb dX5_add_57 rfl (lv_at hl 3 rfl) ?_
        refine lv_lload_n hx hb dX5_add_58 rfl (lv_at hl 4 rfl) ?_
        refine lv_iload hx hb dX5_add_59 (lv_at hl 0 rfl) ?_
        refine x_callv (va_runVN (As := [.long (k), .long (v), .int (nI nx)]) (rest := []) ⟨hx, hb, hml, hown, hts⟩ (c_Ta_insert (by omega) hs k v nx (by omega)) ⟨(va_cnB 3 hts (tbG tw_290) rfl rfl rfl n73 ini_X3 (by decide +kernel) ⟨Nat.le_of_ble_eq_true rfl, Nat.le_of_ble_eq_true rfl⟩), im_yX3_insert, se_yX3_insert⟩ ⟨x_blind, va_recv hK hP (ci := 3) (q0 := 9) rfl rfl, x_pre hK hP hD hN⟩ rfl rfl hl.1 rfl (lv_room (Nat.le_of_ble_eq_true rfl)) dX5_add_61 ⟨Nat.zero_le _, Nat.zero_le _⟩) hS (fun H locs hP hD hS => ?_)
        rw [hT0] at hP hD
        have hP : va_P (dC, dI) vwCl (wS a cB cI cL h1 h2 s1 s2 op nx wt sf lf dn dg un ug qn qt qg T0.1 T0.2.1 T0.2.2.1 T0.2.2.2 ef eg ex eF pf pg px pF) H := hP
        have hD : va_D A (wS a cB cI cL h1 h2 s1 s2 op nx wt sf lf dn dg un ug qn qt qg T0.1 T0.2.1 T0.2.2.1 T0.2.2.2 ef eg ex eF pf pg px pF) := hD
        refine lv_aload_n hx hb dX5_add_64 rfl (lv_at hl 2 rfl) ?_
        refine lv_dup hx hb dX5_add_65 rfl ?_
        refine va_get (D := (dC, dI)) (ci := 5) (v := .int (nI nx)) (C := RX5) (T := TX5) (N := 11) hx hb hts in_X5 hown hK hP 0 rfl rfl 7 (by decide) f53 (fun _ h9 => h9) rfl dX5_add_66 ?_
        refine lv_iconst (v := nI 1) hx hb dX5_add_69 (by decide) ?_
        refine x_iadd hx hb dX5_add_70 ?_
        refine va_put (D := (dC, dI)) (ci := 5) (v := .int (nI (nx + 1))) (ty := .int) (C := RX5) (T := TX5) (N := 11) hx hb hts in_X5 tyX5 tyX5_ok nmX5 hown hK hP hD hS 0 rfl rfl 7 (by decide) f53 (fun _ h9 => h9) rfl (by decide +kernel) rfl rfl (Nat.le_of_ble_eq_true rfl) dX5_add_71 (fun H locs hP hD hS => ?_)
        have hP : va_P (dC, dI) vwCl (wS a cB cI cL h1 h2 s1 s2 op (nx + 1) wt sf lf dn dg un ug qn qt qg T0.1 T0.2.1 T0.2.2.1 T0.2.2.2 ef eg ex eF pf pg px pF) H := hP
        have hD : va_D A (wS a cB cI cL h1 h2 s1 s2 op (nx + 1) wt sf lf dn dg un ug qn qt qg T0.1 T0.2.1 T0.2.2.1 T0.2.2.2 ef eg ex eF pf pg px pF) := hD
        refine lv_aload_n hx hb dX5_add_74 rfl (lv_at hl 2 rfl) ?_
        refine lv_dup hx hb dX5_add_75 rfl ?_
        refine va_get (D := (dC, dI)) (ci := 5) (v := .int (nI wt)) (C := RX5) (T := TX5) (N := 11) hx hb hts in_X5 hown hK hP 0 rfl rfl 8 (by decide) f66 (fun _ h9 => h9) rfl dX5_add_76 ?_
        refine lv_iconst (v := nI 1) hx hb dX5_add_79 (by decide) ?_
        refine x_iadd hx hb dX5_add_80 ?_
        refine va_put (D := (dC, dI)) (ci := 5) (v := .int (nI (wt + 1))) (ty := .int) (C := RX5) (T := TX5) (N := 11) hx hb hts in_X5 tyX5 tyX5_ok nmX5 hown hK hP hD hS 0 rfl rfl 8 (by decide) f66 (fun _ h9 => h9) rfl (by decide +kernel) rfl rfl (Nat.le_of_ble_eq_true rfl) dX5_add_81 (fun H locs hP hD hS => ?_)
        have hP : va_P (dC, dI) vwCl (wS a cB cI cL h1 h2 s1 s2 op (nx + 1) (wt + 1) sf lf dn dg un ug qn qt qg T0.1 T0.2.1 T0.2.2.1 T0.2.2.2 ef eg ex eF pf pg px pF) H := hP
        have hD : va_D A (wS a cB cI cL h1 h2 s1 s2 op (nx + 1) (wt + 1) sf lf dn dg un ug qn qt qg T0.1 T0.2.1 T0.2.2.1 T0.2.2.2 ef eg ex eF pf pg px pF) := hD
        refine lv_iload hx hb dX5_add_84 (lv_at hl 1 rfl) ?_
        refine x_if_eq (tgt := 100) hx hb dX5_add_86 (by decide) (by decide) (fun c86 => absurd c86 (by decide)) (fun c86 => ?_)
        refine lv_aload_n hx hb dX5_add_89 rfl (lv_at hl 2 rfl) ?_
        refine lv_aload_n hx hb dX5_add_90 rfl (lv_at hl 2 rfl) ?_
        refine va_get (D := (dC, dI)) (ci := 5) (v := .ref (a 3)) (C := RX5) (T := TX5) (N := 11) hx hb hts in_X5 hown hK hP 0 rfl rfl 1 (by decide) f21 (fun _ h9 => h9) rfl dX5_add_91 ?_
        refine x_calli (va_runVN (As := []) (rest := [.ref (a 0)]) ⟨hx, hb, hml, hown, hts⟩ (c_Us_leastFree (show okU (fun ug' => wS a cB cI cL h1 h2 s1 s2 op (nx + 1) (wt + 1) sf lf dn dg un ug' qn qt qg T0.1 T0.2.1 T0.2.2.1 T0.2.2.2 ef eg ex eF pf pg px pF) 3 4 (a 3) (a 4) cI un from ⟨fun _ => rfl, fun _ => rfl, fun _ _ => rfl⟩) (tyS_I cB cI cL) (by omega) ug hug) ⟨(va_cnB 0 hts (tbG tw_282) rfl rfl rfl n69 ini_X4 (by decide +kernel) ⟨Nat.le_of_ble_eq_true rfl, Nat.le_of_ble_eq_true rfl⟩), im_yX4_leastFree, se_yX4_leastFree⟩ ⟨x_blind, va_recv hK hP (ci := 4) (q0 := 3) rfl rfl, x_pre hK hP hD hN⟩ rfl rfl hl.1 rfl (lv_room (Nat.le_of_ble_eq_true rfl)) dX5_add_94 ⟨Nat.zero_le _, Nat.zero_le _⟩) hS (fun H locs hP hD hS => ?_)
        have hP : va_P (dC, dI) vwCl (wS a cB cI cL h1 h2 s1 s2 op (nx + 1) (wt + 1) sf lf dn dg un ug qn qt qg T0.1 T0.2.1 T0.2.2.1 T0.2.2.2 ef eg ex eF pf pg px pF) H := hP
        have hD : va_D A (wS a cB cI cL h1 h2 s1 s2 op (nx + 1) (wt + 1) sf lf dn dg un ug qn qt qg T0.1 T0.2.1 T0.2.2.1 T0.2.2.2 ef eg ex eF pf pg px pF) := hD
        refine x_top (y := nI b) (by rw [hfr]; rfl) ?_
        refine x_callv (va_runV (As := [.int (nI b)]) (rest := []) ⟨hx, hb, hml, hown, hts⟩ (c_SL_queueLog (by omega) (by omega) (by omega) hug hqt hqg hTs (by omega) (by omega) b (by omega) (by omega) (by omega) (by omega) hfd) (cwV 1 hts (tbV tw_295 tw_297 tw_14 tw_84 tw_298) rfl rfl rfl (by decide +kernel) ⟨Nat.le_of_ble_eq_true rfl, Nat.le_of_ble_eq_true rfl⟩) ⟨x_blind, va_recv hK hP (ci := 5) (q0 := 0) rfl rfl, x_pre hK hP hD hN⟩ rfl rfl hl.1 rfl (lv_room (Nat.le_of_ble_eq_true rfl)) dX5_add_97 ⟨Nat.zero_le _, Nat.zero_le _⟩) hS (fun H locs hP hD hS => ?_)
        have hP : va_P (dC, dI) vwCl (wS a cB cI cL h1 h2 s1 s2 op (nx + 1) 0 sf lf dn dg un (umk un b 1 1 ug 0) (qn + 1) (va_up qt qn b) (qlG qn (nx + 1 - (wt + 1)) (wt + 1) T0.2.1 T0.2.2.1 T0.2.2.2 T0.1 b qt qg) T0.1 T0.2.1 T0.2.2.1 T0.2.2.2 ef eg ex eF pf pg px pF) H := hP
        have hD : va_D A (wS a cB cI cL h1 h2 s1 s2 op (nx + 1) 0 sf lf dn dg un (umk un b 1 1 ug 0) (qn + 1) (va_up qt qn b) (qlG qn (nx + 1 - (wt + 1)) (wt + 1) T0.2.1 T0.2.2.1 T0.2.2.2 T0.1 b qt qg) T0.1 T0.2.1 T0.2.2.1 T0.2.2.2 ef eg ex eF pf pg px pF) := hD
        refine lv_iload hx hb dX5_add_100 (lv_at hl 0 rfl) ?_
        exact hret dX5_add_102 (by rfl) hP hD hS
      · exact absurd (show nI b = (-2 : Int32) by rw [← c41, hfr]; rfl) (fun q => absurd (show (nI b) < 0 by rw [q]; decide) (nI_pos (by omega)))
  · exact absurd (ho.symm.trans c4) (by decide)

set_option maxHeartbeats 4000000 in
set_option maxRecDepth 100000 in
theorem c_SL_flushC {l : Launch} {dC : Nat → ClassId} {dI : Nat → Nat → Nat} {A : Nat → Prop} {a : Nat → Nat} {cB cI cL : ClassId} {h1 h2 s1 s2 : Nat} {op : Bool} {nx wt sf lf dn : Nat} {dg : Nat → Nat} {un : Nat} {ug : Nat → Nat} {qn : Nat} {qt qg : Nat → Nat} {tn : Nat} {tk tv : Nat → Int64} {ts : Nat → Nat} {ef eg ex : Nat} {eF : Nat → Nat} {pf pg px : Nat} {pF : Nat → Nat} (ho : op = false) : Met l yX5_flush (Cond.code yX5_flush cX5_flush 3 (some .int) :: TB) { frames := 5, cells := 0, slots := 0, locals := 121 } (xPre Nst (dC, dI) A (tyS cB cI cL) (wS a cB cI cL h1 h2 s1 s2 op nx wt sf lf dn dg un ug qn qt qg tn tk tv ts ef eg ex eF pf pg px pF) [.ref (a 0)]) (xQi (dC, dI) A ((-4)) (wS a cB cI cL h1 h2 s1 s2 op nx wt sf lf dn dg un ug qn qt qg tn tk tv ts ef eg ex eF pf pg px pF)) 0 0 A := by
  refine x_ofWi (cc := cX5_flush) (maxL := 3) (by decide) rfl (Nat.le_of_ble_eq_true rfl) ?_
  intro p e s m args below meth c Q hx hb hml hts hown hK hN hP hD hS hret ls hl
  have hl : lv_has ls 3 [(0, .ref (a 0))] := hl
  have hown : s.vm.findClass RX5 = some m.cls := hown
  have f49 := hts _ (List.mem_cons_of_mem _ tw_213)
  have in_X5 := (fun q hq => List.mem_cons_of_mem _ (inX5 q hq) : ∀ q ∈ wsX50, q ∈ (Cond.code yX5_flush cX5_flush 3 (some .int) :: TB))
  refine lv_aload_n hx hb dX5_flush_0 rfl (lv_at hl 0 rfl) ?_
  refine va_get (D := (dC, dI)) (ci := 5) (v := .int (bI op)) (C := RX5) (T := TX5) (N := 11) hx hb hts in_X5 hown hK hP 0 rfl rfl 6 (by decide) f49 (fun _ h9 => h9) rfl dX5_flush_1 ?_
  refine x_if_ne_b (tgt := 10) hx hb dX5_flush_4 (by decide) (fun c4 => ?_) (fun c4 => ?_)
  · exact absurd (ho.symm.trans c4) (by decide)
  · refine lv_bipush (v := (-4)) hx hb dX5_flush_7 (by decide) ?_
    exact hret dX5_flush_9 (by rfl) hP hD hS

set_option maxHeartbeats 4000000 in
set_option maxRecDepth 100000 in
theorem c_SL_flushZ {l : Launch} {dC : Nat → ClassId} {dI : Nat → Nat → Nat} {A : Nat → Prop} {a : Nat → Nat} {cB cI cL : ClassId} {h1 h2 s1 s2 : Nat} {op : Bool} {nx wt sf lf dn : Nat} {dg : Nat → Nat} {un : Nat} {ug : Nat → Nat} {qn : Nat} {qt qg : Nat → Nat} {tn : Nat} {tk tv : Nat → Int64} {ts : Nat → Nat} {ef eg ex : Nat} {eF : Nat → Nat} {pf pg px : Nat} {pF : Nat → Nat} (ho : op = true) (ht : wt = 0) : Met l yX5_flush (Cond.code yX5_flush cX5_flush 3 (some .int) :: TB) { frames := 5, cells := 0, slots := 0, locals := 121 } (xPre Nst (dC, dI) A (tyS cB cI cL) (wS a cB cI cL h1 h2 s1 s2 op nx wt sf lf dn dg un ug qn qt qg tn tk tv ts ef eg ex eF pf pg px pF) [.ref (a 0)]) (xQi (dC, dI) A (nI 0) (wS a cB cI cL h1 h2 s1 s2 op nx wt sf lf dn dg un ug qn qt qg tn tk tv ts ef eg ex eF pf pg px pF)) 0 0 A := by
  refine x_ofWi (cc := cX5_flush) (maxL := 3) (by decide) rfl (Nat.le_of_ble_eq_true rfl) ?_
  intro p e s m args below meth c Q hx hb hml hts hown hK hN hP hD hS hret ls hl
  have hl : lv_has ls 3 [(0, .ref (a 0))] := hl
  have hown : s.vm.findClass RX5 = some m.cls := hown
  have f49 := hts _ (List.mem_cons_of_mem _ tw_213)
  have in_X5 := (fun q hq => List.mem_cons_of_mem _ (inX5 q hq) : ∀ q ∈ wsX50, q ∈ (Cond.code yX5_flush cX5_flush 3 (some .int) :: TB))
  have f66 := hts _ (List.mem_cons_of_mem _ tw_215)
  refine lv_aload_n hx hb dX5_flush_0 rfl (lv_at hl 0 rfl) ?_
  refine va_get (D := (dC, dI)) (ci := 5) (v := .int (bI op)) (C := RX5) (T := TX5) (N := 11) hx hb hts in_X5 hown hK hP 0 rfl rfl 6 (by decide) f49 (fun _ h9 => h9) rfl dX5_flush_1 ?_
  refine x_if_ne_b (tgt := 10) hx hb dX5_flush_4 (by decide) (fun c4 => ?_) (fun c4 => ?_)
  · refine lv_aload_n hx hb dX5_flush_10 rfl (lv_at hl 0 rfl) ?_
    refine va_get (D := (dC, dI)) (ci := 5) (v := .int (nI wt)) (C := RX5) (T := TX5) (N := 11) hx hb hts in_X5 hown hK hP 0 rfl rfl 8 (by decide) f66 (fun _ h9 => h9) rfl dX5_flush_11 ?_
    refine x_if_ne (tgt := 19) hx hb dX5_flush_14 (by decide) (by omega) (fun c14 => ?_) (fun c14 => ?_)
    · exact absurd ht c14
    · refine lv_iconst (v := nI 0) hx hb dX5_flush_17 (by decide) ?_
      exact hret dX5_flush_18 (by rfl) hP hD hS
  · exact absurd (ho.symm.trans c4) (by decide)

set_option maxHeartbeats 4000000 in
set_option maxRecDepth 100000 in
theorem c_SL_flushF {l : Launch} {dC : Nat → ClassId} {dI : Nat → Nat → Nat} {A : Nat → Prop} {a : Nat → Nat} {cB cI cL : ClassId} {h1 h2 s1 s2 : Nat} {op : Bool} {nx wt sf lf dn : Nat} {dg : Nat → Nat} {un : Nat} {ug : Nat → Nat} {qn : Nat} {qt qg : Nat → Nat} {tn : Nat} {tk tv : Nat → Int64} {ts : Nat → Nat} {ef eg ex : Nat} {eF : Nat → Nat} {pf pg px : Nat} {pF : Nat → Nat} (hun : un ≤ 64) (hug : ∀ j, ug j < 8) (hnx : nx < 2 ^ 30) (hwt : wt ≤ nx) (ho : op = true) (ht : 0 < wt) (hfr : ulr ug 1 un 0 0 = none) : Met l yX5_flush (Cond.code yX5_flush cX5_flush 3 (some .int) :: TB) { frames := 5, cells := 0, slots := 0, locals := 121 } (xPre Nst (dC, dI) A (tyS cB cI cL) (wS a cB cI cL h1 h2 s1 s2 op nx wt sf lf dn dg un ug qn qt qg tn tk tv ts ef eg ex eF pf pg px pF) [.ref (a 0)]) (xQi (dC, dI) A ((-3)) (wS a cB cI cL h1 h2 s1 s2 op nx wt sf lf dn dg un ug qn qt qg tn tk tv ts ef eg ex eF pf pg px pF)) 0 0 A := by
  refine x_ofWi (cc := cX5_flush) (maxL := 3) (by decide) rfl (Nat.le_of_ble_eq_true rfl) ?_
  intro p e s m args below meth c Q hx hb hml hts hown hK hN hP hD hS hret ls hl
  have hl : lv_has ls 3 [(0, .ref (a 0))] := hl
  have hown : s.vm.findClass RX5 = some m.cls := hown
  have f49 := hts _ (List.mem_cons_of_mem _ tw_213)
  have in_X5 := (fun q hq => List.mem_cons_of_mem _ (inX5 q hq) : ∀ q ∈ wsX50, q ∈ (Cond.code yX5_flush cX5_flush 3 (some .int) :: TB))
  have f66 := hts _ (List.mem_cons_of_mem _ tw_215)
  have f21 := hts _ (List.mem_cons_of_mem _ tw_208)
  have n69 := hN (.methodLinkNest RX5 69 yX4_leastFree "SegmentLog") (by decide +kernel)
  have ini_X4 := hts _ (List.mem_cons_of_mem _ tw_86)
  have im_yX4_leastFree := hts _ (List.mem_cons_of_mem _ tw_281)
  have se_yX4_leastFree := hts _ (List.mem_cons_of_mem _ tw_10)
  refine lv_aload_n hx hb dX5_flush_0 rfl (lv_at hl 0 rfl) ?_
  refine va_get (D := (dC, dI)) (ci := 5) (v := .int (bI op)) (C := RX5) (T := TX5) (N := 11) hx hb hts in_X5 hown hK hP 0 rfl rfl 6 (by decide) f49 (fun _ h9 => h9) rfl dX5_flush_1 ?_
  refine x_if_ne_b (tgt := 10) hx hb dX5_flush_4 (by decide) (fun c4 => ?_) (fun c4 => ?_)
  · refine lv_aload_n hx hb dX5_flush_10 rfl (lv_at hl 0 rfl) ?_
    refine va_get (D := (dC, dI)) (ci := 5) (v := .int (nI wt)) (C := RX5) (T := TX5) (N := 11) hx hb hts in_X5 hown hK hP 0 rfl rfl 8 (by decide) f66 (fun _ h9 => h9) rfl dX5_flush_11 ?_
    refine x_if_ne (tgt := 19) hx hb dX5_flush_14 (by decide) (by omega) (fun c14 => ?_) (fun c14 => ?_)
    · refine lv_aload_n hx hb dX5_flush_19 rfl (lv_at hl 0 rfl) ?_
      refine va_get (D := (dC, dI)) (ci := 5) (v := .ref (a 3)) (C := RX5) (T := TX5) (N := 11) hx hb hts in_X5 hown hK hP 0 rfl rfl 1 (by decide) f21 (fun _ h9 => h9) rfl dX5_flush_20 ?_
      refine x_calli (va_runVN (As := []) (rest := []) ⟨hx, hb, hml, hown, hts⟩ (c_Us_leastFree (show okU (fun ug' => wS a cB cI cL h1 h2 s1 s2 op nx wt sf lf dn dg un ug' qn qt qg tn tk tv ts ef eg ex eF pf pg px pF) 3 4 (a 3) (a 4) cI un from ⟨fun _ => rfl, fun _ => rfl, fun _ _ => rfl⟩) (tyS_I cB cI cL) (by omega) ug hug) ⟨(va_cnB 0 hts (tbG tw_282) rfl rfl rfl n69 ini_X4 (by decide +kernel) ⟨Nat.le_of_ble_eq_true rfl, Nat.le_of_ble_eq_true rfl⟩), im_yX4_leastFree, se_yX4_leastFree⟩ ⟨x_blind, va_recv hK hP (ci := 4) (q0 := 3) rfl rfl, x_pre hK hP hD hN⟩ rfl rfl hl.1 rfl (lv_room (Nat.le_of_ble_eq_true rfl)) dX5_flush_23 ⟨Nat.zero_le _, Nat.zero_le _⟩) hS (fun H locs hP hD hS => ?_)
      have hP : va_P (dC, dI) vwCl (wS a cB cI cL h1 h2 s1 s2 op nx wt sf lf dn dg un ug qn qt qg tn tk tv ts ef eg ex eF pf pg px pF) H := hP
      have hD : va_D A (wS a cB cI cL h1 h2 s1 s2 op nx wt sf lf dn dg un ug qn qt qg tn tk tv ts ef eg ex eF pf pg px pF) := hD
      refine lv_istore_n (lv' := [(1, .int (oI (ulr ug 1 un 0 0))), (0, .ref (a 0))]) hx hb dX5_flush_26 rfl hl (by decide) rfl (fun ls hl => ?_)
      refine lv_iload_n hx hb dX5_flush_27 rfl (lv_at hl 0 rfl) ?_
      refine lv_bipush (v := (-2)) hx hb dX5_flush_28 (by decide) ?_
      refine lv_icmp_ne (tgt := 36) hx hb dX5_flush_30 (by decide) (fun c30 => ?_) (fun c30 => ?_)
      · exact absurd (show oI _ = (-2 : Int32) by rw [hfr]; rfl) c30
      · refine lv_bipush (v := (-3)) hx hb dX5_flush_33 (by decide) ?_
        exact hret dX5_flush_35 (by rfl) hP hD hS
    · exact absurd c14 (by omega)
  · exact absurd (ho.symm.trans c4) (by decide)

set_option maxHeartbeats 4000000 in
set_option maxRecDepth 100000 in
theorem c_SL_flushL {l : Launch} {dC : Nat → ClassId} {dI : Nat → Nat → Nat} {A : Nat → Prop} {a : Nat → Nat} {cB cI cL : ClassId} {h1 h2 s1 s2 : Nat} {op : Bool} {nx wt sf lf dn : Nat} {dg : Nat → Nat} {un : Nat} {ug : Nat → Nat} {qn : Nat} {qt qg : Nat → Nat} {tn : Nat} {tk tv : Nat → Int64} {ts : Nat → Nat} {ef eg ex : Nat} {eF : Nat → Nat} {pf pg px : Nat} {pF : Nat → Nat} (hun : un ≤ 64) (hqn : qn ≤ 64) (htn : tn ≤ 192) (hug : ∀ j, ug j < 8) (hqt : ∀ j, qt j < 64) (hqg : ∀ j, qg j < 256) (hs : ∀ j, ts j < 2 ^ 31) (hnx : nx < 2 ^ 30) (hwt : wt ≤ nx) (b : Nat) (ho : op = true) (ht : 0 < wt) (ht3 : wt ≤ 3) (hfr : ulr ug 1 un 0 0 = some b) (hb1 : b < 64) (hq1 : qn < 64) (hfd : ∀ j, j < wt → ∃ i, twi ts (nx - wt + j) tn 0 = some i) : Met l yX5_flush (Cond.code yX5_flush cX5_flush 3 (some .int) :: TB) { frames := 5, cells := 0, slots := 0, locals := 121 } (xPre Nst (dC, dI) A (tyS cB cI cL) (wS a cB cI cL h1 h2 s1 s2 op nx wt sf lf dn dg un ug qn qt qg tn tk tv ts ef eg ex eF pf pg px pF) [.ref (a 0)]) (xQi (dC, dI) A (nI wt) (wS a cB cI cL h1 h2 s1 s2 op nx 0 sf lf dn dg un (umk un b 1 1 ug 0) (qn + 1) (va_up qt qn b) (qlG qn (nx - wt) wt tk tv ts tn b qt qg) tn tk tv ts ef eg ex eF pf pg px pF)) 0 0 A := by
  refine x_ofWi (cc := cX5_flush) (maxL := 3) (by decide) rfl (Nat.le_of_ble_eq_true rfl) ?_
  intro p e s m args below meth c Q hx hb hml hts hown hK hN hP hD hS hret ls hl
  have hl : lv_has ls 3 [(0, .ref (a 0))] := hl
  have hown : s.vm.findClass RX5 = some m.cls := hown
  have f49 := hts _ (List.mem_cons_of_mem _ tw_213)
  have in_X5 := (fun q hq => List.mem_cons_of_mem _ (inX5 q hq) : ∀ q ∈ wsX50, q ∈ (Cond.code yX5_flush cX5_flush 3 (some .int) :: TB))
  have f66 := hts _ (List.mem_cons_of_mem _ tw_215)
  have f21 := hts _ (List.mem_cons_of_mem _ tw_208)
  have n69 := hN (.methodLinkNest RX5 69 yX4_leastFree "SegmentLog") (by decide +kernel)
  have ini_X4 := hts _ (List.mem_cons_of_mem _ tw_86)
  have im_yX4_leastFree := hts _ (List.mem_cons_of_mem _ tw_281)
  have se_yX4_leastFree := hts _ (List.mem_cons_of_mem _ tw_10)
  refine lv_aload_n hx hb dX5_flush_0 rfl (lv_at hl 0 rfl) ?_
  refine va_get (D := (dC, dI)) (ci := 5) (v := .int (bI op)) (C := RX5) (T := TX5) (N := 11) hx hb hts in_X5 hown hK hP 0 rfl rfl 6 (by decide) f49 (fun _ h9 => h9) rfl dX5_flush_1 ?_
  refine x_if_ne_b (tgt := 10) hx hb dX5_flush_4 (by decide) (fun c4 => ?_) (fun c4 => ?_)
  · refine lv_aload_n hx hb dX5_flush_10 rfl (lv_at hl 0 rfl) ?_
    refine va_get (D := (dC, dI)) (ci := 5) (v := .int (nI wt)) (C := RX5) (T := TX5) (N := 11) hx hb hts in_X5 hown hK hP 0 rfl rfl 8 (by decide) f66 (fun _ h9 => h9) rfl dX5_flush_11 ?_
    refine x_if_ne (tgt := 19) hx hb dX5_flush_14 (by decide) (by omega) (fun c14 => ?_) (fun c14 => ?_)
    · refine lv_aload_n hx hb dX5_flush_19 rfl (lv_at hl 0 rfl) ?_
      refine va_get (D := (dC, dI)) (ci := 5) (v := .ref (a 3)) (C := RX5) (T := TX5) (N := 11) hx hb hts in_X5 hown hK hP 0 rfl rfl 1 (by decide) f21 (fun _ h9 => h9) rfl dX5_flush_20 ?_
      refine x_calli (va_runVN (As := []) (rest := []) ⟨hx, hb, hml, hown, hts⟩ (c_Us_leastFree (show okU (fun ug' => wS a cB cI cL h1 h2 s1 s2 op nx wt sf lf dn dg un ug' qn qt qg tn tk tv ts ef eg ex eF pf pg px pF) 3 4 (a 3) (a 4) cI un from ⟨fun _ => rfl, fun _ => rfl, fun _ _ => rfl⟩) (tyS_I cB cI cL) (by omega) ug hug) ⟨(va_cnB 0 hts (tbG tw_282) rfl rfl rfl n69 ini_X4 (by decide +kernel) ⟨Nat.le_of_ble_eq_true rfl, Nat.le_of_ble_eq_true rfl⟩), im_yX4_leastFree, se_yX4_leastFree⟩ ⟨x_blind, va_recv hK hP (ci := 4) (q0 := 3) rfl rfl, x_pre hK hP hD hN⟩ rfl rfl hl.1 rfl (lv_room (Nat.le_of_ble_eq_true rfl)) dX5_flush_23 ⟨Nat.zero_le _, Nat.zero_le _⟩) hS (fun H locs hP hD hS => ?_)
      have hP : va_P (dC, dI) vwCl (wS a cB cI cL h1 h2 s1 s2 op nx wt sf lf dn dg un ug qn qt qg tn tk tv ts ef eg ex eF pf pg px pF) H := hP
      have hD : va_D A (wS a cB cI cL h1 h2 s1 s2 op nx wt sf lf dn dg un ug qn qt qg tn tk tv ts ef eg ex eF pf pg px pF) := hD
      refine lv_istore_n (lv' := [(1, .int (oI (ulr ug 1 un 0 0))), (0, .ref (a 0))]) hx hb dX5_flush_26 rfl hl (by decide) rfl (fun ls hl => ?_)
      rw [hfr] at hl
      have hl : lv_has ls 3 [(1, .int (nI b)), (0, .ref (a 0))] := hl
      refine lv_iload_n hx hb dX5_flush_27 rfl (lv_at hl 0 rfl) ?_
      refine lv_bipush (v := (-2)) hx hb dX5_flush_28 (by decide) ?_
      refine lv_icmp_ne (tgt := 36) hx hb dX5_flush_30 (by decide) (fun c30 => ?_) (fun c30 => ?_)
      · refine lv_aload_n hx hb dX5_flush_36 rfl (lv_at hl 1 rfl) ?_
        refine va_get (D := (dC, dI)) (ci := 5) (v := .int (nI wt)) (C := RX5) (T := TX5) (N := 11) hx hb hts in_X5 hown hK hP 0 rfl rfl 8 (by decide) f66 (fun _ h9 => h9) rfl dX5_flush_37 ?_
        refine lv_istore_n (lv' := [(2, .int (nI wt)), (1, .int (nI b)), (0, .ref (a 0))]) hx hb dX5_flush_40 rfl hl (by decide) rfl (fun ls hl => ?_)
        refine lv_aload_n hx hb dX5_flush_41 rfl (lv_at hl 2 rfl) ?_
        refine lv_iload_n hx hb dX5_flush_42 rfl (lv_at hl 1 rfl) ?_
        refine x_callv (va_runV (As := [.int (nI b)]) (rest := []) ⟨hx, hb, hml, hown, hts⟩ (c_SL_queueLog (by omega) (by omega) (by omega) hug hqt hqg hs (by omega) (by omega) b (by omega) (by omega) (by omega) (by omega) hfd) (cwV 1 hts (tbV tw_295 tw_297 tw_14 tw_84 tw_298) rfl rfl rfl (by decide +kernel) ⟨Nat.le_of_ble_eq_true rfl, Nat.le_of_ble_eq_true rfl⟩) ⟨x_blind, va_recv hK hP (ci := 5) (q0 := 0) rfl rfl, x_pre hK hP hD hN⟩ rfl rfl hl.1 rfl (lv_room (Nat.le_of_ble_eq_true rfl)) dX5_flush_43 ⟨Nat.zero_le _, Nat.zero_le _⟩) hS (fun H locs hP hD hS => ?_)
        have hP : va_P (dC, dI) vwCl (wS a cB cI cL h1 h2 s1 s2 op nx 0 sf lf dn dg un (umk un b 1 1 ug 0) (qn + 1) (va_up qt qn b) (qlG qn (nx - wt) wt tk tv ts tn b qt qg) tn tk tv ts ef eg ex eF pf pg px pF) H := hP
        have hD : va_D A (wS a cB cI cL h1 h2 s1 s2 op nx 0 sf lf dn dg un (umk un b 1 1 ug 0) (qn + 1) (va_up qt qn b) (qlG qn (nx - wt) wt tk tv ts tn b qt qg) tn tk tv ts ef eg ex eF pf pg px pF) := hD
        refine lv_iload_n hx hb dX5_flush_46 rfl (lv_at hl 0 rfl) ?_
        exact hret dX5_flush_47 (by rfl) hP hD hS
      · exact absurd c30 (fun q => absurd (show (nI b) < 0 by rw [q]; decide) (nI_pos (by omega)))
    · exact absurd c14 (by omega)
  · exact absurd (ho.symm.trans c4) (by decide)

set_option maxHeartbeats 4000000 in
set_option maxRecDepth 100000 in
theorem c_SL_syncC {l : Launch} {dC : Nat → ClassId} {dI : Nat → Nat → Nat} {A : Nat → Prop} {a : Nat → Nat} {cB cI cL : ClassId} {h1 h2 s1 s2 : Nat} {op : Bool} {nx wt sf lf dn : Nat} {dg : Nat → Nat} {un : Nat} {ug : Nat → Nat} {qn : Nat} {qt qg : Nat → Nat} {tn : Nat} {tk tv : Nat → Int64} {ts : Nat → Nat} {ef eg ex : Nat} {eF : Nat → Nat} {pf pg px : Nat} {pF : Nat → Nat} (ho : op = false) : Met l yX5_sync (Cond.code yX5_sync cX5_sync 1 (some .int) :: TB) { frames := 3, cells := 0, slots := 0, locals := 71 } (xPre Nst (dC, dI) A (tyS cB cI cL) (wS a cB cI cL h1 h2 s1 s2 op nx wt sf lf dn dg un ug qn qt qg tn tk tv ts ef eg ex eF pf pg px pF) [.ref (a 0)]) (xQi (dC, dI) A ((-4)) (wS a cB cI cL h1 h2 s1 s2 op nx wt sf lf dn dg un ug qn qt qg tn tk tv ts ef eg ex eF pf pg px pF)) 0 0 A := by
  refine x_ofWi (cc := cX5_sync) (maxL := 1) (by decide) rfl (Nat.le_of_ble_eq_true rfl) ?_
  intro p e s m args below meth c Q hx hb hml hts hown hK hN hP hD hS hret ls hl
  have hl : lv_has ls 1 [(0, .ref (a 0))] := hl
  have hown : s.vm.findClass RX5 = some m.cls := hown
  have f49 := hts _ (List.mem_cons_of_mem _ tw_213)
  have in_X5 := (fun q hq => List.mem_cons_of_mem _ (inX5 q hq) : ∀ q ∈ wsX50, q ∈ (Cond.code yX5_sync cX5_sync 1 (some .int) :: TB))
  refine lv_aload_n hx hb dX5_sync_0 rfl (lv_at hl 0 rfl) ?_
  refine va_get (D := (dC, dI)) (ci := 5) (v := .int (bI op)) (C := RX5) (T := TX5) (N := 11) hx hb hts in_X5 hown hK hP 0 rfl rfl 6 (by decide) f49 (fun _ h9 => h9) rfl dX5_sync_1 ?_
  refine x_if_ne_b (tgt := 10) hx hb dX5_sync_4 (by decide) (fun c4 => ?_) (fun c4 => ?_)
  · exact absurd (ho.symm.trans c4) (by decide)
  · refine lv_bipush (v := (-4)) hx hb dX5_sync_7 (by decide) ?_
    exact hret dX5_sync_9 (by rfl) hP hD hS

set_option maxHeartbeats 4000000 in
set_option maxRecDepth 100000 in
theorem c_SL_syncO {l : Launch} {dC : Nat → ClassId} {dI : Nat → Nat → Nat} {A : Nat → Prop} {a : Nat → Nat} {cB cI cL : ClassId} {h1 h2 s1 s2 : Nat} {op : Bool} {nx wt sf lf dn : Nat} {dg : Nat → Nat} {un : Nat} {ug : Nat → Nat} {qn : Nat} {qt qg : Nat → Nat} {tn : Nat} {tk tv : Nat → Int64} {ts : Nat → Nat} {ef eg ex : Nat} {eF : Nat → Nat} {pf pg px : Nat} {pF : Nat → Nat} (hdn : dn ≤ 64) (hqn : qn ≤ 64) (hdg : ∀ j, dg j < 256) (hqt : ∀ j, qt j < 64) (hqg : ∀ j, qg j < 256) (hnx : nx < 2 ^ 30) (ho : op = true) (hw1 : wt < nx) : Met l yX5_sync (Cond.code yX5_sync cX5_sync 1 (some .int) :: TB) { frames := 3, cells := 0, slots := 0, locals := 71 } (xPre Nst (dC, dI) A (tyS cB cI cL) (wS a cB cI cL h1 h2 s1 s2 op nx wt sf lf dn dg un ug qn qt qg tn tk tv ts ef eg ex eF pf pg px pF) [.ref (a 0)]) (xQi (dC, dI) A (nI ((min (qn * 64) (qn * 64)) / 64)) (wS a cB cI cL h1 h2 s1 s2 op nx wt (nx - 1 - wt) lf dn (qdr dn qt qg (min (qn * 64) (qn * 64)) 0 dg) un ug 0 qt qg tn tk tv ts ef eg ex eF pf pg px pF)) 0 0 A := by
  refine x_ofWi (cc := cX5_sync) (maxL := 1) (by decide) rfl (Nat.le_of_ble_eq_true rfl) ?_
  intro p e s m args below meth c Q hx hb hml hts hown hK hN hP hD hS hret ls hl
  have hl : lv_has ls 1 [(0, .ref (a 0))] := hl
  have hown : s.vm.findClass RX5 = some m.cls := hown
  have f49 := hts _ (List.mem_cons_of_mem _ tw_213)
  have in_X5 := (fun q hq => List.mem_cons_of_mem _ (inX5 q hq) : ∀ q ∈ wsX50, q ∈ (Cond.code yX5_sync cX5_sync 1 (some .int) :: TB))
  have f53 := hts _ (List.mem_cons_of_mem _ tw_214)
  have f66 := hts _ (List.mem_cons_of_mem _ tw_215)
  have f80 := hts _ (List.mem_cons_of_mem _ tw_216)
  have f28 := hts _ (List.mem_cons_of_mem _ tw_209)
  have f14 := hts _ (List.mem_cons_of_mem _ tw_207)
  have n83 := hN (.methodLinkNest RX5 83 yX2_bytes "SegmentLog") (by decide +kernel)
  have ini_X2 := hts _ (List.mem_cons_of_mem _ tw_88)
  have im_yX2_bytes := hts _ (List.mem_cons_of_mem _ tw_359)
  have se_yX2_bytes := hts _ (List.mem_cons_of_mem _ tw_26)
  have n86 := hN (.methodLinkNest RX5 86 yX2_drain "SegmentLog") (by decide +kernel)
  have im_yX2_drain := hts _ (List.mem_cons_of_mem _ tw_363)
  have se_yX2_drain := hts _ (List.mem_cons_of_mem _ tw_27)
  refine lv_aload_n hx hb dX5_sync_0 rfl (lv_at hl 0 rfl) ?_
  refine va_get (D := (dC, dI)) (ci := 5) (v := .int (bI op)) (C := RX5) (T := TX5) (N := 11) hx hb hts in_X5 hown hK hP 0 rfl rfl 6 (by decide) f49 (fun _ h9 => h9) rfl dX5_sync_1 ?_
  refine x_if_ne_b (tgt := 10) hx hb dX5_sync_4 (by decide) (fun c4 => ?_) (fun c4 => ?_)
  · refine lv_aload_n hx hb dX5_sync_10 rfl (lv_at hl 0 rfl) ?_
    refine lv_aload_n hx hb dX5_sync_11 rfl (lv_at hl 0 rfl) ?_
    refine va_get (D := (dC, dI)) (ci := 5) (v := .int (nI nx)) (C := RX5) (T := TX5) (N := 11) hx hb hts in_X5 hown hK hP 0 rfl rfl 7 (by decide) f53 (fun _ h9 => h9) rfl dX5_sync_12 ?_
    refine lv_iconst (v := nI 1) hx hb dX5_sync_15 (by decide) ?_
    refine x_isub hx hb dX5_sync_16 (by omega) ?_
    refine lv_aload_n hx hb dX5_sync_17 rfl (lv_at hl 0 rfl) ?_
    refine va_get (D := (dC, dI)) (ci := 5) (v := .int (nI wt)) (C := RX5) (T := TX5) (N := 11) hx hb hts in_X5 hown hK hP 0 rfl rfl 8 (by decide) f66 (fun _ h9 => h9) rfl dX5_sync_18 ?_
    refine x_isub hx hb dX5_sync_21 (by omega) ?_
    refine va_put (D := (dC, dI)) (ci := 5) (v := .int (nI ((nx - 1) - wt))) (ty := .int) (C := RX5) (T := TX5) (N := 11) hx hb hts in_X5 tyX5 tyX5_ok nmX5 hown hK hP hD hS 0 rfl rfl 9 (by decide) f80 (fun _ h9 => h9) rfl (by decide +kernel) rfl rfl (Nat.le_of_ble_eq_true rfl) dX5_sync_22 (fun H locs hP hD hS => ?_)
    have hP : va_P (dC, dI) vwCl (wS a cB cI cL h1 h2 s1 s2 op nx wt ((nx - 1) - wt) lf dn dg un ug qn qt qg tn tk tv ts ef eg ex eF pf pg px pF) H := hP
    have hD : va_D A (wS a cB cI cL h1 h2 s1 s2 op nx wt ((nx - 1) - wt) lf dn dg un ug qn qt qg tn tk tv ts ef eg ex eF pf pg px pF) := hD
    refine lv_aload_n hx hb dX5_sync_25 rfl (lv_at hl 0 rfl) ?_
    refine va_get (D := (dC, dI)) (ci := 5) (v := .ref (a 5)) (C := RX5) (T := TX5) (N := 11) hx hb hts in_X5 hown hK hP 0 rfl rfl 2 (by decide) f28 (fun _ h9 => h9) rfl dX5_sync_26 ?_
    refine lv_aload_n hx hb dX5_sync_29 rfl (lv_at hl 0 rfl) ?_
    refine va_get (D := (dC, dI)) (ci := 5) (v := .ref (a 1)) (C := RX5) (T := TX5) (N := 11) hx hb hts in_X5 hown hK hP 0 rfl rfl 0 (by decide) f14 (fun _ h9 => h9) rfl dX5_sync_30 ?_
    refine lv_aload_n hx hb dX5_sync_33 rfl (lv_at hl 0 rfl) ?_
    refine va_get (D := (dC, dI)) (ci := 5) (v := .ref (a 5)) (C := RX5) (T := TX5) (N := 11) hx hb hts in_X5 hown hK hP 0 rfl rfl 2 (by decide) f28 (fun _ h9 => h9) rfl dX5_sync_34 ?_
    refine x_calli (va_runVN (As := []) (rest := [.ref (a 1), .ref (a 5)]) ⟨hx, hb, hml, hown, hts⟩ c_Qu_bytes ⟨(va_cnB 0 hts (tbG tw_360) rfl rfl rfl n83 ini_X2 (by decide +kernel) ⟨Nat.le_of_ble_eq_true rfl, Nat.le_of_ble_eq_true rfl⟩), im_yX2_bytes, se_yX2_bytes⟩ ⟨x_blind, va_recv hK hP (ci := 2) (q0 := 5) rfl rfl, x_pre hK hP hD hN⟩ rfl rfl hl.1 rfl (lv_room (Nat.le_of_ble_eq_true rfl)) dX5_sync_37 ⟨Nat.zero_le _, Nat.zero_le _⟩) hS (fun H locs hP hD hS => ?_)
    have hP : va_P (dC, dI) vwCl (wS a cB cI cL h1 h2 s1 s2 op nx wt ((nx - 1) - wt) lf dn dg un ug qn qt qg tn tk tv ts ef eg ex eF pf pg px pF) H := hP
    have hD : va_D A (wS a cB cI cL h1 h2 s1 s2 op nx wt ((nx - 1) - wt) lf dn dg un ug qn qt qg tn tk tv ts ef eg ex eF pf pg px pF) := hD
    refine x_calli (va_runVN (As := [.ref (a 1), .int (nI (qn * 64))]) (rest := []) ⟨hx, hb, hml, hown, hts⟩ (c_Qu_drain (by omega) (by omega) hqt hqg hdg (qn * 64) (by omega)) ⟨(va_cnB 2 hts (tbG tw_364) rfl rfl rfl n86 ini_X2 (by decide +kernel) ⟨Nat.le_of_ble_eq_true rfl, Nat.le_of_ble_eq_true rfl⟩), im_yX2_drain, se_yX2_drain⟩ ⟨x_blind, va_recv hK hP (ci := 2) (q0 := 5) rfl rfl, x_pre hK hP hD hN⟩ rfl rfl hl.1 rfl (lv_room (Nat.le_of_ble_eq_true rfl)) dX5_sync_40 ⟨Nat.zero_le _, Nat.zero_le _⟩) hS (fun H locs hP hD hS => ?_)
    have hP : va_P (dC, dI) vwCl (wS a cB cI cL h1 h2 s1 s2 op nx wt ((nx - 1) - wt) lf dn (qdr dn qt qg (min (qn * 64) (qn * 64)) 0 dg) un ug 0 qt qg tn tk tv ts ef eg ex eF pf pg px pF) H := hP
    have hD : va_D A (wS a cB cI cL h1 h2 s1 s2 op nx wt ((nx - 1) - wt) lf dn (qdr dn qt qg (min (qn * 64) (qn * 64)) 0 dg) un ug 0 qt qg tn tk tv ts ef eg ex eF pf pg px pF) := hD
    exact hret dX5_sync_43 (by rfl) hP hD hS
  · exact absurd (ho.symm.trans c4) (by decide)

set_option maxHeartbeats 4000000 in
set_option maxRecDepth 100000 in
theorem c_SL_crashB {l : Launch} {dC : Nat → ClassId} {dI : Nat → Nat → Nat} {A : Nat → Prop} {a : Nat → Nat} {cB cI cL : ClassId} {h1 h2 s1 s2 : Nat} {op : Bool} {nx wt sf lf dn : Nat} {dg : Nat → Nat} {un : Nat} {ug : Nat → Nat} {qn : Nat} {qt qg : Nat → Nat} {tn : Nat} {tk tv : Nat → Int64} {ts : Nat → Nat} {ef eg ex : Nat} {eF : Nat → Nat} {pf pg px : Nat} {pF : Nat → Nat} (z : Int32) (hz : ¬ 0 ≤ z) : Met l yX5_crash (Cond.code yX5_crash cX5_crash 2 (some .int) :: TB) { frames := 3, cells := 0, slots := 0, locals := 71 } (xPre Nst (dC, dI) A (tyS cB cI cL) (wS a cB cI cL h1 h2 s1 s2 op nx wt sf lf dn dg un ug qn qt qg tn tk tv ts ef eg ex eF pf pg px pF) [.ref (a 0), .int (z)]) (xQi (dC, dI) A ((-1)) (wS a cB cI cL h1 h2 s1 s2 op nx wt sf lf dn dg un ug qn qt qg tn tk tv ts ef eg ex eF pf pg px pF)) 0 0 A := by
  refine x_ofWi (cc := cX5_crash) (maxL := 2) (by decide) rfl (Nat.le_of_ble_eq_true rfl) ?_
  intro p e s m args below meth c Q hx hb hml hts hown hK hN hP hD hS hret ls hl
  have hl : lv_has ls 2 [(0, .ref (a 0)), (1, .int (z))] := hl
  have hown : s.vm.findClass RX5 = some m.cls := hown
  refine lv_iload_n hx hb dX5_crash_0 rfl (lv_at hl 1 rfl) ?_
  refine lv_if_ge (tgt := 6) hx hb dX5_crash_1 (by decide) (fun c1 => ?_) (fun c1 => ?_)
  · exact absurd c1 hz
  · refine lv_iconst (v := (-1)) hx hb dX5_crash_4 (by decide) ?_
    exact hret dX5_crash_5 (by rfl) hP hD hS

set_option maxHeartbeats 4000000 in
set_option maxRecDepth 100000 in
theorem c_SL_crashC {l : Launch} {dC : Nat → ClassId} {dI : Nat → Nat → Nat} {A : Nat → Prop} {a : Nat → Nat} {cB cI cL : ClassId} {h1 h2 s1 s2 : Nat} {op : Bool} {nx wt sf lf dn : Nat} {dg : Nat → Nat} {un : Nat} {ug : Nat → Nat} {qn : Nat} {qt qg : Nat → Nat} {tn : Nat} {tk tv : Nat → Int64} {ts : Nat → Nat} {ef eg ex : Nat} {eF : Nat → Nat} {pf pg px : Nat} {pF : Nat → Nat} (n : Nat) (hn1 : n < 2 ^ 31) (ho : op = false) : Met l yX5_crash (Cond.code yX5_crash cX5_crash 2 (some .int) :: TB) { frames := 3, cells := 0, slots := 0, locals := 71 } (xPre Nst (dC, dI) A (tyS cB cI cL) (wS a cB cI cL h1 h2 s1 s2 op nx wt sf lf dn dg un ug qn qt qg tn tk tv ts ef eg ex eF pf pg px pF) [.ref (a 0), .int (nI n)]) (xQi (dC, dI) A ((-4)) (wS a cB cI cL h1 h2 s1 s2 op nx wt sf lf dn dg un ug qn qt qg tn tk tv ts ef eg ex eF pf pg px pF)) 0 0 A := by
  refine x_ofWi (cc := cX5_crash) (maxL := 2) (by decide) rfl (Nat.le_of_ble_eq_true rfl) ?_
  intro p e s m args below meth c Q hx hb hml hts hown hK hN hP hD hS hret ls hl
  have hl : lv_has ls 2 [(0, .ref (a 0)), (1, .int (nI n))] := hl
  have hown : s.vm.findClass RX5 = some m.cls := hown
  have f49 := hts _ (List.mem_cons_of_mem _ tw_213)
  have in_X5 := (fun q hq => List.mem_cons_of_mem _ (inX5 q hq) : ∀ q ∈ wsX50, q ∈ (Cond.code yX5_crash cX5_crash 2 (some .int) :: TB))
  refine lv_iload_n hx hb dX5_crash_0 rfl (lv_at hl 1 rfl) ?_
  refine x_if_ge (tgt := 6) hx hb dX5_crash_1 (by decide) (by omega) ?_
  refine lv_aload_n hx hb dX5_crash_6 rfl (lv_at hl 0 rfl) ?_
  refine va_get (D := (dC, dI)) (ci := 5) (v := .int (bI op)) (C := RX5) (T := TX5) (N := 11) hx hb hts in_X5 hown hK hP 0 rfl rfl 6 (by decide) f49 (fun _ h9 => h9) rfl dX5_crash_7 ?_
  refine x_if_ne_b (tgt := 16) hx hb dX5_crash_10 (by decide) (fun c10 => ?_) (fun c10 => ?_)
  · exact absurd (ho.symm.trans c10) (by decide)
  · refine lv_bipush (v := (-4)) hx hb dX5_crash_13 (by decide) ?_
    exact hret dX5_crash_15 (by rfl) hP hD hS

set_option maxHeartbeats 4000000 in
set_option maxRecDepth 100000 in
theorem c_SL_crashO {l : Launch} {dC : Nat → ClassId} {dI : Nat → Nat → Nat} {A : Nat → Prop} {a : Nat → Nat} {cB cI cL : ClassId} {h1 h2 s1 s2 : Nat} {op : Bool} {nx wt sf lf dn : Nat} {dg : Nat → Nat} {un : Nat} {ug : Nat → Nat} {qn : Nat} {qt qg : Nat → Nat} {tn : Nat} {tk tv : Nat → Int64} {ts : Nat → Nat} {ef eg ex : Nat} {eF : Nat → Nat} {pf pg px : Nat} {pF : Nat → Nat} (hdn : dn ≤ 64) (hqn : qn ≤ 64) (hdg : ∀ j, dg j < 256) (hqt : ∀ j, qt j < 64) (hqg : ∀ j, qg j < 256) (n : Nat) (hn1 : n < 2 ^ 31) (ho : op = true) : Met l yX5_crash (Cond.code yX5_crash cX5_crash 2 (some .int) :: TB) { frames := 3, cells := 0, slots := 0, locals := 71 } (xPre Nst (dC, dI) A (tyS cB cI cL) (wS a cB cI cL h1 h2 s1 s2 op nx wt sf lf dn dg un ug qn qt qg tn tk tv ts ef eg ex eF pf pg px pF) [.ref (a 0), .int (nI n)]) (xQi (dC, dI) A (nI ((min n (qn * 64)) / 64)) (wS a cB cI cL h1 h2 s1 s2 false nx wt sf lf dn (qdr dn qt qg (min n (qn * 64)) 0 dg) un ug 0 qt qg tn tk tv ts ef eg ex eF pf pg px pF)) 0 0 A := by
  refine x_ofWi (cc := cX5_crash) (maxL := 2) (by decide) rfl (Nat.le_of_ble_eq_true rfl) ?_
  intro p e s m args below meth c Q hx hb hml hts hown hK hN hP hD hS hret ls hl
  have hl : lv_has ls 2 [(0, .ref (a 0)), (1, .int (nI n))] := hl
  have hown : s.vm.findClass RX5 = some m.cls := hown
  have f49 := hts _ (List.mem_cons_of_mem _ tw_213)
  have in_X5 := (fun q hq => List.mem_cons_of_mem _ (inX5 q hq) : ∀ q ∈ wsX50, q ∈ (Cond.code yX5_crash cX5_crash 2 (some .int) :: TB))
  have f28 := hts _ (List.mem_cons_of_mem _ tw_209)
  have f14 := hts _ (List.mem_cons_of_mem _ tw_207)
  have n86 := hN (.methodLinkNest RX5 86 yX2_drain "SegmentLog") (by decide +kernel)
  have ini_X2 := hts _ (List.mem_cons_of_mem _ tw_88)
  have im_yX2_drain := hts _ (List.mem_cons_of_mem _ tw_363)
  have se_yX2_drain := hts _ (List.mem_cons_of_mem _ tw_27)
  refine lv_iload_n hx hb dX5_crash_0 rfl (lv_at hl 1 rfl) ?_
  refine x_if_ge (tgt := 6) hx hb dX5_crash_1 (by decide) (by omega) ?_
  refine lv_aload_n hx hb dX5_crash_6 rfl (lv_at hl 0 rfl) ?_
  refine va_get (D := (dC, dI)) (ci := 5) (v := .int (bI op)) (C := RX5) (T := TX5) (N := 11) hx hb hts in_X5 hown hK hP 0 rfl rfl 6 (by decide) f49 (fun _ h9 => h9) rfl dX5_crash_7 ?_
  refine x_if_ne_b (tgt := 16) hx hb dX5_crash_10 (by decide) (fun c10 => ?_) (fun c10 => ?_)
  · refine lv_aload_n hx hb dX5_crash_16 rfl (lv_at hl 0 rfl) ?_
    refine lv_iconst (v := nI 0) hx hb dX5_crash_17 (by decide) ?_
    refine x_top (y := bI false) rfl ?_
    refine va_put (D := (dC, dI)) (ci := 5) (v := .int (bI false)) (ty := .boolean) (C := RX5) (T := TX5) (N := 11) hx hb hts in_X5 tyX5 tyX5_ok nmX5 hown hK hP hD hS 0 rfl rfl 6 (by decide) f49 (fun _ h9 => h9) rfl (by decide +kernel) (x_narZ _) (x_fitZ _) (Nat.le_of_ble_eq_true rfl) dX5_crash_18 (fun H locs hP hD hS => ?_)
    have hP : va_P (dC, dI) vwCl (wS a cB cI cL h1 h2 s1 s2 false nx wt sf lf dn dg un ug qn qt qg tn tk tv ts ef eg ex eF pf pg px pF) H := hP
    have hD : va_D A (wS a cB cI cL h1 h2 s1 s2 false nx wt sf lf dn dg un ug qn qt qg tn tk tv ts ef eg ex eF pf pg px pF) := hD
    refine lv_aload_n hx hb dX5_crash_21 rfl (lv_at hl 0 rfl) ?_
    refine va_get (D := (dC, dI)) (ci := 5) (v := .ref (a 5)) (C := RX5) (T := TX5) (N := 11) hx hb hts in_X5 hown hK hP 0 rfl rfl 2 (by decide) f28 (fun _ h9 => h9) rfl dX5_crash_22 ?_
    refine lv_aload_n hx hb dX5_crash_25 rfl (lv_at hl 0 rfl) ?_
    refine va_get (D := (dC, dI)) (ci := 5) (v := .ref (a 1)) (C := RX5) (T := TX5) (N := 11) hx hb hts in_X5 hown hK hP 0 rfl rfl 0 (by decide) f14 (fun _ h9 => h9) rfl dX5_crash_26 ?_
    refine lv_iload_n hx hb dX5_crash_29 rfl (lv_at hl 1 rfl) ?_
    refine x_calli (va_runVN (As := [.ref (a 1), .int (nI n)]) (rest := []) ⟨hx, hb, hml, hown, hts⟩ (c_Qu_drain (by omega) (by omega) hqt hqg hdg n (by omega)) ⟨(va_cnB 2 hts (tbG tw_364) rfl rfl rfl n86 ini_X2 (by decide +kernel) ⟨Nat.le_of_ble_eq_true rfl, Nat.le_of_ble_eq_true rfl⟩), im_yX2_drain, se_yX2_drain⟩ ⟨x_blind, va_recv hK hP (ci := 2) (q0 := 5) rfl rfl, x_pre hK hP hD hN⟩ rfl rfl hl.1 rfl (lv_room (Nat.le_of_ble_eq_true rfl)) dX5_crash_30 ⟨Nat.zero_le _, Nat.zero_le _⟩) hS (fun H locs hP hD hS => ?_)
    have hP : va_P (dC, dI) vwCl (wS a cB cI cL h1 h2 s1 s2 false nx wt sf lf dn (qdr dn qt qg (min n (qn * 64)) 0 dg) un ug 0 qt qg tn tk tv ts ef eg ex eF pf pg px pF) H := hP
    have hD : va_D A (wS a cB cI cL h1 h2 s1 s2 false nx wt sf lf dn (qdr dn qt qg (min n (qn * 64)) 0 dg) un ug 0 qt qg tn tk tv ts ef eg ex eF pf pg px pF) := hD
    exact hret dX5_crash_33 (by rfl) hP hD hS
  · exact absurd (ho.symm.trans c10) (by decide)

set_option maxHeartbeats 4000000 in
set_option maxRecDepth 100000 in
theorem c_SL_commitB {l : Launch} {dC : Nat → ClassId} {dI : Nat → Nat → Nat} {A : Nat → Prop} {a : Nat → Nat} {cB cI cL : ClassId} {h1 h2 s1 s2 : Nat} {op : Bool} {nx wt sf lf dn : Nat} {dg : Nat → Nat} {un : Nat} {ug : Nat → Nat} {qn : Nat} {qt qg : Nat → Nat} {tn : Nat} {tk tv : Nat → Int64} {ts : Nat → Nat} {ef eg ex : Nat} {eF : Nat → Nat} {pf pg px : Nat} {pF : Nat → Nat} (z : Int32) (hz : ¬ (-1) ≤ z) : Met l yX5_commit (Cond.code yX5_commit cX5_commit 7 (some .int) :: TB) { frames := 5, cells := 0, slots := 0, locals := 124 } (xPre Nst (dC, dI) A (tyS cB cI cL) (wS a cB cI cL h1 h2 s1 s2 op nx wt sf lf dn dg un ug qn qt qg tn tk tv ts ef eg ex eF pf pg px pF) [.ref (a 0), .int (z)]) (xQi (dC, dI) A ((-1)) (wS a cB cI cL h1 h2 s1 s2 op nx wt sf lf dn dg un ug qn qt qg tn tk tv ts ef eg ex eF pf pg px pF)) 0 0 A := by
  refine x_ofWi (cc := cX5_commit) (maxL := 7) (by decide) rfl (Nat.le_of_ble_eq_true rfl) ?_
  intro p e s m args below meth c Q hx hb hml hts hown hK hN hP hD hS hret ls hl
  have hl : lv_has ls 7 [(0, .ref (a 0)), (1, .int (z))] := hl
  have hown : s.vm.findClass RX5 = some m.cls := hown
  refine lv_iload_n hx hb dX5_commit_0 rfl (lv_at hl 1 rfl) ?_
  refine lv_iconst (v := (-1)) hx hb dX5_commit_1 (by decide) ?_
  refine lv_icmp_ge (tgt := 7) hx hb dX5_commit_2 (by decide) (fun c2 => ?_) (fun c2 => ?_)
  · exact absurd c2 hz
  · refine lv_iconst (v := (-1)) hx hb dX5_commit_5 (by decide) ?_
    exact hret dX5_commit_6 (by rfl) hP hD hS

set_option maxHeartbeats 4000000 in
set_option maxRecDepth 100000 in
theorem c_SL_commitC {l : Launch} {dC : Nat → ClassId} {dI : Nat → Nat → Nat} {A : Nat → Prop} {a : Nat → Nat} {cB cI cL : ClassId} {h1 h2 s1 s2 : Nat} {op : Bool} {nx wt sf lf dn : Nat} {dg : Nat → Nat} {un : Nat} {ug : Nat → Nat} {qn : Nat} {qt qg : Nat → Nat} {tn : Nat} {tk tv : Nat → Int64} {ts : Nat → Nat} {ef eg ex : Nat} {eF : Nat → Nat} {pf pg px : Nat} {pF : Nat → Nat} (z : Int32) (hz : (-1) ≤ z) (ho : op = false) : Met l yX5_commit (Cond.code yX5_commit cX5_commit 7 (some .int) :: TB) { frames := 5, cells := 0, slots := 0, locals := 124 } (xPre Nst (dC, dI) A (tyS cB cI cL) (wS a cB cI cL h1 h2 s1 s2 op nx wt sf lf dn dg un ug qn qt qg tn tk tv ts ef eg ex eF pf pg px pF) [.ref (a 0), .int (z)]) (xQi (dC, dI) A ((-4)) (wS a cB cI cL h1 h2 s1 s2 op nx wt sf lf dn dg un ug qn qt qg tn tk tv ts ef eg ex eF pf pg px pF)) 0 0 A := by
  refine x_ofWi (cc := cX5_commit) (maxL := 7) (by decide) rfl (Nat.le_of_ble_eq_true rfl) ?_
  intro p e s m args below meth c Q hx hb hml hts hown hK hN hP hD hS hret ls hl
  have hl : lv_has ls 7 [(0, .ref (a 0)), (1, .int (z))] := hl
  have hown : s.vm.findClass RX5 = some m.cls := hown
  have f49 := hts _ (List.mem_cons_of_mem _ tw_213)
  have in_X5 := (fun q hq => List.mem_cons_of_mem _ (inX5 q hq) : ∀ q ∈ wsX50, q ∈ (Cond.code yX5_commit cX5_commit 7 (some .int) :: TB))
  refine lv_iload_n hx hb dX5_commit_0 rfl (lv_at hl 1 rfl) ?_
  refine lv_iconst (v := (-1)) hx hb dX5_commit_1 (by decide) ?_
  refine lv_icmp_ge (tgt := 7) hx hb dX5_commit_2 (by decide) (fun c2 => ?_) (fun c2 => ?_)
  · refine lv_aload_n hx hb dX5_commit_7 rfl (lv_at hl 0 rfl) ?_
    refine va_get (D := (dC, dI)) (ci := 5) (v := .int (bI op)) (C := RX5) (T := TX5) (N := 11) hx hb hts in_X5 hown hK hP 0 rfl rfl 6 (by decide) f49 (fun _ h9 => h9) rfl dX5_commit_8 ?_
    refine x_if_ne_b (tgt := 17) hx hb dX5_commit_11 (by decide) (fun c11 => ?_) (fun c11 => ?_)
    · exact absurd (ho.symm.trans c11) (by decide)
    · refine lv_bipush (v := (-4)) hx hb dX5_commit_14 (by decide) ?_
      exact hret dX5_commit_16 (by rfl) hP hD hS
  · exact absurd hz c2

set_option maxHeartbeats 4000000 in
set_option maxRecDepth 100000 in
theorem c_SL_commitZ {l : Launch} {dC : Nat → ClassId} {dI : Nat → Nat → Nat} {A : Nat → Prop} {a : Nat → Nat} {cB cI cL : ClassId} {h1 h2 s1 s2 : Nat} {op : Bool} {nx wt sf lf dn : Nat} {dg : Nat → Nat} {un : Nat} {ug : Nat → Nat} {qn : Nat} {qt qg : Nat → Nat} {tn : Nat} {tk tv : Nat → Int64} {ts : Nat → Nat} {ef eg ex : Nat} {eF : Nat → Nat} {pf pg px : Nat} {pF : Nat → Nat} (hnx : nx < 2 ^ 30) (z : Int32) (hz : (-1) ≤ z) (ho : op = true) (hl0 : nx = ex) : Met l yX5_commit (Cond.code yX5_commit cX5_commit 7 (some .int) :: TB) { frames := 5, cells := 0, slots := 0, locals := 124 } (xPre Nst (dC, dI) A (tyS cB cI cL) (wS a cB cI cL h1 h2 s1 s2 op nx wt sf lf dn dg un ug qn qt qg tn tk tv ts ef eg ex eF pf pg px pF) [.ref (a 0), .int (z)]) (xQi (dC, dI) A (nI 0) (wS a cB cI cL h1 h2 s1 s2 op nx wt sf lf dn dg un ug qn qt qg tn tk tv ts ef eg ex eF pf pg px pF)) 0 0 A := by
  refine x_ofWi (cc := cX5_commit) (maxL := 7) (by decide) rfl (Nat.le_of_ble_eq_true rfl) ?_
  intro p e s m args below meth c Q hx hb hml hts hown hK hN hP hD hS hret ls hl
  have hl : lv_has ls 7 [(0, .ref (a 0)), (1, .int (z))] := hl
  have hown : s.vm.findClass RX5 = some m.cls := hown
  have f49 := hts _ (List.mem_cons_of_mem _ tw_213)
  have in_X5 := (fun q hq => List.mem_cons_of_mem _ (inX5 q hq) : ∀ q ∈ wsX50, q ∈ (Cond.code yX5_commit cX5_commit 7 (some .int) :: TB))
  have f53 := hts _ (List.mem_cons_of_mem _ tw_214)
  have f42 := hts _ (List.mem_cons_of_mem _ tw_211)
  have f90 := hN (.fieldLinkNest RX5 90 "SegmentLog$Head" "next" "I" "SegmentLog") (by decide +kernel)
  have in_X1 := (fun q hq => List.mem_cons_of_mem _ (inX1 q hq) : ∀ q ∈ wsX10, q ∈ (Cond.code yX5_commit cX5_commit 7 (some .int) :: TB))
  refine lv_iload_n hx hb dX5_commit_0 rfl (lv_at hl 1 rfl) ?_
  refine lv_iconst (v := (-1)) hx hb dX5_commit_1 (by decide) ?_
  refine lv_icmp_ge (tgt := 7) hx hb dX5_commit_2 (by decide) (fun c2 => ?_) (fun c2 => ?_)
  · refine lv_aload_n hx hb dX5_commit_7 rfl (lv_at hl 0 rfl) ?_
    refine va_get (D := (dC, dI)) (ci := 5) (v := .int (bI op)) (C := RX5) (T := TX5) (N := 11) hx hb hts in_X5 hown hK hP 0 rfl rfl 6 (by decide) f49 (fun _ h9 => h9) rfl dX5_commit_8 ?_
    refine x_if_ne_b (tgt := 17) hx hb dX5_commit_11 (by decide) (fun c11 => ?_) (fun c11 => ?_)
    · refine lv_aload_n hx hb dX5_commit_17 rfl (lv_at hl 0 rfl) ?_
      refine va_get (D := (dC, dI)) (ci := 5) (v := .int (nI nx)) (C := RX5) (T := TX5) (N := 11) hx hb hts in_X5 hown hK hP 0 rfl rfl 7 (by decide) f53 (fun _ h9 => h9) rfl dX5_commit_18 ?_
      refine lv_aload_n hx hb dX5_commit_21 rfl (lv_at hl 0 rfl) ?_
      refine va_get (D := (dC, dI)) (ci := 5) (v := .ref h1) (C := RX5) (T := TX5) (N := 11) hx hb hts in_X5 hown hK hP 0 rfl rfl 4 (by decide) f42 (fun _ h9 => h9) rfl dX5_commit_22 ?_
      refine va_getN (D := (dC, dI)) (ci := 1) (v := .int (nI ex)) (C := RX1) (T := TX1) (N := 4) hx hb hts in_X1 hown hK hP 13 rfl rfl 3 (by decide) (va_Nw.use (A := args) rfl f90) (fun _ h9 => h9) rfl dX5_commit_25 ?_
      refine x_isub hx hb dX5_commit_28 (by omega) ?_
      refine lv_istore_n (lv' := [(2, .int (nI (nx - ex))), (0, .ref (a 0)), (1, .int (z))]) hx hb dX5_commit_29 rfl hl (by decide) rfl (fun ls hl => ?_)
      refine lv_iload_n hx hb dX5_commit_30 rfl (lv_at hl 0 rfl) ?_
      refine x_if_gt (tgt := 36) hx hb dX5_commit_31 (by decide) (by omega) (fun c31 => ?_) (fun c31 => ?_)
      · exact absurd c31 (by omega)
      · refine lv_iconst (v := nI 0) hx hb dX5_commit_34 (by decide) ?_
        exact hret dX5_commit_35 (by rfl) hP hD hS
    · exact absurd (ho.symm.trans c11) (by decide)
  · exact absurd hz c2

set_option maxHeartbeats 4000000 in
set_option maxRecDepth 100000 in
theorem c_SL_commitFM {l : Launch} {dC : Nat → ClassId} {dI : Nat → Nat → Nat} {A : Nat → Prop} {a : Nat → Nat} {cB cI cL : ClassId} {h1 h2 s1 s2 : Nat} {op : Bool} {nx wt sf lf dn : Nat} {dg : Nat → Nat} {un : Nat} {ug : Nat → Nat} {qn : Nat} {qt qg : Nat → Nat} {tn : Nat} {tk tv : Nat → Int64} {ts : Nat → Nat} {ef eg ex : Nat} {eF : Nat → Nat} {pf pg px : Nat} {pF : Nat → Nat} (hun : un ≤ 64) (htn : tn ≤ 192) (hug : ∀ j, ug j < 8) (hnx : nx < 2 ^ 30) (z : Int32) (hz : (-1) ≤ z) (ho : op = true) (hl0 : ex < nx) (hm : ef = 5) (hr0 : 0 < tn) (hfr : ulr ug ((tn + 2) / 3) un 0 0 = none) : Met l yX5_commit (Cond.code yX5_commit cX5_commit 7 (some .int) :: TB) { frames := 5, cells := 0, slots := 0, locals := 124 } (xPre Nst (dC, dI) A (tyS cB cI cL) (wS a cB cI cL h1 h2 s1 s2 op nx wt sf lf dn dg un ug qn qt qg tn tk tv ts ef eg ex eF pf pg px pF) [.ref (a 0), .int (z)]) (xQi (dC, dI) A ((-3)) (wS a cB cI cL h1 h2 s1 s2 op nx wt sf lf dn dg un ug qn qt qg tn tk tv ts ef eg ex eF pf pg px pF)) 0 0 A := by
  refine x_ofWi (cc := cX5_commit) (maxL := 7) (by decide) rfl (Nat.le_of_ble_eq_true rfl) ?_
  intro p e s m args below meth c Q hx hb hml hts hown hK hN hP hD hS hret ls hl
  have hl : lv_has ls 7 [(0, .ref (a 0)), (1, .int (z))] := hl
  have hown : s.vm.findClass RX5 = some m.cls := hown
  have f49 := hts _ (List.mem_cons_of_mem _ tw_213)
  have in_X5 := (fun q hq => List.mem_cons_of_mem _ (inX5 q hq) : ∀ q ∈ wsX50, q ∈ (Cond.code yX5_commit cX5_commit 7 (some .int) :: TB))
  have f53 := hts _ (List.mem_cons_of_mem _ tw_214)
  have f42 := hts _ (List.mem_cons_of_mem _ tw_211)
  have f90 := hN (.fieldLinkNest RX5 90 "SegmentLog$Head" "next" "I" "SegmentLog") (by decide +kernel)
  have in_X1 := (fun q hq => List.mem_cons_of_mem _ (inX1 q hq) : ∀ q ∈ wsX10, q ∈ (Cond.code yX5_commit cX5_commit 7 (some .int) :: TB))
  have f91 := hN (.fieldLinkNest RX5 91 "SegmentLog$Head" "files" "I" "SegmentLog") (by decide +kernel)
  have f35 := hts _ (List.mem_cons_of_mem _ tw_210)
  have f94 := hN (.fieldLinkNest RX5 94 "SegmentLog$Table" "size" "I" "SegmentLog") (by decide +kernel)
  have in_X3 := (fun q hq => List.mem_cons_of_mem _ (inX3 q hq) : ∀ q ∈ wsX30, q ∈ (Cond.code yX5_commit cX5_commit 7 (some .int) :: TB))
  have f21 := hts _ (List.mem_cons_of_mem _ tw_208)
  have n101 := hN (.methodLinkNest RX5 101 yX4_leastRun "SegmentLog") (by decide +kernel)
  have ini_X4 := hts _ (List.mem_cons_of_mem _ tw_86)
  have im_yX4_leastRun := hts _ (List.mem_cons_of_mem _ tw_285)
  have se_yX4_leastRun := hts _ (List.mem_cons_of_mem _ tw_11)
  refine lv_iload_n hx hb dX5_commit_0 rfl (lv_at hl 1 rfl) ?_
  refine lv_iconst (v := (-1)) hx hb dX5_commit_1 (by decide) ?_
  refine lv_icmp_ge (tgt := 7) hx hb dX5_commit_2 (by decide) (fun c2 => ?_) (fun c2 => ?_)
  · refine lv_aload_n hx hb dX5_commit_7 rfl (lv_at hl 0 rfl) ?_
    refine va_get (D := (dC, dI)) (ci := 5) (v := .int (bI op)) (C := RX5) (T := TX5) (N := 11) hx hb hts in_X5 hown hK hP 0 rfl rfl 6 (by decide) f49 (fun _ h9 => h9) rfl dX5_commit_8 ?_
    refine x_if_ne_b (tgt := 17) hx hb dX5_commit_11 (by decide) (fun c11 => ?_) (fun c11 => ?_)
    · refine lv_aload_n hx hb dX5_commit_17 rfl (lv_at hl 0 rfl) ?_
      refine va_get (D := (dC, dI)) (ci := 5) (v := .int (nI nx)) (C := RX5) (T := TX5) (N := 11) hx hb hts in_X5 hown hK hP 0 rfl rfl 7 (by decide) f53 (fun _ h9 => h9) rfl dX5_commit_18 ?_
      refine lv_aload_n hx hb dX5_commit_21 rfl (lv_at hl 0 rfl) ?_
      refine va_get (D := (dC, dI)) (ci := 5) (v := .ref h1) (C := RX5) (T := TX5) (N := 11) hx hb hts in_X5 hown hK hP 0 rfl rfl 4 (by decide) f42 (fun _ h9 => h9) rfl dX5_commit_22 ?_
      refine va_getN (D := (dC, dI)) (ci := 1) (v := .int (nI ex)) (C := RX1) (T := TX1) (N := 4) hx hb hts in_X1 hown hK hP 13 rfl rfl 3 (by decide) (va_Nw.use (A := args) rfl f90) (fun _ h9 => h9) rfl dX5_commit_25 ?_
      refine x_isub hx hb dX5_commit_28 (by omega) ?_
      refine lv_istore_n (lv' := [(2, .int (nI (nx - ex))), (0, .ref (a 0)), (1, .int (z))]) hx hb dX5_commit_29 rfl hl (by decide) rfl (fun ls hl => ?_)
      refine lv_iload_n hx hb dX5_commit_30 rfl (lv_at hl 0 rfl) ?_
      refine x_if_gt (tgt := 36) hx hb dX5_commit_31 (by decide) (by omega) (fun c31 => ?_) (fun c31 => ?_)
      · refine lv_aload_n hx hb dX5_commit_36 rfl (lv_at hl 1 rfl) ?_
        refine va_get (D := (dC, dI)) (ci := 5) (v := .ref h1) (C := RX5) (T := TX5) (N := 11) hx hb hts in_X5 hown hK hP 0 rfl rfl 4 (by decide) f42 (fun _ h9 => h9) rfl dX5_commit_37 ?_
        refine va_getN (D := (dC, dI)) (ci := 1) (v := .int (nI ef)) (C := RX1) (T := TX1) (N := 4) hx hb hts in_X1 hown hK hP 13 rfl rfl 1 (by decide) (va_Nw.use (A := args) rfl f91) (fun _ h9 => h9) rfl dX5_commit_40 ?_
        refine lv_iconst (v := nI 5) hx hb dX5_commit_43 (by decide) ?_
        refine x_icmp_ne (tgt := 51) hx hb dX5_commit_44 (by decide) (by omega) (by omega) (fun c44 => ?_) (fun c44 => ?_)
        · exact absurd hm c44
        · refine lv_iconst (v := nI 1) hx hb dX5_commit_47 (by decide) ?_
          refine lv_goto (tgt := 52) hx hb dX5_commit_48 (by decide) ?_
          refine x_top (y := bI true) rfl ?_
          refine lv_istore_n (lv' := [(3, .int (bI true)), (2, .int (nI (nx - ex))), (0, .ref (a 0)), (1, .int (z))]) hx hb dX5_commit_52 rfl hl (by decide) rfl (fun ls hl => ?_)
          refine lv_iload_n hx hb dX5_commit_53 rfl (lv_at hl 0 rfl) ?_
          refine x_if_eq_b (tgt := 67) hx hb dX5_commit_54 (by decide) (fun c54 => ?_) (fun c54 => ?_)
          · cases c54
          · refine lv_aload_n hx hb dX5_commit_57 rfl (lv_at hl 2 rfl) ?_
            refine va_get (D := (dC, dI)) (ci := 5) (v := .ref (a 9)) (C := RX5) (T := TX5) (N := 11) hx hb hts in_X5 hown hK hP 0 rfl rfl 3 (by decide) f35 (fun _ h9 => h9) rfl dX5_commit_58 ?_
            refine va_getN (D := (dC, dI)) (ci := 3) (v := .int (nI tn)) (C := RX3) (T := TX3) (N := 4) hx hb hts in_X3 hown hK hP 9 rfl rfl 3 (by decide) (va_Nw.use (A := args) rfl f94) (fun _ h9 => h9) rfl dX5_commit_61 ?_
            refine lv_goto (tgt := 68) hx hb dX5_commit_64 (by decide) ?_
            refine lv_istore (lv' := [(4, .int (nI tn)), (3, .int (bI true)), (2, .int (nI (nx - ex))), (0, .ref (a 0)), (1, .int (z))]) hx hb dX5_commit_68 hl (by decide) rfl (fun ls hl => ?_)
            refine lv_iload hx hb dX5_commit_70 (lv_at hl 0 rfl) ?_
            refine x_calli (va_runS (As := [.int (nI tn)]) (rest := []) ⟨hx, hb, hml, hown, hts⟩ (c_SL_blocksFor tn (by omega)) (va_cwS 1 hts (tbS tw_372 tw_373 tw_84 tw_374) rfl rfl rfl (by decide +kernel) ⟨Nat.le_of_ble_eq_true rfl, Nat.le_of_ble_eq_true rfl⟩) ⟨x_blind, x_pre hK hP hD hN⟩ rfl rfl hl.1 rfl (lv_room (Nat.le_of_ble_eq_true rfl)) dX5_commit_72 ⟨Nat.zero_le _, Nat.zero_le _⟩) hS (fun H locs hP hD hS => ?_)
            have hP : va_P (dC, dI) vwCl (wS a cB cI cL h1 h2 s1 s2 op nx wt sf lf dn dg un ug qn qt qg tn tk tv ts ef eg ex eF pf pg px pF) H := hP
            have hD : va_D A (wS a cB cI cL h1 h2 s1 s2 op nx wt sf lf dn dg un ug qn qt qg tn tk tv ts ef eg ex eF pf pg px pF) := hD
            refine lv_istore (lv' := [(5, .int (nI ((tn + 2) / 3))), (4, .int (nI tn)), (3, .int (bI true)), (2, .int (nI (nx - ex))), (0, .ref (a 0)), (1, .int (z))]) hx hb dX5_commit_75 hl (by decide) rfl (fun ls hl => ?_)
            refine lv_aload_n hx hb dX5_commit_77 rfl (lv_at hl 4 rfl) ?_
            refine va_get (D := (dC, dI)) (ci := 5) (v := .ref (a 3)) (C := RX5) (T := TX5) (N := 11) hx hb hts in_X5 hown hK hP 0 rfl rfl 1 (by decide) f21 (fun _ h9 => h9) rfl dX5_commit_78 ?_
            refine lv_iload hx hb dX5_commit_81 (lv_at hl 0 rfl) ?_
            refine x_calli (va_runVN (As := [.int (nI ((tn + 2) / 3))]) (rest := []) ⟨hx, hb, hml, hown, hts⟩ (c_Us_leastRun (show okU (fun ug' => wS a cB cI cL h1 h2 s1 s2 op nx wt sf lf dn dg un ug' qn qt qg tn tk tv ts ef eg ex eF pf pg px pF) 3 4 (a 3) (a 4) cI un from ⟨fun _ => rfl, fun _ => rfl, fun _ _ => rfl⟩) (tyS_I cB cI cL) (by omega) ug hug ((tn + 2) / 3) (by omega) (by omega)) ⟨(va_cnB 1 hts (tbG tw_286) rfl rfl rfl n101 ini_X4 (by decide +kernel) ⟨Nat.le_of_ble_eq_true rfl, Nat.le_of_ble_eq_true rfl⟩), im_yX4_leastRun, se_yX4_leastRun⟩ ⟨x_blind, va_recv hK hP (ci := 4) (q0 := 3) rfl rfl, x_pre hK hP hD hN⟩ rfl rfl hl.1 rfl (lv_room (Nat.le_of_ble_eq_true rfl)) dX5_commit_83 ⟨Nat.zero_le _, Nat.zero_le _⟩) hS (fun H locs hP hD hS => ?_)
            have hP : va_P (dC, dI) vwCl (wS a cB cI cL h1 h2 s1 s2 op nx wt sf lf dn dg un ug qn qt qg tn tk tv ts ef eg ex eF pf pg px pF) H := hP
            have hD : va_D A (wS a cB cI cL h1 h2 s1 s2 op nx wt sf lf dn dg un ug qn qt qg tn tk tv ts ef eg ex eF pf pg px pF) := hD
            refine lv_istore (lv' := [(6, .int (oI (ulr ug ((tn + 2) / 3) un 0 0))), (5, .int (nI ((tn + 2) / 3))), (4, .int (nI tn)), (3, .int (bI true)), (2, .int (nI (nx - ex))), (0, .ref (a 0)), (1, .int (z))]) hx hb dX5_commit_86 hl (by decide) rfl (fun ls hl => ?_)
            refine lv_iload hx hb dX5_commit_88 (lv_at hl 0 rfl) ?_
            refine lv_bipush (v := (-2)) hx hb dX5_commit_90 (by decide) ?_
            refine lv_icmp_ne (tgt := 98) hx hb dX5_commit_92 (by decide) (fun c92 => ?_) (fun c92 => ?_)
            · exact absurd (show oI _ = (-2 : Int32) by rw [hfr]; rfl) c92
            · refine lv_bipush (v := (-3)) hx hb dX5_commit_95 (by decide) ?_
              exact hret dX5_commit_97 (by rfl) hP hD hS
      · exact absurd c31 (by omega)
    · exact absurd (ho.symm.trans c11) (by decide)
  · exact absurd hz c2

set_option maxHeartbeats 4000000 in
set_option maxRecDepth 100000 in
theorem c_SL_commitGMn {l : Launch} {dC : Nat → ClassId} {dI : Nat → Nat → Nat} {A : Nat → Prop} {a : Nat → Nat} {cB cI cL : ClassId} {h1 h2 s1 s2 : Nat} {op : Bool} {nx wt sf lf dn : Nat} {dg : Nat → Nat} {un : Nat} {ug : Nat → Nat} {qn : Nat} {qt qg : Nat → Nat} {tn : Nat} {tk tv : Nat → Int64} {ts : Nat → Nat} {ef eg ex : Nat} {eF : Nat → Nat} {pf pg px : Nat} {pF : Nat → Nat} (hdn : dn ≤ 64) (hun : un ≤ 64) (hqn : qn ≤ 64) (htn : tn ≤ 192) (hdg : ∀ j, dg j < 256) (hug : ∀ j, ug j < 8) (hqt : ∀ j, qt j < 64) (hqg : ∀ j, qg j < 256) (hs : ∀ j, ts j < 2 ^ 31) (heF : ∀ j, eF j < 1048576) (hpF : ∀ j, pF j < 1048576) (hef : ef ≤ 5) (hnx : nx < 2 ^ 30) (hwt : wt ≤ nx) (heg : eg < 2 ^ 30) (hlf : lf < 2 ^ 18) (hex : ex < 2 ^ 30) (y : Nat) (P0 : Nat × (Nat → Nat)) (Q0 : QS) (G0 : Nat → Nat) (z : Int32) (hz : (-1) ≤ z) (hzn : z < 0) (ho : op = true) (hl0 : ex < nx) (hm : ef = 5) (hr0 : 0 < tn) (hfr : ulr ug ((tn + 2) / 3) un 0 0 = some y) (hP0 : plh true ef eF pF lf y ((tn + 2) / 3) tn = P0) (hf0 : 0 < P0.1) (hf5 : P0.1 ≤ 5) (hfn : hfl P0.1 P0.2 (P0.1 - 1) 0 = lf + 1) (hfy : hfl P0.1 P0.2 (P0.1 - 1) 1 = y) (hfb : hfl P0.1 P0.2 (P0.1 - 1) 2 = ((tn + 2) / 3)) (hfr3 : hfl P0.1 P0.2 (P0.1 - 1) 3 = tn) (hQ0 : qf1 ((tn + 2) / 3) tn y (lf + 1) ((tn + 2) / 3) 0 (qn, qt, qg) = Q0) (hG0 : qf3 qn Q0.2.1 ((tn + 2) / 3) 0 (qf2 true qn tk tv ts tn 0 0 Q0.2.2) = G0) (hqb : qn + ((tn + 2) / 3) < 64) (hyb : y + ((tn + 2) / 3) ≤ 64) (heg1 : eg + 1 < 2 ^ 30) : Met l yX5_commit (Cond.code yX5_commit cX5_commit 7 (some .int) :: TB) { frames := 5, cells := 0, slots := 0, locals := 124 } (xPre Nst (dC, dI) A (tyS cB cI cL) (wS a cB cI cL h1 h2 s1 s2 op nx wt sf lf dn dg un ug qn qt qg tn tk tv ts ef eg ex eF pf pg px pF) [.ref (a 0), .int (z)]) (xQi (dC, dI) A (nI (eg + 1)) (wS a cB cI cL s1 s2 h1 h2 op nx 0 (nx - 1) (lf + 1) dn (qdr dn (va_up Q0.2.1 Q0.1 ((eg + 1) % 2)) (qhG Q0.1 P0.1 (eg + 1) nx P0.2 Q0.2.1 G0) (min ((Q0.1 + 1) * 64) ((Q0.1 + 1) * 64)) 0 dg) un (umk un y 2 ((tn + 2) / 3) (tkU true un ug) 0) 0 (va_up Q0.2.1 Q0.1 ((eg + 1) % 2)) (qhG Q0.1 P0.1 (eg + 1) nx P0.2 Q0.2.1 G0) tn tk tv (tset tn ts 0) P0.1 (eg + 1) nx P0.2 ef eg ex eF)) 0 0 A := by
  refine x_ofWi (cc := cX5_commit) (maxL := 7) (by decide) rfl (Nat.le_of_ble_eq_true rfl) ?_
  intro p e s m args below meth c Q hx hb hml hts hown hK hN hP hD hS hret ls hl
  have hl : lv_has ls 7 [(0, .ref (a 0)), (1, .int (z))] := hl
  have hown : s.vm.findClass RX5 = some m.cls := hown
  have hPl : ∀ j, P0.2 j < 1048576 := by rw [← hP0]; exact plh_lt heF hpF (by omega) (by omega) (by omega) (by omega)
  have hQt : ∀ j, Q0.2.1 j < 64 := by rw [← hQ0]; exact qf1_t (by omega) hqt
  have hQg : ∀ j, Q0.2.2 j < 256 := by rw [← hQ0]; exact qf1_g hqg
  have hQn : Q0.1 = qn + ((tn + 2) / 3) := by rw [← hQ0]; exact qf1_n
  have hGl : ∀ j, G0 j < 256 := by rw [← hG0]; exact qf3_lt (qf2_lt hQg)
  have hy9 : ¬ nI y = (-2 : Int32) := fun q => absurd (show (nI y) < 0 by rw [q]; decide) (nI_pos (by omega))
  have f49 := hts _ (List.mem_cons_of_mem _ tw_213)
  have in_X5 := (fun q hq => List.mem_cons_of_mem _ (inX5 q hq) : ∀ q ∈ wsX50, q ∈ (Cond.code yX5_commit cX5_commit 7 (some .int) :: TB))
  have f53 := hts _ (List.mem_cons_of_mem _ tw_214)
  have f42 := hts _ (List.mem_cons_of_mem _ tw_211)
  have f90 := hN (.fieldLinkNest RX5 90 "SegmentLog$Head" "next" "I" "SegmentLog") (by decide +kernel)
  have in_X1 := (fun q hq => List.mem_cons_of_mem _ (inX1 q hq) : ∀ q ∈ wsX10, q ∈ (Cond.code yX5_commit cX5_commit 7 (some .int) :: TB))
  have f91 := hN (.fieldLinkNest RX5 91 "SegmentLog$Head" "files" "I" "SegmentLog") (by decide +kernel)
  have f35 := hts _ (List.mem_cons_of_mem _ tw_210)
  have f94 := hN (.fieldLinkNest RX5 94 "SegmentLog$Table" "size" "I" "SegmentLog") (by decide +kernel)
  have in_X3 := (fun q hq => List.mem_cons_of_mem _ (inX3 q hq) : ∀ q ∈ wsX30, q ∈ (Cond.code yX5_commit cX5_commit 7 (some .int) :: TB))
  have f21 := hts _ (List.mem_cons_of_mem _ tw_208)
  have n101 := hN (.methodLinkNest RX5 101 yX4_leastRun "SegmentLog") (by decide +kernel)
  have ini_X4 := hts _ (List.mem_cons_of_mem _ tw_86)
  have im_yX4_leastRun := hts _ (List.mem_cons_of_mem _ tw_285)
  have se_yX4_leastRun := hts _ (List.mem_cons_of_mem _ tw_11)
  have f28 := hts _ (List.mem_cons_of_mem _ tw_209)
  have f14 := hts _ (List.mem_cons_of_mem _ tw_207)
  have n83 := hN (.methodLinkNest RX5 83 yX2_bytes "SegmentLog") (by decide +kernel)
  have ini_X2 := hts _ (List.mem_cons_of_mem _ tw_88)
  have im_yX2_bytes := hts _ (List.mem_cons_of_mem _ tw_359)
  have se_yX2_bytes := hts _ (List.mem_cons_of_mem _ tw_26)
  have n86 := hN (.methodLinkNest RX5 86 yX2_drain "SegmentLog") (by decide +kernel)
  have im_yX2_drain := hts _ (List.mem_cons_of_mem _ tw_363)
  have se_yX2_drain := hts _ (List.mem_cons_of_mem _ tw_27)
  have f118 := hN (.fieldLinkNest RX5 118 "SegmentLog$Head" "generation" "I" "SegmentLog") (by decide +kernel)
  refine lv_iload_n hx hb dX5_commit_0 rfl (lv_at hl 1 rfl) ?_
  refine lv_iconst (v := (-1)) hx hb dX5_commit_1 (by decide) ?_
  refine lv_icmp_ge (tgt := 7) hx hb dX5_commit_2 (by decide) (fun c2 => ?_) (fun c2 => ?_)
  · refine lv_aload_n hx hb dX5_commit_7 rfl (lv_at hl 0 rfl) ?_
    refine va_get (D := (dC, dI)) (ci := 5) (v := .int (bI op)) (C := RX5) (T := TX5) (N := 11) hx hb hts in_X5 hown hK hP 0 rfl rfl 6 (by decide) f49 (fun _ h9 => h9) rfl dX5_commit_8 ?_
    refine x_if_ne_b (tgt := 17) hx hb dX5_commit_11 (by decide) (fun c11 => ?_) (fun c11 => ?_)
    · refine lv_aload_n hx hb dX5_commit_17 rfl (lv_at hl 0 rfl) ?_
      refine va_get (D := (dC, dI)) (ci := 5) (v := .int (nI nx)) (C := RX5) (T := TX5) (N := 11) hx hb hts in_X5 hown hK hP 0 rfl rfl 7 (by decide) f53 (fun _ h9 => h9) rfl dX5_commit_18 ?_
      refine lv_aload_n hx hb dX5_commit_21 rfl (lv_at hl 0 rfl) ?_
      refine va_get (D := (dC, dI)) (ci := 5) (v := .ref h1) (C := RX5) (T := TX5) (N := 11) hx hb hts in_X5 hown hK hP 0 rfl rfl 4 (by decide) f42 (fun _ h9 => h9) rfl dX5_commit_22 ?_
      refine va_getN (D := (dC, dI)) (ci := 1) (v := .int (nI ex)) (C := RX1) (T := TX1) (N := 4) hx hb hts in_X1 hown hK hP 13 rfl rfl 3 (by decide) (va_Nw.use (A := args) rfl f90) (fun _ h9 => h9) rfl dX5_commit_25 ?_
      refine x_isub hx hb dX5_commit_28 (by omega) ?_
      refine lv_istore_n (lv' := [(2, .int (nI (nx - ex))), (0, .ref (a 0)), (1, .int (z))]) hx hb dX5_commit_29 rfl hl (by decide) rfl (fun ls hl => ?_)
      refine lv_iload_n hx hb dX5_commit_30 rfl (lv_at hl 0 rfl) ?_
      refine x_if_gt (tgt := 36) hx hb dX5_commit_31 (by decide) (by omega) (fun c31 => ?_) (fun c31 => ?_)
      · refine lv_aload_n hx hb dX5_commit_36 rfl (lv_at hl 1 rfl) ?_
        refine va_get (D := (dC, dI)) (ci := 5) (v := .ref h1) (C := RX5) (T := TX5) (N := 11) hx hb hts in_X5 hown hK hP 0 rfl rfl 4 (by decide) f42 (fun _ h9 => h9) rfl dX5_commit_37 ?_
        refine va_getN (D := (dC, dI)) (ci := 1) (v := .int (nI ef)) (C := RX1) (T := TX1) (N := 4) hx hb hts in_X1 hown hK hP 13 rfl rfl 1 (by decide) (va_Nw.use (A := args) rfl f91) (fun _ h9 => h9) rfl dX5_commit_40 ?_
        refine lv_iconst (v := nI 5) hx hb dX5_commit_43 (by decide) ?_
        refine x_icmp_ne (tgt := 51) hx hb dX5_commit_44 (by decide) (by omega) (by omega) (fun c44 => ?_) (fun c44 => ?_)
        · exact absurd hm c44
        · refine lv_iconst (v := nI 1) hx hb dX5_commit_47 (by decide) ?_
          refine lv_goto (tgt := 52) hx hb dX5_commit_48 (by decide) ?_
          refine x_top (y := bI true) rfl ?_
          refine lv_istore_n (lv' := [(3, .int (bI true)), (2, .int (nI (nx - ex))), (0, .ref (a 0)), (1, .int (z))]) hx hb dX5_commit_52 rfl hl (by decide) rfl (fun ls hl => ?_)
          refine lv_iload_n hx hb dX5_commit_53 rfl (lv_at hl 0 rfl) ?_
          refine x_if_eq_b (tgt := 67) hx hb dX5_commit_54 (by decide) (fun c54 => ?_) (fun c54 => ?_)
          · cases c54
          · refine lv_aload_n hx hb dX5_commit_57 rfl (lv_at hl 2 rfl) ?_
            refine va_get (D := (dC, dI)) (ci := 5) (v := .ref (a 9)) (C := RX5) (T := TX5) (N := 11) hx hb hts in_X5 hown hK hP 0 rfl rfl 3 (by decide) f35 (fun _ h9 => h9) rfl dX5_commit_58 ?_
            refine va_getN (D := (dC, dI)) (ci := 3) (v := .int (nI tn)) (C := RX3) (T := TX3) (N := 4) hx hb hts in_X3 hown hK hP 9 rfl rfl 3 (by decide) (va_Nw.use (A := args) rfl f94) (fun _ h9 => h9) rfl dX5_commit_61 ?_
            refine lv_goto (tgt := 68) hx hb dX5_commit_64 (by decide) ?_
            refine lv_istore (lv' := [(4, .int (nI tn)), (3, .int (bI true)), (2, .int (nI (nx - ex))), (0, .ref (a 0)), (1, .int (z))]) hx hb dX5_commit_68 hl (by decide) rfl (fun ls hl => ?_)
            refine lv_iload hx hb dX5_commit_70 (lv_at hl 0 rfl) ?_
            refine x_calli (va_runS (As := [.int (nI tn)]) (rest := []) ⟨hx, hb, hml, hown, hts⟩ (c_SL_blocksFor tn (by omega)) (va_cwS 1 hts (tbS tw_372 tw_373 tw_84 tw_374) rfl rfl rfl (by decide +kernel) ⟨Nat.le_of_ble_eq_true rfl, Nat.le_of_ble_eq_true rfl⟩) ⟨x_blind, x_pre hK hP hD hN⟩ rfl rfl hl.1 rfl (lv_room (Nat.le_of_ble_eq_true rfl)) dX5_commit_72 ⟨Nat.zero_le _, Nat.zero_le _⟩) hS (fun H locs hP hD hS => ?_)
            have hP : va_P (dC, dI) vwCl (wS a cB cI cL h1 h2 s1 s2 op nx wt sf lf dn dg un ug qn qt qg tn tk tv ts ef eg ex eF pf pg px pF) H := hP
            have hD : va_D A (wS a cB cI cL h1 h2 s1 s2 op nx wt sf lf dn dg un ug qn qt qg tn tk tv ts ef eg ex eF pf pg px pF) := hD
            refine lv_istore (lv' := [(5, .int (nI ((tn + 2) / 3))), (4, .int (nI tn)), (3, .int (bI true)), (2, .int (nI (nx - ex))), (0, .ref (a 0)), (1, .int (z))]) hx hb dX5_commit_75 hl (by decide) rfl (fun ls hl => ?_)
            refine lv_aload_n hx hb dX5_commit_77 rfl (lv_at hl 4 rfl) ?_
            refine va_get (D := (dC, dI)) (ci := 5) (v := .ref (a 3)) (C := RX5) (T := TX5) (N := 11) hx hb hts in_X5 hown hK hP 0 rfl rfl 1 (by decide) f21 (fun _ h9 => h9) rfl dX5_commit_78 ?_
            refine lv_iload hx hb dX5_commit_81 (lv_at hl 0 rfl) ?_
            refine x_calli (va_runVN (As := [.int (nI ((tn + 2) / 3))]) (rest := []) ⟨hx, hb, hml, hown, hts⟩ (c_Us_leastRun (show okU (fun ug' => wS a cB cI cL h1 h2 s1 s2 op nx wt sf lf dn dg un ug' qn qt qg tn tk tv ts ef eg ex eF pf pg px pF) 3 4 (a 3) (a 4) cI un from ⟨fun _ => rfl, fun _ => rfl, fun _ _ => rfl⟩) (tyS_I cB cI cL) (by omega) ug hug ((tn + 2) / 3) (by omega) (by omega)) ⟨(va_cnB 1 hts (tbG tw_286) rfl rfl rfl n101 ini_X4 (by decide +kernel) ⟨Nat.le_of_ble_eq_true rfl, Nat.le_of_ble_eq_true rfl⟩), im_yX4_leastRun, se_yX4_leastRun⟩ ⟨x_blind, va_recv hK hP (ci := 4) (q0 := 3) rfl rfl, x_pre hK hP hD hN⟩ rfl rfl hl.1 rfl (lv_room (Nat.le_of_ble_eq_true rfl)) dX5_commit_83 ⟨Nat.zero_le _, Nat.zero_le _⟩) hS (fun H locs hP hD hS => ?_)
            have hP : va_P (dC, dI) vwCl (wS a cB cI cL h1 h2 s1 s2 op nx wt sf lf dn dg un ug qn qt qg tn tk tv ts ef eg ex eF pf pg px pF) H := hP
            have hD : va_D A (wS a cB cI cL h1 h2 s1 s2 op nx wt sf lf dn dg un ug qn qt qg tn tk tv ts ef eg ex eF pf pg px pF) := hD
            refine lv_istore (lv' := [(6, .int (oI (ulr ug ((tn + 2) / 3) un 0 0))), (5, .int (nI ((tn + 2) / 3))), (4, .int (nI tn)), (3, .int (bI true)), (2, .int (nI (nx - ex))), (0, .ref (a 0)), (1, .int (z))]) hx hb dX5_commit_86 hl (by decide) rfl (fun ls hl => ?_)
            rw [hfr] at hl
            have hl : lv_has ls 7 [(6, .int (nI y)), (5, .int (nI ((tn + 2) / 3))), (4, .int (nI tn)), (3, .int (bI true)), (2, .int (nI (nx - ex))), (0, .ref (a 0)), (1, .int (z))] := hl
            refine lv_iload hx hb dX5_commit_88 (lv_at hl 0 rfl) ?_
            refine lv_bipush (v := (-2)) hx hb dX5_commit_90 (by decide) ?_
            refine lv_icmp_ne (tgt := 98) hx hb dX5_commit_92 (by decide) (fun c92 => ?_) (fun c92 => ?_)
            · refine lv_aload_n hx hb dX5_commit_98 rfl (lv_at hl 5 rfl) ?_
              refine lv_iload_n hx hb dX5_commit_99 rfl (lv_at hl 3 rfl) ?_
              refine lv_iload hx hb dX5_commit_100 (lv_at hl 0 rfl) ?_
              refine lv_iload hx hb dX5_commit_102 (lv_at hl 1 rfl) ?_
              refine lv_iload hx hb dX5_commit_104 (lv_at hl 2 rfl) ?_
              refine x_callv (va_runV (As := [.int (bI true), .int (nI y), .int (nI ((tn + 2) / 3)), .int (nI tn)]) (rest := []) ⟨hx, hb, hml, hown, hts⟩ (c_SL_planHead heF hpF (by omega) (by omega) (by omega) (by omega) true y ((tn + 2) / 3) tn (by omega) (by omega) (by omega) (fun q => by first | omega | cases q)) (cwV 4 hts (tbV tw_376 tw_378 tw_28 tw_84 tw_379) rfl rfl rfl (by decide +kernel) ⟨Nat.le_of_ble_eq_true rfl, Nat.le_of_ble_eq_true rfl⟩) ⟨x_blind, va_recv hK hP (ci := 5) (q0 := 0) rfl rfl, x_pre hK hP hD hN⟩ rfl rfl hl.1 rfl (lv_room (Nat.le_of_ble_eq_true rfl)) dX5_commit_106 ⟨Nat.zero_le _, Nat.zero_le _⟩) hS (fun H locs hP hD hS => ?_)
              rw [hP0] at hP hD
              have hP : va_P (dC, dI) vwCl (wS a cB cI cL h1 h2 s1 s2 op nx wt sf lf dn dg un ug qn qt qg tn tk tv ts ef eg ex eF P0.1 (eg + 1) nx P0.2) H := hP
              have hD : va_D A (wS a cB cI cL h1 h2 s1 s2 op nx wt sf lf dn dg un ug qn qt qg tn tk tv ts ef eg ex eF P0.1 (eg + 1) nx P0.2) := hD
              refine lv_aload_n hx hb dX5_commit_109 rfl (lv_at hl 5 rfl) ?_
              refine lv_iload_n hx hb dX5_commit_110 rfl (lv_at hl 3 rfl) ?_
              refine x_callv (va_runV (As := [.int (bI true)]) (rest := []) ⟨hx, hb, hml, hown, hts⟩ (c_SL_queueFile (by omega) (by omega) hqt hqg hs hPl (by omega) true ((tn + 2) / 3) tn y (lf + 1) hfb hfr3 hfy hfn (by omega) rfl (by omega) (by omega) (by omega)) (cwV 1 hts (tbV tw_393 tw_395 tw_32 tw_84 tw_396) rfl rfl rfl (by decide +kernel) ⟨Nat.le_of_ble_eq_true rfl, Nat.le_of_ble_eq_true rfl⟩) ⟨x_blind, va_recv hK hP (ci := 5) (q0 := 0) rfl rfl, x_pre hK hP hD hN⟩ rfl rfl hl.1 rfl (lv_room (Nat.le_of_ble_eq_true rfl)) dX5_commit_111 ⟨Nat.zero_le _, Nat.zero_le _⟩) hS (fun H locs hP hD hS => ?_)
              rw [hQ0, hG0] at hP hD
              have hP : va_P (dC, dI) vwCl (wS a cB cI cL h1 h2 s1 s2 op nx wt sf lf dn dg un ug Q0.1 Q0.2.1 G0 tn tk tv ts ef eg ex eF P0.1 (eg + 1) nx P0.2) H := hP
              have hD : va_D A (wS a cB cI cL h1 h2 s1 s2 op nx wt sf lf dn dg un ug Q0.1 Q0.2.1 G0 tn tk tv ts ef eg ex eF P0.1 (eg + 1) nx P0.2) := hD
              refine lv_aload_n hx hb dX5_commit_114 rfl (lv_at hl 5 rfl) ?_
              refine x_callv (va_runV (As := []) (rest := []) ⟨hx, hb, hml, hown, hts⟩ (c_SL_queueHead (by omega) hQt hGl hPl (by omega) (by omega) (by omega) (by omega)) (cwV 0 hts (tbV tw_406 tw_408 tw_34 tw_84 tw_409) rfl rfl rfl (by decide +kernel) ⟨Nat.le_of_ble_eq_true rfl, Nat.le_of_ble_eq_true rfl⟩) ⟨x_blind, va_recv hK hP (ci := 5) (q0 := 0) rfl rfl, x_pre hK hP hD hN⟩ rfl rfl hl.1 rfl (lv_room (Nat.le_of_ble_eq_true rfl)) dX5_commit_115 ⟨Nat.zero_le _, Nat.zero_le _⟩) hS (fun H locs hP hD hS => ?_)
              have hP : va_P (dC, dI) vwCl (wS a cB cI cL h1 h2 s1 s2 op nx wt sf lf dn dg un ug (Q0.1 + 1) (va_up Q0.2.1 Q0.1 ((eg + 1) % 2)) (qhG Q0.1 P0.1 (eg + 1) nx P0.2 Q0.2.1 G0) tn tk tv ts ef eg ex eF P0.1 (eg + 1) nx P0.2) H := hP
              have hD : va_D A (wS a cB cI cL h1 h2 s1 s2 op nx wt sf lf dn dg un ug (Q0.1 + 1) (va_up Q0.2.1 Q0.1 ((eg + 1) % 2)) (qhG Q0.1 P0.1 (eg + 1) nx P0.2 Q0.2.1 G0) tn tk tv ts ef eg ex eF P0.1 (eg + 1) nx P0.2) := hD
              refine lv_iload_n hx hb dX5_commit_118 rfl (lv_at hl 6 rfl) ?_
              refine lv_if_lt (tgt := 154) hx hb dX5_commit_119 (by decide) (fun c119 => ?_) (fun c119 => ?_)
              · refine lv_aload_n hx hb dX5_commit_154 rfl (lv_at hl 5 rfl) ?_
                refine va_get (D := (dC, dI)) (ci := 5) (v := .ref (a 5)) (C := RX5) (T := TX5) (N := 11) hx hb hts in_X5 hown hK hP 0 rfl rfl 2 (by decide) f28 (fun _ h9 => h9) rfl dX5_commit_155 ?_
                refine lv_aload_n hx hb dX5_commit_158 rfl (lv_at hl 5 rfl) ?_
                refine va_get (D := (dC, dI)) (ci := 5) (v := .ref (a 1)) (C := RX5) (T := TX5) (N := 11) hx hb hts in_X5 hown hK hP 0 rfl rfl 0 (by decide) f14 (fun _ h9 => h9) rfl dX5_commit_159 ?_
                refine lv_aload_n hx hb dX5_commit_162 rfl (lv_at hl 5 rfl) ?_
                refine va_get (D := (dC, dI)) (ci := 5) (v := .ref (a 5)) (C := RX5) (T := TX5) (N := 11) hx hb hts in_X5 hown hK hP 0 rfl rfl 2 (by decide) f28 (fun _ h9 => h9) rfl dX5_commit_163 ?_
                refine x_calli (va_runVN (As := []) (rest := [.ref (a 1), .ref (a 5)]) ⟨hx, hb, hml, hown, hts⟩ c_Qu_bytes ⟨(va_cnB 0 hts (tbG tw_360) rfl rfl rfl n83 ini_X2 (by decide +kernel) ⟨Nat.le_of_ble_eq_true rfl, Nat.le_of_ble_eq_true rfl⟩), im_yX2_bytes, se_yX2_bytes⟩ ⟨x_blind, va_recv hK hP (ci := 2) (q0 := 5) rfl rfl, x_pre hK hP hD hN⟩ rfl rfl hl.1 rfl (lv_room (Nat.le_of_ble_eq_true rfl)) dX5_commit_166 ⟨Nat.zero_le _, Nat.zero_le _⟩) hS (fun H locs hP hD hS => ?_)
                have hP : va_P (dC, dI) vwCl (wS a cB cI cL h1 h2 s1 s2 op nx wt sf lf dn dg un ug (Q0.1 + 1) (va_up Q0.2.1 Q0.1 ((eg + 1) % 2)) (qhG Q0.1 P0.1 (eg + 1) nx P0.2 Q0.2.1 G0) tn tk tv ts ef eg ex eF P0.1 (eg + 1) nx P0.2) H := hP
                have hD : va_D A (wS a cB cI cL h1 h2 s1 s2 op nx wt sf lf dn dg un ug (Q0.1 + 1) (va_up Q0.2.1 Q0.1 ((eg + 1) % 2)) (qhG Q0.1 P0.1 (eg + 1) nx P0.2 Q0.2.1 G0) tn tk tv ts ef eg ex eF P0.1 (eg + 1) nx P0.2) := hD
                refine x_calli (va_runVN (As := [.ref (a 1), .int (nI ((Q0.1 + 1) * 64))]) (rest := []) ⟨hx, hb, hml, hown, hts⟩ (c_Qu_drain (by omega) (by omega) (va_up_lt hQt (by omega)) (qhG_lt hGl) hdg ((Q0.1 + 1) * 64) (by omega)) ⟨(va_cnB 2 hts (tbG tw_364) rfl rfl rfl n86 ini_X2 (by decide +kernel) ⟨Nat.le_of_ble_eq_true rfl, Nat.le_of_ble_eq_true rfl⟩), im_yX2_drain, se_yX2_drain⟩ ⟨x_blind, va_recv hK hP (ci := 2) (q0 := 5) rfl rfl, x_pre hK hP hD hN⟩ rfl rfl hl.1 rfl (lv_room (Nat.le_of_ble_eq_true rfl)) dX5_commit_169 ⟨Nat.zero_le _, Nat.zero_le _⟩) hS (fun H locs hP hD hS => ?_)
                have hP : va_P (dC, dI) vwCl (wS a cB cI cL h1 h2 s1 s2 op nx wt sf lf dn (qdr dn (va_up Q0.2.1 Q0.1 ((eg + 1) % 2)) (qhG Q0.1 P0.1 (eg + 1) nx P0.2 Q0.2.1 G0) (min ((Q0.1 + 1) * 64) ((Q0.1 + 1) * 64)) 0 dg) un ug 0 (va_up Q0.2.1 Q0.1 ((eg + 1) % 2)) (qhG Q0.1 P0.1 (eg + 1) nx P0.2 Q0.2.1 G0) tn tk tv ts ef eg ex eF P0.1 (eg + 1) nx P0.2) H := hP
                have hD : va_D A (wS a cB cI cL h1 h2 s1 s2 op nx wt sf lf dn (qdr dn (va_up Q0.2.1 Q0.1 ((eg + 1) % 2)) (qhG Q0.1 P0.1 (eg + 1) nx P0.2 Q0.2.1 G0) (min ((Q0.1 + 1) * 64) ((Q0.1 + 1) * 64)) 0 dg) un ug 0 (va_up Q0.2.1 Q0.1 ((eg + 1) % 2)) (qhG Q0.1 P0.1 (eg + 1) nx P0.2 Q0.2.1 G0) tn tk tv ts ef eg ex eF P0.1 (eg + 1) nx P0.2) := hD
                refine lv_pop hx hb dX5_commit_172 rfl ?_
                refine lv_aload_n hx hb dX5_commit_173 rfl (lv_at hl 5 rfl) ?_
                refine lv_iload_n hx hb dX5_commit_174 rfl (lv_at hl 3 rfl) ?_
                refine x_callv (va_runV (As := [.int (bI true)]) (rest := []) ⟨hx, hb, hml, hown, hts⟩ (c_SL_takePlannedHead (by omega) (by omega) hug hs heF hPl (by omega) (by omega) true (by omega) (by omega)) (cwV 1 hts (tbV tw_413 tw_415 tw_35 tw_84 tw_416) rfl rfl rfl (by decide +kernel) ⟨Nat.le_of_ble_eq_true rfl, Nat.le_of_ble_eq_true rfl⟩) ⟨x_blind, va_recv hK hP (ci := 5) (q0 := 0) rfl rfl, x_pre hK hP hD hN⟩ rfl rfl hl.1 rfl (lv_room (Nat.le_of_ble_eq_true rfl)) dX5_commit_175 ⟨Nat.zero_le _, Nat.zero_le _⟩) hS (fun H locs hP hD hS => ?_)
                rw [hfy, hfb, hfn] at hP hD
                have hP : va_P (dC, dI) vwCl (wS a cB cI cL s1 s2 h1 h2 op nx 0 (nx - 1) (lf + 1) dn (qdr dn (va_up Q0.2.1 Q0.1 ((eg + 1) % 2)) (qhG Q0.1 P0.1 (eg + 1) nx P0.2 Q0.2.1 G0) (min ((Q0.1 + 1) * 64) ((Q0.1 + 1) * 64)) 0 dg) un (umk un y 2 ((tn + 2) / 3) (tkU true un ug) 0) 0 (va_up Q0.2.1 Q0.1 ((eg + 1) % 2)) (qhG Q0.1 P0.1 (eg + 1) nx P0.2 Q0.2.1 G0) tn tk tv (tset tn ts 0) P0.1 (eg + 1) nx P0.2 ef eg ex eF) H := hP
                have hD : va_D A (wS a cB cI cL s1 s2 h1 h2 op nx 0 (nx - 1) (lf + 1) dn (qdr dn (va_up Q0.2.1 Q0.1 ((eg + 1) % 2)) (qhG Q0.1 P0.1 (eg + 1) nx P0.2 Q0.2.1 G0) (min ((Q0.1 + 1) * 64) ((Q0.1 + 1) * 64)) 0 dg) un (umk un y 2 ((tn + 2) / 3) (tkU true un ug) 0) 0 (va_up Q0.2.1 Q0.1 ((eg + 1) % 2)) (qhG Q0.1 P0.1 (eg + 1) nx P0.2 Q0.2.1 G0) tn tk tv (tset tn ts 0) P0.1 (eg + 1) nx P0.2 ef eg ex eF) := hD
                refine lv_aload_n hx hb dX5_commit_178 rfl (lv_at hl 5 rfl) ?_
                refine va_get (D := (dC, dI)) (ci := 5) (v := .ref s1) (C := RX5) (T := TX5) (N := 11) hx hb hts in_X5 hown hK hP 0 rfl rfl 4 (by decide) f42 (fun _ h9 => h9) rfl dX5_commit_179 ?_
                refine va_getN (D := (dC, dI)) (ci := 1) (v := .int (nI (eg + 1))) (C := RX1) (T := TX1) (N := 4) hx hb hts in_X1 hown hK hP 13 rfl rfl 2 (by decide) (va_Nw.use (A := args) rfl f118) (fun _ h9 => h9) rfl dX5_commit_182 ?_
                exact hret dX5_commit_185 (by rfl) hP hD hS
              · exact absurd hzn c119
            · exact absurd c92 hy9
      · exact absurd c31 (by omega)
    · exact absurd (ho.symm.trans c11) (by decide)
  · exact absurd hz c2

set_option maxHeartbeats 4000000 in
set_option maxRecDepth 100000 in
theorem c_SL_commitGMp {l : Launch} {dC : Nat → ClassId} {dI : Nat → Nat → Nat} {A : Nat → Prop} {a : Nat → Nat} {cB cI cL : ClassId} {h1 h2 s1 s2 : Nat} {op : Bool} {nx wt sf lf dn : Nat} {dg : Nat → Nat} {un : Nat} {ug : Nat → Nat} {qn : Nat} {qt qg : Nat → Nat} {tn : Nat} {tk tv : Nat → Int64} {ts : Nat → Nat} {ef eg ex : Nat} {eF : Nat → Nat} {pf pg px : Nat} {pF : Nat → Nat} (hdn : dn ≤ 64) (hun : un ≤ 64) (hqn : qn ≤ 64) (htn : tn ≤ 192) (hdg : ∀ j, dg j < 256) (hug : ∀ j, ug j < 8) (hqt : ∀ j, qt j < 64) (hqg : ∀ j, qg j < 256) (hs : ∀ j, ts j < 2 ^ 31) (heF : ∀ j, eF j < 1048576) (hpF : ∀ j, pF j < 1048576) (hef : ef ≤ 5) (hnx : nx < 2 ^ 30) (hwt : wt ≤ nx) (heg : eg < 2 ^ 30) (hlf : lf < 2 ^ 18) (hex : ex < 2 ^ 30) (y : Nat) (P0 : Nat × (Nat → Nat)) (Q0 : QS) (G0 : Nat → Nat) (n : Nat) (hn1 : n < 2 ^ 31) (hnq : (Q0.1 + 1) * 64 ≤ n) (ho : op = true) (hl0 : ex < nx) (hm : ef = 5) (hr0 : 0 < tn) (hfr : ulr ug ((tn + 2) / 3) un 0 0 = some y) (hP0 : plh true ef eF pF lf y ((tn + 2) / 3) tn = P0) (hf0 : 0 < P0.1) (hf5 : P0.1 ≤ 5) (hfn : hfl P0.1 P0.2 (P0.1 - 1) 0 = lf + 1) (hfy : hfl P0.1 P0.2 (P0.1 - 1) 1 = y) (hfb : hfl P0.1 P0.2 (P0.1 - 1) 2 = ((tn + 2) / 3)) (hfr3 : hfl P0.1 P0.2 (P0.1 - 1) 3 = tn) (hQ0 : qf1 ((tn + 2) / 3) tn y (lf + 1) ((tn + 2) / 3) 0 (qn, qt, qg) = Q0) (hG0 : qf3 qn Q0.2.1 ((tn + 2) / 3) 0 (qf2 true qn tk tv ts tn 0 0 Q0.2.2) = G0) (hqb : qn + ((tn + 2) / 3) < 64) (hyb : y + ((tn + 2) / 3) ≤ 64) (heg1 : eg + 1 < 2 ^ 30) : Met l yX5_commit (Cond.code yX5_commit cX5_commit 7 (some .int) :: TB) { frames := 5, cells := 0, slots := 0, locals := 124 } (xPre Nst (dC, dI) A (tyS cB cI cL) (wS a cB cI cL h1 h2 s1 s2 op nx wt sf lf dn dg un ug qn qt qg tn tk tv ts ef eg ex eF pf pg px pF) [.ref (a 0), .int (nI n)]) (xQi (dC, dI) A (nI (eg + 1)) (wS a cB cI cL s1 s2 h1 h2 op nx 0 (nx - 1) (lf + 1) dn (qdr dn (va_up Q0.2.1 Q0.1 ((eg + 1) % 2)) (qhG Q0.1 P0.1 (eg + 1) nx P0.2 Q0.2.1 G0) (min ((Q0.1 + 1) * 64) ((Q0.1 + 1) * 64)) 0 dg) un (umk un y 2 ((tn + 2) / 3) (tkU true un ug) 0) 0 (va_up Q0.2.1 Q0.1 ((eg + 1) % 2)) (qhG Q0.1 P0.1 (eg + 1) nx P0.2 Q0.2.1 G0) tn tk tv (tset tn ts 0) P0.1 (eg + 1) nx P0.2 ef eg ex eF)) 0 0 A := by
  refine x_ofWi (cc := cX5_commit) (maxL := 7) (by decide) rfl (Nat.le_of_ble_eq_true rfl) ?_
  intro p e s m args below meth c Q hx hb hml hts hown hK hN hP hD hS hret ls hl
  have hl : lv_has ls 7 [(0, .ref (a 0)), (1, .int (nI n))] := hl
  have hown : s.vm.findClass RX5 = some m.cls := hown
  have hPl : ∀ j, P0.2 j < 1048576 := by rw [← hP0]; exact plh_lt heF hpF (by omega) (by omega) (by omega) (by omega)
  have hQt : ∀ j, Q0.2.1 j < 64 := by rw [← hQ0]; exact qf1_t (by omega) hqt
  have hQg : ∀ j, Q0.2.2 j < 256 := by rw [← hQ0]; exact qf1_g hqg
  have hQn : Q0.1 = qn + ((tn + 2) / 3) := by rw [← hQ0]; exact qf1_n
  have hGl : ∀ j, G0 j < 256 := by rw [← hG0]; exact qf3_lt (qf2_lt hQg)
  have hy9 : ¬ nI y = (-2 : Int32) := fun q => absurd (show (nI y) < 0 by rw [q]; decide) (nI_pos (by omega))
  have f49 := hts _ (List.mem_cons_of_mem _ tw_213)
  have in_X5 := (fun q hq => List.mem_cons_of_mem _ (inX5 q hq) : ∀ q ∈ wsX50, q ∈ (Cond.code yX5_commit cX5_commit 7 (some .int) :: TB))
  have f53 := hts _ (List.mem_cons_of_mem _ tw_214)
  have f42 := hts _ (List.mem_cons_of_mem _ tw_211)
  have f90 := hN (.fieldLinkNest RX5 90 "SegmentLog$Head" "next" "I" "SegmentLog") (by decide +kernel)
  have in_X1 := (fun q hq => List.mem_cons_of_mem _ (inX1 q hq) : ∀ q ∈ wsX10, q ∈ (Cond.code yX5_commit cX5_commit 7 (some .int) :: TB))
  have f91 := hN (.fieldLinkNest RX5 91 "SegmentLog$Head" "files" "I" "SegmentLog") (by decide +kernel)
  have f35 := hts _ (List.mem_cons_of_mem _ tw_210)
  have f94 := hN (.fieldLinkNest RX5 94 "SegmentLog$Table" "size" "I" "SegmentLog") (by decide +kernel)
  have in_X3 := (fun q hq => List.mem_cons_of_mem _ (inX3 q hq) : ∀ q ∈ wsX30, q ∈ (Cond.code yX5_commit cX5_commit 7 (some .int) :: TB))
  have f21 := hts _ (List.mem_cons_of_mem _ tw_208)
  have n101 := hN (.methodLinkNest RX5 101 yX4_leastRun "SegmentLog") (by decide +kernel)
  have ini_X4 := hts _ (List.mem_cons_of_mem _ tw_86)
  have im_yX4_leastRun := hts _ (List.mem_cons_of_mem _ tw_285)
  have se_yX4_leastRun := hts _ (List.mem_cons_of_mem _ tw_11)
  have f28 := hts _ (List.mem_cons_of_mem _ tw_209)
  have n83 := hN (.methodLinkNest RX5 83 yX2_bytes "SegmentLog") (by decide +kernel)
  have ini_X2 := hts _ (List.mem_cons_of_mem _ tw_88)
  have im_yX2_bytes := hts _ (List.mem_cons_of_mem _ tw_359)
  have se_yX2_bytes := hts _ (List.mem_cons_of_mem _ tw_26)
  have f14 := hts _ (List.mem_cons_of_mem _ tw_207)
  have n86 := hN (.methodLinkNest RX5 86 yX2_drain "SegmentLog") (by decide +kernel)
  have im_yX2_drain := hts _ (List.mem_cons_of_mem _ tw_363)
  have se_yX2_drain := hts _ (List.mem_cons_of_mem _ tw_27)
  have f118 := hN (.fieldLinkNest RX5 118 "SegmentLog$Head" "generation" "I" "SegmentLog") (by decide +kernel)
  refine lv_iload_n hx hb dX5_commit_0 rfl (lv_at hl 1 rfl) ?_
  refine lv_iconst (v := (-1)) hx hb dX5_commit_1 (by decide) ?_
  refine lv_icmp_ge (tgt := 7) hx hb dX5_commit_2 (by decide) (fun c2 => ?_) (fun c2 => ?_)
  · refine lv_aload_n hx hb dX5_commit_7 rfl (lv_at hl 0 rfl) ?_
    refine va_get (D := (dC, dI)) (ci := 5) (v := .int (bI op)) (C := RX5) (T := TX5) (N := 11) hx hb hts in_X5 hown hK hP 0 rfl rfl 6 (by decide) f49 (fun _ h9 => h9) rfl dX5_commit_8 ?_
    refine x_if_ne_b (tgt := 17) hx hb dX5_commit_11 (by decide) (fun c11 => ?_) (fun c11 => ?_)
    · refine lv_aload_n hx hb dX5_commit_17 rfl (lv_at hl 0 rfl) ?_
      refine va_get (D := (dC, dI)) (ci := 5) (v := .int (nI nx)) (C := RX5) (T := TX5) (N := 11) hx hb hts in_X5 hown hK hP 0 rfl rfl 7 (by decide) f53 (fun _ h9 => h9) rfl dX5_commit_18 ?_
      refine lv_aload_n hx hb dX5_commit_21 rfl (lv_at hl 0 rfl) ?_
      refine va_get (D := (dC, dI)) (ci := 5) (v := .ref h1) (C := RX5) (T := TX5) (N := 11) hx hb hts in_X5 hown hK hP 0 rfl rfl 4 (by decide) f42 (fun _ h9 => h9) rfl dX5_commit_22 ?_
      refine va_getN (D := (dC, dI)) (ci := 1) (v := .int (nI ex)) (C := RX1) (T := TX1) (N := 4) hx hb hts in_X1 hown hK hP 13 rfl rfl 3 (by decide) (va_Nw.use (A := args) rfl f90) (fun _ h9 => h9) rfl dX5_commit_25 ?_
      refine x_isub hx hb dX5_commit_28 (by omega) ?_
      refine lv_istore_n (lv' := [(2, .int (nI (nx - ex))), (0, .ref (a 0)), (1, .int (nI n))]) hx hb dX5_commit_29 rfl hl (by decide) rfl (fun ls hl => ?_)
      refine lv_iload_n hx hb dX5_commit_30 rfl (lv_at hl 0 rfl) ?_
      refine x_if_gt (tgt := 36) hx hb dX5_commit_31 (by decide) (by omega) (fun c31 => ?_) (fun c31 => ?_)
      · refine lv_aload_n hx hb dX5_commit_36 rfl (lv_at hl 1 rfl) ?_
        refine va_get (D := (dC, dI)) (ci := 5) (v := .ref h1) (C := RX5) (T := TX5) (N := 11) hx hb hts in_X5 hown hK hP 0 rfl rfl 4 (by decide) f42 (fun _ h9 => h9) rfl dX5_commit_37 ?_
        refine va_getN (D := (dC, dI)) (ci := 1) (v := .int (nI ef)) (C := RX1) (T := TX1) (N := 4) hx hb hts in_X1 hown hK hP 13 rfl rfl 1 (by decide) (va_Nw.use (A := args) rfl f91) (fun _ h9 => h9) rfl dX5_commit_40 ?_
        refine lv_iconst (v := nI 5) hx hb dX5_commit_43 (by decide) ?_
        refine x_icmp_ne (tgt := 51) hx hb dX5_commit_44 (by decide) (by omega) (by omega) (fun c44 => ?_) (fun c44 => ?_)
        · exact absurd hm c44
        · refine lv_iconst (v := nI 1) hx hb dX5_commit_47 (by decide) ?_
          refine lv_goto (tgt := 52) hx hb dX5_commit_48 (by decide) ?_
          refine x_top (y := bI true) rfl ?_
          refine lv_istore_n (lv' := [(3, .int (bI true)), (2, .int (nI (nx - ex))), (0, .ref (a 0)), (1, .int (nI n))]) hx hb dX5_commit_52 rfl hl (by decide) rfl (fun ls hl => ?_)
          refine lv_iload_n hx hb dX5_commit_53 rfl (lv_at hl 0 rfl) ?_
          refine x_if_eq_b (tgt := 67) hx hb dX5_commit_54 (by decide) (fun c54 => ?_) (fun c54 => ?_)
          · cases c54
          · refine lv_aload_n hx hb dX5_commit_57 rfl (lv_at hl 2 rfl) ?_
            refine va_get (D := (dC, dI)) (ci := 5) (v := .ref (a 9)) (C := RX5) (T := TX5) (N := 11) hx hb hts in_X5 hown hK hP 0 rfl rfl 3 (by decide) f35 (fun _ h9 => h9) rfl dX5_commit_58 ?_
            refine va_getN (D := (dC, dI)) (ci := 3) (v := .int (nI tn)) (C := RX3) (T := TX3) (N := 4) hx hb hts in_X3 hown hK hP 9 rfl rfl 3 (by decide) (va_Nw.use (A := args) rfl f94) (fun _ h9 => h9) rfl dX5_commit_61 ?_
            refine lv_goto (tgt := 68) hx hb dX5_commit_64 (by decide) ?_
            refine lv_istore (lv' := [(4, .int (nI tn)), (3, .int (bI true)), (2, .int (nI (nx - ex))), (0, .ref (a 0)), (1, .int (nI n))]) hx hb dX5_commit_68 hl (by decide) rfl (fun ls hl => ?_)
            refine lv_iload hx hb dX5_commit_70 (lv_at hl 0 rfl) ?_
            refine x_calli (va_runS (As := [.int (nI tn)]) (rest := []) ⟨hx, hb, hml, hown, hts⟩ (c_SL_blocksFor tn (by omega)) (va_cwS 1 hts (tbS tw_372 tw_373 tw_84 tw_374) rfl rfl rfl (by decide +kernel) ⟨Nat.le_of_ble_eq_true rfl, Nat.le_of_ble_eq_true rfl⟩) ⟨x_blind, x_pre hK hP hD hN⟩ rfl rfl hl.1 rfl (lv_room (Nat.le_of_ble_eq_true rfl)) dX5_commit_72 ⟨Nat.zero_le _, Nat.zero_le _⟩) hS (fun H locs hP hD hS => ?_)
            have hP : va_P (dC, dI) vwCl (wS a cB cI cL h1 h2 s1 s2 op nx wt sf lf dn dg un ug qn qt qg tn tk tv ts ef eg ex eF pf pg px pF) H := hP
            have hD : va_D A (wS a cB cI cL h1 h2 s1 s2 op nx wt sf lf dn dg un ug qn qt qg tn tk tv ts ef eg ex eF pf pg px pF) := hD
            refine lv_istore (lv' := [(5, .int (nI ((tn + 2) / 3))), (4, .int (nI tn)), (3, .int (bI true)), (2, .int (nI (nx - ex))), (0, .ref (a 0)), (1, .int (nI n))]) hx hb dX5_commit_75 hl (by decide) rfl (fun ls hl => ?_)
            refine lv_aload_n hx hb dX5_commit_77 rfl (lv_at hl 4 rfl) ?_
            refine va_get (D := (dC, dI)) (ci := 5) (v := .ref (a 3)) (C := RX5) (T := TX5) (N := 11) hx hb hts in_X5 hown hK hP 0 rfl rfl 1 (by decide) f21 (fun _ h9 => h9) rfl dX5_commit_78 ?_
            refine lv_iload hx hb dX5_commit_81 (lv_at hl 0 rfl) ?_
            refine x_calli (va_runVN (As := [.int (nI ((tn + 2) / 3))]) (rest := []) ⟨hx, hb, hml, hown, hts⟩ (c_Us_leastRun (show okU (fun ug' => wS a cB cI cL h1 h2 s1 s2 op nx wt sf lf dn dg un ug' qn qt qg tn tk tv ts ef eg ex eF pf pg px pF) 3 4 (a 3) (a 4) cI un from ⟨fun _ => rfl, fun _ => rfl, fun _ _ => rfl⟩) (tyS_I cB cI cL) (by omega) ug hug ((tn + 2) / 3) (by omega) (by omega)) ⟨(va_cnB 1 hts (tbG tw_286) rfl rfl rfl n101 ini_X4 (by decide +kernel) ⟨Nat.le_of_ble_eq_true rfl, Nat.le_of_ble_eq_true rfl⟩), im_yX4_leastRun, se_yX4_leastRun⟩ ⟨x_blind, va_recv hK hP (ci := 4) (q0 := 3) rfl rfl, x_pre hK hP hD hN⟩ rfl rfl hl.1 rfl (lv_room (Nat.le_of_ble_eq_true rfl)) dX5_commit_83 ⟨Nat.zero_le _, Nat.zero_le _⟩) hS (fun H locs hP hD hS => ?_)
            have hP : va_P (dC, dI) vwCl (wS a cB cI cL h1 h2 s1 s2 op nx wt sf lf dn dg un ug qn qt qg tn tk tv ts ef eg ex eF pf pg px pF) H := hP
            have hD : va_D A (wS a cB cI cL h1 h2 s1 s2 op nx wt sf lf dn dg un ug qn qt qg tn tk tv ts ef eg ex eF pf pg px pF) := hD
            refine lv_istore (lv' := [(6, .int (oI (ulr ug ((tn + 2) / 3) un 0 0))), (5, .int (nI ((tn + 2) / 3))), (4, .int (nI tn)), (3, .int (bI true)), (2, .int (nI (nx - ex))), (0, .ref (a 0)), (1, .int (nI n))]) hx hb dX5_commit_86 hl (by decide) rfl (fun ls hl => ?_)
            rw [hfr] at hl
            have hl : lv_has ls 7 [(6, .int (nI y)), (5, .int (nI ((tn + 2) / 3))), (4, .int (nI tn)), (3, .int (bI true)), (2, .int (nI (nx - ex))), (0, .ref (a 0)), (1, .int (nI n))] := hl
            refine lv_iload hx hb dX5_commit_88 (lv_at hl 0 rfl) ?_
            refine lv_bipush (v := (-2)) hx hb dX5_commit_90 (by decide) ?_
            refine lv_icmp_ne (tgt := 98) hx hb dX5_commit_92 (by decide) (fun c92 => ?_) (fun c92 => ?_)
            · refine lv_aload_n hx hb dX5_commit_98 rfl (lv_at hl 5 rfl) ?_
              refine lv_iload_n hx hb dX5_commit_99 rfl (lv_at hl 3 rfl) ?_
              refine lv_iload hx hb dX5_commit_100 (lv_at hl 0 rfl) ?_
              refine lv_iload hx hb dX5_commit_102 (lv_at hl 1 rfl) ?_
              refine lv_iload hx hb dX5_commit_104 (lv_at hl 2 rfl) ?_
              refine x_callv (va_runV (As := [.int (bI true), .int (nI y), .int (nI ((tn + 2) / 3)), .int (nI tn)]) (rest := []) ⟨hx, hb, hml, hown, hts⟩ (c_SL_planHead heF hpF (by omega) (by omega) (by omega) (by omega) true y ((tn + 2) / 3) tn (by omega) (by omega) (by omega) (fun q => by first | omega | cases q)) (cwV 4 hts (tbV tw_376 tw_378 tw_28 tw_84 tw_379) rfl rfl rfl (by decide +kernel) ⟨Nat.le_of_ble_eq_true rfl, Nat.le_of_ble_eq_true rfl⟩) ⟨x_blind, va_recv hK hP (ci := 5) (q0 := 0) rfl rfl, x_pre hK hP hD hN⟩ rfl rfl hl.1 rfl (lv_room (Nat.le_of_ble_eq_true rfl)) dX5_commit_106 ⟨Nat.zero_le _, Nat.zero_le _⟩) hS (fun H locs hP hD hS => ?_)
              rw [hP0] at hP hD
              have hP : va_P (dC, dI) vwCl (wS a cB cI cL h1 h2 s1 s2 op nx wt sf lf dn dg un ug qn qt qg tn tk tv ts ef eg ex eF P0.1 (eg + 1) nx P0.2) H := hP
              have hD : va_D A (wS a cB cI cL h1 h2 s1 s2 op nx wt sf lf dn dg un ug qn qt qg tn tk tv ts ef eg ex eF P0.1 (eg + 1) nx P0.2) := hD
              refine lv_aload_n hx hb dX5_commit_109 rfl (lv_at hl 5 rfl) ?_
              refine lv_iload_n hx hb dX5_commit_110 rfl (lv_at hl 3 rfl) ?_
              refine x_callv (va_runV (As := [.int (bI true)]) (rest := []) ⟨hx, hb, hml, hown, hts⟩ (c_SL_queueFile (by omega) (by omega) hqt hqg hs hPl (by omega) true ((tn + 2) / 3) tn y (lf + 1) hfb hfr3 hfy hfn (by omega) rfl (by omega) (by omega) (by omega)) (cwV 1 hts (tbV tw_393 tw_395 tw_32 tw_84 tw_396) rfl rfl rfl (by decide +kernel) ⟨Nat.le_of_ble_eq_true rfl, Nat.le_of_ble_eq_true rfl⟩) ⟨x_blind, va_recv hK hP (ci := 5) (q0 := 0) rfl rfl, x_pre hK hP hD hN⟩ rfl rfl hl.1 rfl (lv_room (Nat.le_of_ble_eq_true rfl)) dX5_commit_111 ⟨Nat.zero_le _, Nat.zero_le _⟩) hS (fun H locs hP hD hS => ?_)
              rw [hQ0, hG0] at hP hD
              have hP : va_P (dC, dI) vwCl (wS a cB cI cL h1 h2 s1 s2 op nx wt sf lf dn dg un ug Q0.1 Q0.2.1 G0 tn tk tv ts ef eg ex eF P0.1 (eg + 1) nx P0.2) H := hP
              have hD : va_D A (wS a cB cI cL h1 h2 s1 s2 op nx wt sf lf dn dg un ug Q0.1 Q0.2.1 G0 tn tk tv ts ef eg ex eF P0.1 (eg + 1) nx P0.2) := hD
              refine lv_aload_n hx hb dX5_commit_114 rfl (lv_at hl 5 rfl) ?_
              refine x_callv (va_runV (As := []) (rest := []) ⟨hx, hb, hml, hown, hts⟩ (c_SL_queueHead (by omega) hQt hGl hPl (by omega) (by omega) (by omega) (by omega)) (cwV 0 hts (tbV tw_406 tw_408 tw_34 tw_84 tw_409) rfl rfl rfl (by decide +kernel) ⟨Nat.le_of_ble_eq_true rfl, Nat.le_of_ble_eq_true rfl⟩) ⟨x_blind, va_recv hK hP (ci := 5) (q0 := 0) rfl rfl, x_pre hK hP hD hN⟩ rfl rfl hl.1 rfl (lv_room (Nat.le_of_ble_eq_true rfl)) dX5_commit_115 ⟨Nat.zero_le _, Nat.zero_le _⟩) hS (fun H locs hP hD hS => ?_)
              have hP : va_P (dC, dI) vwCl (wS a cB cI cL h1 h2 s1 s2 op nx wt sf lf dn dg un ug (Q0.1 + 1) (va_up Q0.2.1 Q0.1 ((eg + 1) % 2)) (qhG Q0.1 P0.1 (eg + 1) nx P0.2 Q0.2.1 G0) tn tk tv ts ef eg ex eF P0.1 (eg + 1) nx P0.2) H := hP
              have hD : va_D A (wS a cB cI cL h1 h2 s1 s2 op nx wt sf lf dn dg un ug (Q0.1 + 1) (va_up Q0.2.1 Q0.1 ((eg + 1) % 2)) (qhG Q0.1 P0.1 (eg + 1) nx P0.2 Q0.2.1 G0) tn tk tv ts ef eg ex eF P0.1 (eg + 1) nx P0.2) := hD
              refine lv_iload_n hx hb dX5_commit_118 rfl (lv_at hl 6 rfl) ?_
              refine x_if_lt (tgt := 154) hx hb dX5_commit_119 (by decide) (by omega) ?_
              refine lv_iload_n hx hb dX5_commit_122 rfl (lv_at hl 6 rfl) ?_
              refine lv_aload_n hx hb dX5_commit_123 rfl (lv_at hl 5 rfl) ?_
              refine va_get (D := (dC, dI)) (ci := 5) (v := .ref (a 5)) (C := RX5) (T := TX5) (N := 11) hx hb hts in_X5 hown hK hP 0 rfl rfl 2 (by decide) f28 (fun _ h9 => h9) rfl dX5_commit_124 ?_
              refine x_calli (va_runVN (As := []) (rest := [.int (nI n)]) ⟨hx, hb, hml, hown, hts⟩ c_Qu_bytes ⟨(va_cnB 0 hts (tbG tw_360) rfl rfl rfl n83 ini_X2 (by decide +kernel) ⟨Nat.le_of_ble_eq_true rfl, Nat.le_of_ble_eq_true rfl⟩), im_yX2_bytes, se_yX2_bytes⟩ ⟨x_blind, va_recv hK hP (ci := 2) (q0 := 5) rfl rfl, x_pre hK hP hD hN⟩ rfl rfl hl.1 rfl (lv_room (Nat.le_of_ble_eq_true rfl)) dX5_commit_127 ⟨Nat.zero_le _, Nat.zero_le _⟩) hS (fun H locs hP hD hS => ?_)
              have hP : va_P (dC, dI) vwCl (wS a cB cI cL h1 h2 s1 s2 op nx wt sf lf dn dg un ug (Q0.1 + 1) (va_up Q0.2.1 Q0.1 ((eg + 1) % 2)) (qhG Q0.1 P0.1 (eg + 1) nx P0.2 Q0.2.1 G0) tn tk tv ts ef eg ex eF P0.1 (eg + 1) nx P0.2) H := hP
              have hD : va_D A (wS a cB cI cL h1 h2 s1 s2 op nx wt sf lf dn dg un ug (Q0.1 + 1) (va_up Q0.2.1 Q0.1 ((eg + 1) % 2)) (qhG Q0.1 P0.1 (eg + 1) nx P0.2 Q0.2.1 G0) tn tk tv ts ef eg ex eF P0.1 (eg + 1) nx P0.2) := hD
              refine x_icmp_ge (tgt := 154) hx hb dX5_commit_130 (by decide) (by omega) (by omega) (fun c130 => ?_) (fun c130 => ?_)
              · refine lv_aload_n hx hb dX5_commit_154 rfl (lv_at hl 5 rfl) ?_
                refine va_get (D := (dC, dI)) (ci := 5) (v := .ref (a 5)) (C := RX5) (T := TX5) (N := 11) hx hb hts in_X5 hown hK hP 0 rfl rfl 2 (by decide) f28 (fun _ h9 => h9) rfl dX5_commit_155 ?_
                refine lv_aload_n hx hb dX5_commit_158 rfl (lv_at hl 5 rfl) ?_
                refine va_get (D := (dC, dI)) (ci := 5) (v := .ref (a 1)) (C := RX5) (T := TX5) (N := 11) hx hb hts in_X5 hown hK hP 0 rfl rfl 0 (by decide) f14 (fun _ h9 => h9) rfl dX5_commit_159 ?_
                refine lv_aload_n hx hb dX5_commit_162 rfl (lv_at hl 5 rfl) ?_
                refine va_get (D := (dC, dI)) (ci := 5) (v := .ref (a 5)) (C := RX5) (T := TX5) (N := 11) hx hb hts in_X5 hown hK hP 0 rfl rfl 2 (by decide) f28 (fun _ h9 => h9) rfl dX5_commit_163 ?_
                refine x_calli (va_runVN (As := []) (rest := [.ref (a 1), .ref (a 5)]) ⟨hx, hb, hml, hown, hts⟩ c_Qu_bytes ⟨(va_cnB 0 hts (tbG tw_360) rfl rfl rfl n83 ini_X2 (by decide +kernel) ⟨Nat.le_of_ble_eq_true rfl, Nat.le_of_ble_eq_true rfl⟩), im_yX2_bytes, se_yX2_bytes⟩ ⟨x_blind, va_recv hK hP (ci := 2) (q0 := 5) rfl rfl, x_pre hK hP hD hN⟩ rfl rfl hl.1 rfl (lv_room (Nat.le_of_ble_eq_true rfl)) dX5_commit_166 ⟨Nat.zero_le _, Nat.zero_le _⟩) hS (fun H locs hP hD hS => ?_)
                have hP : va_P (dC, dI) vwCl (wS a cB cI cL h1 h2 s1 s2 op nx wt sf lf dn dg un ug (Q0.1 + 1) (va_up Q0.2.1 Q0.1 ((eg + 1) % 2)) (qhG Q0.1 P0.1 (eg + 1) nx P0.2 Q0.2.1 G0) tn tk tv ts ef eg ex eF P0.1 (eg + 1) nx P0.2) H := hP
                have hD : va_D A (wS a cB cI cL h1 h2 s1 s2 op nx wt sf lf dn dg un ug (Q0.1 + 1) (va_up Q0.2.1 Q0.1 ((eg + 1) % 2)) (qhG Q0.1 P0.1 (eg + 1) nx P0.2 Q0.2.1 G0) tn tk tv ts ef eg ex eF P0.1 (eg + 1) nx P0.2) := hD
                refine x_calli (va_runVN (As := [.ref (a 1), .int (nI ((Q0.1 + 1) * 64))]) (rest := []) ⟨hx, hb, hml, hown, hts⟩ (c_Qu_drain (by omega) (by omega) (va_up_lt hQt (by omega)) (qhG_lt hGl) hdg ((Q0.1 + 1) * 64) (by omega)) ⟨(va_cnB 2 hts (tbG tw_364) rfl rfl rfl n86 ini_X2 (by decide +kernel) ⟨Nat.le_of_ble_eq_true rfl, Nat.le_of_ble_eq_true rfl⟩), im_yX2_drain, se_yX2_drain⟩ ⟨x_blind, va_recv hK hP (ci := 2) (q0 := 5) rfl rfl, x_pre hK hP hD hN⟩ rfl rfl hl.1 rfl (lv_room (Nat.le_of_ble_eq_true rfl)) dX5_commit_169 ⟨Nat.zero_le _, Nat.zero_le _⟩) hS (fun H locs hP hD hS => ?_)
                have hP : va_P (dC, dI) vwCl (wS a cB cI cL h1 h2 s1 s2 op nx wt sf lf dn (qdr dn (va_up Q0.2.1 Q0.1 ((eg + 1) % 2)) (qhG Q0.1 P0.1 (eg + 1) nx P0.2 Q0.2.1 G0) (min ((Q0.1 + 1) * 64) ((Q0.1 + 1) * 64)) 0 dg) un ug 0 (va_up Q0.2.1 Q0.1 ((eg + 1) % 2)) (qhG Q0.1 P0.1 (eg + 1) nx P0.2 Q0.2.1 G0) tn tk tv ts ef eg ex eF P0.1 (eg + 1) nx P0.2) H := hP
                have hD : va_D A (wS a cB cI cL h1 h2 s1 s2 op nx wt sf lf dn (qdr dn (va_up Q0.2.1 Q0.1 ((eg + 1) % 2)) (qhG Q0.1 P0.1 (eg + 1) nx P0.2 Q0.2.1 G0) (min ((Q0.1 + 1) * 64) ((Q0.1 + 1) * 64)) 0 dg) un ug 0 (va_up Q0.2.1 Q0.1 ((eg + 1) % 2)) (qhG Q0.1 P0.1 (eg + 1) nx P0.2 Q0.2.1 G0) tn tk tv ts ef eg ex eF P0.1 (eg + 1) nx P0.2) := hD
                refine lv_pop hx hb dX5_commit_172 rfl ?_
                refine lv_aload_n hx hb dX5_commit_173 rfl (lv_at hl 5 rfl) ?_
                refine lv_iload_n hx hb dX5_commit_174 rfl (lv_at hl 3 rfl) ?_
                refine x_callv (va_runV (As := [.int (bI true)]) (rest := []) ⟨hx, hb, hml, hown, hts⟩ (c_SL_takePlannedHead (by omega) (by omega) hug hs heF hPl (by omega) (by omega) true (by omega) (by omega)) (cwV 1 hts (tbV tw_413 tw_415 tw_35 tw_84 tw_416) rfl rfl rfl (by decide +kernel) ⟨Nat.le_of_ble_eq_true rfl, Nat.le_of_ble_eq_true rfl⟩) ⟨x_blind, va_recv hK hP (ci := 5) (q0 := 0) rfl rfl, x_pre hK hP hD hN⟩ rfl rfl hl.1 rfl (lv_room (Nat.le_of_ble_eq_true rfl)) dX5_commit_175 ⟨Nat.zero_le _, Nat.zero_le _⟩) hS (fun H locs hP hD hS => ?_)
                rw [hfy, hfb, hfn] at hP hD
                have hP : va_P (dC, dI) vwCl (wS a cB cI cL s1 s2 h1 h2 op nx 0 (nx - 1) (lf + 1) dn (qdr dn (va_up Q0.2.1 Q0.1 ((eg + 1) % 2)) (qhG Q0.1 P0.1 (eg + 1) nx P0.2 Q0.2.1 G0) (min ((Q0.1 + 1) * 64) ((Q0.1 + 1) * 64)) 0 dg) un (umk un y 2 ((tn + 2) / 3) (tkU true un ug) 0) 0 (va_up Q0.2.1 Q0.1 ((eg + 1) % 2)) (qhG Q0.1 P0.1 (eg + 1) nx P0.2 Q0.2.1 G0) tn tk tv (tset tn ts 0) P0.1 (eg + 1) nx P0.2 ef eg ex eF) H := hP
                have hD : va_D A (wS a cB cI cL s1 s2 h1 h2 op nx 0 (nx - 1) (lf + 1) dn (qdr dn (va_up Q0.2.1 Q0.1 ((eg + 1) % 2)) (qhG Q0.1 P0.1 (eg + 1) nx P0.2 Q0.2.1 G0) (min ((Q0.1 + 1) * 64) ((Q0.1 + 1) * 64)) 0 dg) un (umk un y 2 ((tn + 2) / 3) (tkU true un ug) 0) 0 (va_up Q0.2.1 Q0.1 ((eg + 1) % 2)) (qhG Q0.1 P0.1 (eg + 1) nx P0.2 Q0.2.1 G0) tn tk tv (tset tn ts 0) P0.1 (eg + 1) nx P0.2 ef eg ex eF) := hD
                refine lv_aload_n hx hb dX5_commit_178 rfl (lv_at hl 5 rfl) ?_
                refine va_get (D := (dC, dI)) (ci := 5) (v := .ref s1) (C := RX5) (T := TX5) (N := 11) hx hb hts in_X5 hown hK hP 0 rfl rfl 4 (by decide) f42 (fun _ h9 => h9) rfl dX5_commit_179 ?_
                refine va_getN (D := (dC, dI)) (ci := 1) (v := .int (nI (eg + 1))) (C := RX1) (T := TX1) (N := 4) hx hb hts in_X1 hown hK hP 13 rfl rfl 2 (by decide) (va_Nw.use (A := args) rfl f118) (fun _ h9 => h9) rfl dX5_commit_182 ?_
                exact hret dX5_commit_185 (by rfl) hP hD hS
              · exact absurd c130 (by omega)
            · exact absurd c92 hy9
      · exact absurd c31 (by omega)
    · exact absurd (ho.symm.trans c11) (by decide)
  · exact absurd (x_m1le hn1) c2

set_option maxHeartbeats 4000000 in
set_option maxRecDepth 100000 in
theorem c_SL_commitPM {l : Launch} {dC : Nat → ClassId} {dI : Nat → Nat → Nat} {A : Nat → Prop} {a : Nat → Nat} {cB cI cL : ClassId} {h1 h2 s1 s2 : Nat} {op : Bool} {nx wt sf lf dn : Nat} {dg : Nat → Nat} {un : Nat} {ug : Nat → Nat} {qn : Nat} {qt qg : Nat → Nat} {tn : Nat} {tk tv : Nat → Int64} {ts : Nat → Nat} {ef eg ex : Nat} {eF : Nat → Nat} {pf pg px : Nat} {pF : Nat → Nat} (hdn : dn ≤ 64) (hun : un ≤ 64) (hqn : qn ≤ 64) (htn : tn ≤ 192) (hdg : ∀ j, dg j < 256) (hug : ∀ j, ug j < 8) (hqt : ∀ j, qt j < 64) (hqg : ∀ j, qg j < 256) (hs : ∀ j, ts j < 2 ^ 31) (heF : ∀ j, eF j < 1048576) (hpF : ∀ j, pF j < 1048576) (hef : ef ≤ 5) (hnx : nx < 2 ^ 30) (hwt : wt ≤ nx) (heg : eg < 2 ^ 30) (hlf : lf < 2 ^ 18) (hex : ex < 2 ^ 30) (y : Nat) (P0 : Nat × (Nat → Nat)) (Q0 : QS) (G0 : Nat → Nat) (n : Nat) (hn1 : n < 2 ^ 31) (hnq : n < (Q0.1 + 1) * 64) (ho : op = true) (hl0 : ex < nx) (hm : ef = 5) (hr0 : 0 < tn) (hfr : ulr ug ((tn + 2) / 3) un 0 0 = some y) (hP0 : plh true ef eF pF lf y ((tn + 2) / 3) tn = P0) (hf0 : 0 < P0.1) (hf5 : P0.1 ≤ 5) (hfn : hfl P0.1 P0.2 (P0.1 - 1) 0 = lf + 1) (hfy : hfl P0.1 P0.2 (P0.1 - 1) 1 = y) (hfb : hfl P0.1 P0.2 (P0.1 - 1) 2 = ((tn + 2) / 3)) (hfr3 : hfl P0.1 P0.2 (P0.1 - 1) 3 = tn) (hQ0 : qf1 ((tn + 2) / 3) tn y (lf + 1) ((tn + 2) / 3) 0 (qn, qt, qg) = Q0) (hG0 : qf3 qn Q0.2.1 ((tn + 2) / 3) 0 (qf2 true qn tk tv ts tn 0 0 Q0.2.2) = G0) (hqb : qn + ((tn + 2) / 3) < 64) (hyb : y + ((tn + 2) / 3) ≤ 64) (heg1 : eg + 1 < 2 ^ 30) : Met l yX5_commit (Cond.code yX5_commit cX5_commit 7 (some .int) :: TB) { frames := 5, cells := 0, slots := 0, locals := 124 } (xPre Nst (dC, dI) A (tyS cB cI cL) (wS a cB cI cL h1 h2 s1 s2 op nx wt sf lf dn dg un ug qn qt qg tn tk tv ts ef eg ex eF pf pg px pF) [.ref (a 0), .int (nI n)]) (xQi (dC, dI) A ((-2)) (wS a cB cI cL h1 h2 s1 s2 false nx wt sf lf dn (qdr dn (va_up Q0.2.1 Q0.1 ((eg + 1) % 2)) (qhG Q0.1 P0.1 (eg + 1) nx P0.2 Q0.2.1 G0) (min n ((Q0.1 + 1) * 64)) 0 dg) un ug 0 (va_up Q0.2.1 Q0.1 ((eg + 1) % 2)) (qhG Q0.1 P0.1 (eg + 1) nx P0.2 Q0.2.1 G0) tn tk tv ts ef eg ex eF P0.1 (eg + 1) nx P0.2)) 0 0 A := by
  refine x_ofWi (cc := cX5_commit) (maxL := 7) (by decide) rfl (Nat.le_of_ble_eq_true rfl) ?_
  intro p e s m args below meth c Q hx hb hml hts hown hK hN hP hD hS hret ls hl
  have hl : lv_has ls 7 [(0, .ref (a 0)), (1, .int (nI n))] := hl
  have hown : s.vm.findClass RX5 = some m.cls := hown
  have hPl : ∀ j, P0.2 j < 1048576 := by rw [← hP0]; exact plh_lt heF hpF (by omega) (by omega) (by omega) (by omega)
  have hQt : ∀ j, Q0.2.1 j < 64 := by rw [← hQ0]; exact qf1_t (by omega) hqt
  have hQg : ∀ j, Q0.2.2 j < 256 := by rw [← hQ0]; exact qf1_g hqg
  have hQn : Q0.1 = qn + ((tn + 2) / 3) := by rw [← hQ0]; exact qf1_n
  have hGl : ∀ j, G0 j < 256 := by rw [← hG0]; exact qf3_lt (qf2_lt hQg)
  have hy9 : ¬ nI y = (-2 : Int32) := fun q => absurd (show (nI y) < 0 by rw [q]; decide) (nI_pos (by omega))
  have f49 := hts _ (List.mem_cons_of_mem _ tw_213)
  have in_X5 := (fun q hq => List.mem_cons_of_mem _ (inX5 q hq) : ∀ q ∈ wsX50, q ∈ (Cond.code yX5_commit cX5_commit 7 (some .int) :: TB))
  have f53 := hts _ (List.mem_cons_of_mem _ tw_214)
  have f42 := hts _ (List.mem_cons_of_mem _ tw_211)
  have f90 := hN (.fieldLinkNest RX5 90 "SegmentLog$Head" "next" "I" "SegmentLog") (by decide +kernel)
  have in_X1 := (fun q hq => List.mem_cons_of_mem _ (inX1 q hq) : ∀ q ∈ wsX10, q ∈ (Cond.code yX5_commit cX5_commit 7 (some .int) :: TB))
  have f91 := hN (.fieldLinkNest RX5 91 "SegmentLog$Head" "files" "I" "SegmentLog") (by decide +kernel)
  have f35 := hts _ (List.mem_cons_of_mem _ tw_210)
  have f94 := hN (.fieldLinkNest RX5 94 "SegmentLog$Table" "size" "I" "SegmentLog") (by decide +kernel)
  have in_X3 := (fun q hq => List.mem_cons_of_mem _ (inX3 q hq) : ∀ q ∈ wsX30, q ∈ (Cond.code yX5_commit cX5_commit 7 (some .int) :: TB))
  have f21 := hts _ (List.mem_cons_of_mem _ tw_208)
  have n101 := hN (.methodLinkNest RX5 101 yX4_leastRun "SegmentLog") (by decide +kernel)
  have ini_X4 := hts _ (List.mem_cons_of_mem _ tw_86)
  have im_yX4_leastRun := hts _ (List.mem_cons_of_mem _ tw_285)
  have se_yX4_leastRun := hts _ (List.mem_cons_of_mem _ tw_11)
  have f28 := hts _ (List.mem_cons_of_mem _ tw_209)
  have n83 := hN (.methodLinkNest RX5 83 yX2_bytes "SegmentLog") (by decide +kernel)
  have ini_X2 := hts _ (List.mem_cons_of_mem _ tw_88)
  have im_yX2_bytes := hts _ (List.mem_cons_of_mem _ tw_359)
  have se_yX2_bytes := hts _ (List.mem_cons_of_mem _ tw_26)
  have f14 := hts _ (List.mem_cons_of_mem _ tw_207)
  have n86 := hN (.methodLinkNest RX5 86 yX2_drain "SegmentLog") (by decide +kernel)
  have im_yX2_drain := hts _ (List.mem_cons_of_mem _ tw_363)
  have se_yX2_drain := hts _ (List.mem_cons_of_mem _ tw_27)
  refine lv_iload_n hx hb dX5_commit_0 rfl (lv_at hl 1 rfl) ?_
  refine lv_iconst (v := (-1)) hx hb dX5_commit_1 (by decide) ?_
  refine lv_icmp_ge (tgt := 7) hx hb dX5_commit_2 (by decide) (fun c2 => ?_) (fun c2 => ?_)
  · refine lv_aload_n hx hb dX5_commit_7 rfl (lv_at hl 0 rfl) ?_
    refine va_get (D := (dC, dI)) (ci := 5) (v := .int (bI op)) (C := RX5) (T := TX5) (N := 11) hx hb hts in_X5 hown hK hP 0 rfl rfl 6 (by decide) f49 (fun _ h9 => h9) rfl dX5_commit_8 ?_
    refine x_if_ne_b (tgt := 17) hx hb dX5_commit_11 (by decide) (fun c11 => ?_) (fun c11 => ?_)
    · refine lv_aload_n hx hb dX5_commit_17 rfl (lv_at hl 0 rfl) ?_
      refine va_get (D := (dC, dI)) (ci := 5) (v := .int (nI nx)) (C := RX5) (T := TX5) (N := 11) hx hb hts in_X5 hown hK hP 0 rfl rfl 7 (by decide) f53 (fun _ h9 => h9) rfl dX5_commit_18 ?_
      refine lv_aload_n hx hb dX5_commit_21 rfl (lv_at hl 0 rfl) ?_
      refine va_get (D := (dC, dI)) (ci := 5) (v := .ref h1) (C := RX5) (T := TX5) (N := 11) hx hb hts in_X5 hown hK hP 0 rfl rfl 4 (by decide) f42 (fun _ h9 => h9) rfl dX5_commit_22 ?_
      refine va_getN (D := (dC, dI)) (ci := 1) (v := .int (nI ex)) (C := RX1) (T := TX1) (N := 4) hx hb hts in_X1 hown hK hP 13 rfl rfl 3 (by decide) (va_Nw.use (A := args) rfl f90) (fun _ h9 => h9) rfl dX5_commit_25 ?_
      refine x_isub hx hb dX5_commit_28 (by omega) ?_
      refine lv_istore_n (lv' := [(2, .int (nI (nx - ex))), (0, .ref (a 0)), (1, .int (nI n))]) hx hb dX5_commit_29 rfl hl (by decide) rfl (fun ls hl => ?_)
      refine lv_iload_n hx hb dX5_commit_30 rfl (lv_at hl 0 rfl) ?_
      refine x_if_gt (tgt := 36) hx hb dX5_commit_31 (by decide) (by omega) (fun c31 => ?_) (fun c31 => ?_)
      · refine lv_aload_n hx hb dX5_commit_36 rfl (lv_at hl 1 rfl) ?_
        refine va_get (D := (dC, dI)) (ci := 5) (v := .ref h1) (C := RX5) (T := TX5) (N := 11) hx hb hts in_X5 hown hK hP 0 rfl rfl 4 (by decide) f42 (fun _ h9 => h9) rfl dX5_commit_37 ?_
        refine va_getN (D := (dC, dI)) (ci := 1) (v := .int (nI ef)) (C := RX1) (T := TX1) (N := 4) hx hb hts in_X1 hown hK hP 13 rfl rfl 1 (by decide) (va_Nw.use (A := args) rfl f91) (fun _ h9 => h9) rfl dX5_commit_40 ?_
        refine lv_iconst (v := nI 5) hx hb dX5_commit_43 (by decide) ?_
        refine x_icmp_ne (tgt := 51) hx hb dX5_commit_44 (by decide) (by omega) (by omega) (fun c44 => ?_) (fun c44 => ?_)
        · exact absurd hm c44
        · refine lv_iconst (v := nI 1) hx hb dX5_commit_47 (by decide) ?_
          refine lv_goto (tgt := 52) hx hb dX5_commit_48 (by decide) ?_
          refine x_top (y := bI true) rfl ?_
          refine lv_istore_n (lv' := [(3, .int (bI true)), (2, .int (nI (nx - ex))), (0, .ref (a 0)), (1, .int (nI n))]) hx hb dX5_commit_52 rfl hl (by decide) rfl (fun ls hl => ?_)
          refine lv_iload_n hx hb dX5_commit_53 rfl (lv_at hl 0 rfl) ?_
          refine x_if_eq_b (tgt := 67) hx hb dX5_commit_54 (by decide) (fun c54 => ?_) (fun c54 => ?_)
          · cases c54
          · refine lv_aload_n hx hb dX5_commit_57 rfl (lv_at hl 2 rfl) ?_
            refine va_get (D := (dC, dI)) (ci := 5) (v := .ref (a 9)) (C := RX5) (T := TX5) (N := 11) hx hb hts in_X5 hown hK hP 0 rfl rfl 3 (by decide) f35 (fun _ h9 => h9) rfl dX5_commit_58 ?_
            refine va_getN (D := (dC, dI)) (ci := 3) (v := .int (nI tn)) (C := RX3) (T := TX3) (N := 4) hx hb hts in_X3 hown hK hP 9 rfl rfl 3 (by decide) (va_Nw.use (A := args) rfl f94) (fun _ h9 => h9) rfl dX5_commit_61 ?_
            refine lv_goto (tgt := 68) hx hb dX5_commit_64 (by decide) ?_
            refine lv_istore (lv' := [(4, .int (nI tn)), (3, .int (bI true)), (2, .int (nI (nx - ex))), (0, .ref (a 0)), (1, .int (nI n))]) hx hb dX5_commit_68 hl (by decide) rfl (fun ls hl => ?_)
            refine lv_iload hx hb dX5_commit_70 (lv_at hl 0 rfl) ?_
            refine x_calli (va_runS (As := [.int (nI tn)]) (rest := []) ⟨hx, hb, hml, hown, hts⟩ (c_SL_blocksFor tn (by omega)) (va_cwS 1 hts (tbS tw_372 tw_373 tw_84 tw_374) rfl rfl rfl (by decide +kernel) ⟨Nat.le_of_ble_eq_true rfl, Nat.le_of_ble_eq_true rfl⟩) ⟨x_blind, x_pre hK hP hD hN⟩ rfl rfl hl.1 rfl (lv_room (Nat.le_of_ble_eq_true rfl)) dX5_commit_72 ⟨Nat.zero_le _, Nat.zero_le _⟩) hS (fun H locs hP hD hS => ?_)
            have hP : va_P (dC, dI) vwCl (wS a cB cI cL h1 h2 s1 s2 op nx wt sf lf dn dg un ug qn qt qg tn tk tv ts ef eg ex eF pf pg px pF) H := hP
            have hD : va_D A (wS a cB cI cL h1 h2 s1 s2 op nx wt sf lf dn dg un ug qn qt qg tn tk tv ts ef eg ex eF pf pg px pF) := hD
            refine lv_istore (lv' := [(5, .int (nI ((tn + 2) / 3))), (4, .int (nI tn)), (3, .int (bI true)), (2, .int (nI (nx - ex))), (0, .ref (a 0)), (1, .int (nI n))]) hx hb dX5_commit_75 hl (by decide) rfl (fun ls hl => ?_)
            refine lv_aload_n hx hb dX5_commit_77 rfl (lv_at hl 4 rfl) ?_
            refine va_get (D := (dC, dI)) (ci := 5) (v := .ref (a 3)) (C := RX5) (T := TX5) (N := 11) hx hb hts in_X5 hown hK hP 0 rfl rfl 1 (by decide) f21 (fun _ h9 => h9) rfl dX5_commit_78 ?_
            refine lv_iload hx hb dX5_commit_81 (lv_at hl 0 rfl) ?_
            refine x_calli (va_runVN (As := [.int (nI ((tn + 2) / 3))]) (rest := []) ⟨hx, hb, hml, hown, hts⟩ (c_Us_leastRun (show okU (fun ug' => wS a cB cI cL h1 h2 s1 s2 op nx wt sf lf dn dg un ug' qn qt qg tn tk tv ts ef eg ex eF pf pg px pF) 3 4 (a 3) (a 4) cI un from ⟨fun _ => rfl, fun _ => rfl, fun _ _ => rfl⟩) (tyS_I cB cI cL) (by omega) ug hug ((tn + 2) / 3) (by omega) (by omega)) ⟨(va_cnB 1 hts (tbG tw_286) rfl rfl rfl n101 ini_X4 (by decide +kernel) ⟨Nat.le_of_ble_eq_true rfl, Nat.le_of_ble_eq_true rfl⟩), im_yX4_leastRun, se_yX4_leastRun⟩ ⟨x_blind, va_recv hK hP (ci := 4) (q0 := 3) rfl rfl, x_pre hK hP hD hN⟩ rfl rfl hl.1 rfl (lv_room (Nat.le_of_ble_eq_true rfl)) dX5_commit_83 ⟨Nat.zero_le _, Nat.zero_le _⟩) hS (fun H locs hP hD hS => ?_)
            have hP : va_P (dC, dI) vwCl (wS a cB cI cL h1 h2 s1 s2 op nx wt sf lf dn dg un ug qn qt qg tn tk tv ts ef eg ex eF pf pg px pF) H := hP
            have hD : va_D A (wS a cB cI cL h1 h2 s1 s2 op nx wt sf lf dn dg un ug qn qt qg tn tk tv ts ef eg ex eF pf pg px pF) := hD
            refine lv_istore (lv' := [(6, .int (oI (ulr ug ((tn + 2) / 3) un 0 0))), (5, .int (nI ((tn + 2) / 3))), (4, .int (nI tn)), (3, .int (bI true)), (2, .int (nI (nx - ex))), (0, .ref (a 0)), (1, .int (nI n))]) hx hb dX5_commit_86 hl (by decide) rfl (fun ls hl => ?_)
            rw [hfr] at hl
            have hl : lv_has ls 7 [(6, .int (nI y)), (5, .int (nI ((tn + 2) / 3))), (4, .int (nI tn)), (3, .int (bI true)), (2, .int (nI (nx - ex))), (0, .ref (a 0)), (1, .int (nI n))] := hl
            refine lv_iload hx hb dX5_commit_88 (lv_at hl 0 rfl) ?_
            refine lv_bipush (v := (-2)) hx hb dX5_commit_90 (by decide) ?_
            refine lv_icmp_ne (tgt := 98) hx hb dX5_commit_92 (by decide) (fun c92 => ?_) (fun c92 => ?_)
            · refine lv_aload_n hx hb dX5_commit_98 rfl (lv_at hl 5 rfl) ?_
              refine lv_iload_n hx hb dX5_commit_99 rfl (lv_at hl 3 rfl) ?_
              refine lv_iload hx hb dX5_commit_100 (lv_at hl 0 rfl) ?_
              refine lv_iload hx hb dX5_commit_102 (lv_at hl 1 rfl) ?_
              refine lv_iload hx hb dX5_commit_104 (lv_at hl 2 rfl) ?_
              refine x_callv (va_runV (As := [.int (bI true), .int (nI y), .int (nI ((tn + 2) / 3)), .int (nI tn)]) (rest := []) ⟨hx, hb, hml, hown, hts⟩ (c_SL_planHead heF hpF (by omega) (by omega) (by omega) (by omega) true y ((tn + 2) / 3) tn (by omega) (by omega) (by omega) (fun q => by first | omega | cases q)) (cwV 4 hts (tbV tw_376 tw_378 tw_28 tw_84 tw_379) rfl rfl rfl (by decide +kernel) ⟨Nat.le_of_ble_eq_true rfl, Nat.le_of_ble_eq_true rfl⟩) ⟨x_blind, va_recv hK hP (ci := 5) (q0 := 0) rfl rfl, x_pre hK hP hD hN⟩ rfl rfl hl.1 rfl (lv_room (Nat.le_of_ble_eq_true rfl)) dX5_commit_106 ⟨Nat.zero_le _, Nat.zero_le _⟩) hS (fun H locs hP hD hS => ?_)
              rw [hP0] at hP hD
              have hP : va_P (dC, dI) vwCl (wS a cB cI cL h1 h2 s1 s2 op nx wt sf lf dn dg un ug qn qt qg tn tk tv ts ef eg ex eF P0.1 (eg + 1) nx P0.2) H := hP
              have hD : va_D A (wS a cB cI cL h1 h2 s1 s2 op nx wt sf lf dn dg un ug qn qt qg tn tk tv ts ef eg ex eF P0.1 (eg + 1) nx P0.2) := hD
              refine lv_aload_n hx hb dX5_commit_109 rfl (lv_at hl 5 rfl) ?_
              refine lv_iload_n hx hb dX5_commit_110 rfl (lv_at hl 3 rfl) ?_
              refine x_callv (va_runV (As := [.int (bI true)]) (rest := []) ⟨hx, hb, hml, hown, hts⟩ (c_SL_queueFile (by omega) (by omega) hqt hqg hs hPl (by omega) true ((tn + 2) / 3) tn y (lf + 1) hfb hfr3 hfy hfn (by omega) rfl (by omega) (by omega) (by omega)) (cwV 1 hts (tbV tw_393 tw_395 tw_32 tw_84 tw_396) rfl rfl rfl (by decide +kernel) ⟨Nat.le_of_ble_eq_true rfl, Nat.le_of_ble_eq_true rfl⟩) ⟨x_blind, va_recv hK hP (ci := 5) (q0 := 0) rfl rfl, x_pre hK hP hD hN⟩ rfl rfl hl.1 rfl (lv_room (Nat.le_of_ble_eq_true rfl)) dX5_commit_111 ⟨Nat.zero_le _, Nat.zero_le _⟩) hS (fun H locs hP hD hS => ?_)
              rw [hQ0, hG0] at hP hD
              have hP : va_P (dC, dI) vwCl (wS a cB cI cL h1 h2 s1 s2 op nx wt sf lf dn dg un ug Q0.1 Q0.2.1 G0 tn tk tv ts ef eg ex eF P0.1 (eg + 1) nx P0.2) H := hP
              have hD : va_D A (wS a cB cI cL h1 h2 s1 s2 op nx wt sf lf dn dg un ug Q0.1 Q0.2.1 G0 tn tk tv ts ef eg ex eF P0.1 (eg + 1) nx P0.2) := hD
              refine lv_aload_n hx hb dX5_commit_114 rfl (lv_at hl 5 rfl) ?_
              refine x_callv (va_runV (As := []) (rest := []) ⟨hx, hb, hml, hown, hts⟩ (c_SL_queueHead (by omega) hQt hGl hPl (by omega) (by omega) (by omega) (by omega)) (cwV 0 hts (tbV tw_406 tw_408 tw_34 tw_84 tw_409) rfl rfl rfl (by decide +kernel) ⟨Nat.le_of_ble_eq_true rfl, Nat.le_of_ble_eq_true rfl⟩) ⟨x_blind, va_recv hK hP (ci := 5) (q0 := 0) rfl rfl, x_pre hK hP hD hN⟩ rfl rfl hl.1 rfl (lv_room (Nat.le_of_ble_eq_true rfl)) dX5_commit_115 ⟨Nat.zero_le _, Nat.zero_le _⟩) hS (fun H locs hP hD hS => ?_)
              have hP : va_P (dC, dI) vwCl (wS a cB cI cL h1 h2 s1 s2 op nx wt sf lf dn dg un ug (Q0.1 + 1) (va_up Q0.2.1 Q0.1 ((eg + 1) % 2)) (qhG Q0.1 P0.1 (eg + 1) nx P0.2 Q0.2.1 G0) tn tk tv ts ef eg ex eF P0.1 (eg + 1) nx P0.2) H := hP
              have hD : va_D A (wS a cB cI cL h1 h2 s1 s2 op nx wt sf lf dn dg un ug (Q0.1 + 1) (va_up Q0.2.1 Q0.1 ((eg + 1) % 2)) (qhG Q0.1 P0.1 (eg + 1) nx P0.2 Q0.2.1 G0) tn tk tv ts ef eg ex eF P0.1 (eg + 1) nx P0.2) := hD
              refine lv_iload_n hx hb dX5_commit_118 rfl (lv_at hl 6 rfl) ?_
              refine x_if_lt (tgt := 154) hx hb dX5_commit_119 (by decide) (by omega) ?_
              refine lv_iload_n hx hb dX5_commit_122 rfl (lv_at hl 6 rfl) ?_
              refine lv_aload_n hx hb dX5_commit_123 rfl (lv_at hl 5 rfl) ?_
              refine va_get (D := (dC, dI)) (ci := 5) (v := .ref (a 5)) (C := RX5) (T := TX5) (N := 11) hx hb hts in_X5 hown hK hP 0 rfl rfl 2 (by decide) f28 (fun _ h9 => h9) rfl dX5_commit_124 ?_
              refine x_calli (va_runVN (As := []) (rest := [.int (nI n)]) ⟨hx, hb, hml, hown, hts⟩ c_Qu_bytes ⟨(va_cnB 0 hts (tbG tw_360) rfl rfl rfl n83 ini_X2 (by decide +kernel) ⟨Nat.le_of_ble_eq_true rfl, Nat.le_of_ble_eq_true rfl⟩), im_yX2_bytes, se_yX2_bytes⟩ ⟨x_blind, va_recv hK hP (ci := 2) (q0 := 5) rfl rfl, x_pre hK hP hD hN⟩ rfl rfl hl.1 rfl (lv_room (Nat.le_of_ble_eq_true rfl)) dX5_commit_127 ⟨Nat.zero_le _, Nat.zero_le _⟩) hS (fun H locs hP hD hS => ?_)
              have hP : va_P (dC, dI) vwCl (wS a cB cI cL h1 h2 s1 s2 op nx wt sf lf dn dg un ug (Q0.1 + 1) (va_up Q0.2.1 Q0.1 ((eg + 1) % 2)) (qhG Q0.1 P0.1 (eg + 1) nx P0.2 Q0.2.1 G0) tn tk tv ts ef eg ex eF P0.1 (eg + 1) nx P0.2) H := hP
              have hD : va_D A (wS a cB cI cL h1 h2 s1 s2 op nx wt sf lf dn dg un ug (Q0.1 + 1) (va_up Q0.2.1 Q0.1 ((eg + 1) % 2)) (qhG Q0.1 P0.1 (eg + 1) nx P0.2 Q0.2.1 G0) tn tk tv ts ef eg ex eF P0.1 (eg + 1) nx P0.2) := hD
              refine x_icmp_ge (tgt := 154) hx hb dX5_commit_130 (by decide) (by omega) (by omega) (fun c130 => ?_) (fun c130 => ?_)
              · exact absurd c130 (by omega)
              · refine lv_aload_n hx hb dX5_commit_133 rfl (lv_at hl 5 rfl) ?_
                refine va_get (D := (dC, dI)) (ci := 5) (v := .ref (a 5)) (C := RX5) (T := TX5) (N := 11) hx hb hts in_X5 hown hK hP 0 rfl rfl 2 (by decide) f28 (fun _ h9 => h9) rfl dX5_commit_134 ?_
                refine lv_aload_n hx hb dX5_commit_137 rfl (lv_at hl 5 rfl) ?_
                refine va_get (D := (dC, dI)) (ci := 5) (v := .ref (a 1)) (C := RX5) (T := TX5) (N := 11) hx hb hts in_X5 hown hK hP 0 rfl rfl 0 (by decide) f14 (fun _ h9 => h9) rfl dX5_commit_138 ?_
                refine lv_iload_n hx hb dX5_commit_141 rfl (lv_at hl 6 rfl) ?_
                refine x_calli (va_runVN (As := [.ref (a 1), .int (nI n)]) (rest := []) ⟨hx, hb, hml, hown, hts⟩ (c_Qu_drain (by omega) (by omega) (va_up_lt hQt (by omega)) (qhG_lt hGl) hdg n (by omega)) ⟨(va_cnB 2 hts (tbG tw_364) rfl rfl rfl n86 ini_X2 (by decide +kernel) ⟨Nat.le_of_ble_eq_true rfl, Nat.le_of_ble_eq_true rfl⟩), im_yX2_drain, se_yX2_drain⟩ ⟨x_blind, va_recv hK hP (ci := 2) (q0 := 5) rfl rfl, x_pre hK hP hD hN⟩ rfl rfl hl.1 rfl (lv_room (Nat.le_of_ble_eq_true rfl)) dX5_commit_142 ⟨Nat.zero_le _, Nat.zero_le _⟩) hS (fun H locs hP hD hS => ?_)
                have hP : va_P (dC, dI) vwCl (wS a cB cI cL h1 h2 s1 s2 op nx wt sf lf dn (qdr dn (va_up Q0.2.1 Q0.1 ((eg + 1) % 2)) (qhG Q0.1 P0.1 (eg + 1) nx P0.2 Q0.2.1 G0) (min n ((Q0.1 + 1) * 64)) 0 dg) un ug 0 (va_up Q0.2.1 Q0.1 ((eg + 1) % 2)) (qhG Q0.1 P0.1 (eg + 1) nx P0.2 Q0.2.1 G0) tn tk tv ts ef eg ex eF P0.1 (eg + 1) nx P0.2) H := hP
                have hD : va_D A (wS a cB cI cL h1 h2 s1 s2 op nx wt sf lf dn (qdr dn (va_up Q0.2.1 Q0.1 ((eg + 1) % 2)) (qhG Q0.1 P0.1 (eg + 1) nx P0.2 Q0.2.1 G0) (min n ((Q0.1 + 1) * 64)) 0 dg) un ug 0 (va_up Q0.2.1 Q0.1 ((eg + 1) % 2)) (qhG Q0.1 P0.1 (eg + 1) nx P0.2 Q0.2.1 G0) tn tk tv ts ef eg ex eF P0.1 (eg + 1) nx P0.2) := hD
                refine lv_pop hx hb dX5_commit_145 rfl ?_
                refine lv_aload_n hx hb dX5_commit_146 rfl (lv_at hl 5 rfl) ?_
                refine lv_iconst (v := nI 0) hx hb dX5_commit_147 (by decide) ?_
                refine x_top (y := bI false) rfl ?_
                refine va_put (D := (dC, dI)) (ci := 5) (v := .int (bI false)) (ty := .boolean) (C := RX5) (T := TX5) (N := 11) hx hb hts in_X5 tyX5 tyX5_ok nmX5 hown hK hP hD hS 0 rfl rfl 6 (by decide) f49 (fun _ h9 => h9) rfl (by decide +kernel) (x_narZ _) (x_fitZ _) (Nat.le_of_ble_eq_true rfl) dX5_commit_148 (fun H locs hP hD hS => ?_)
                have hP : va_P (dC, dI) vwCl (wS a cB cI cL h1 h2 s1 s2 false nx wt sf lf dn (qdr dn (va_up Q0.2.1 Q0.1 ((eg + 1) % 2)) (qhG Q0.1 P0.1 (eg + 1) nx P0.2 Q0.2.1 G0) (min n ((Q0.1 + 1) * 64)) 0 dg) un ug 0 (va_up Q0.2.1 Q0.1 ((eg + 1) % 2)) (qhG Q0.1 P0.1 (eg + 1) nx P0.2 Q0.2.1 G0) tn tk tv ts ef eg ex eF P0.1 (eg + 1) nx P0.2) H := hP
                have hD : va_D A (wS a cB cI cL h1 h2 s1 s2 false nx wt sf lf dn (qdr dn (va_up Q0.2.1 Q0.1 ((eg + 1) % 2)) (qhG Q0.1 P0.1 (eg + 1) nx P0.2 Q0.2.1 G0) (min n ((Q0.1 + 1) * 64)) 0 dg) un ug 0 (va_up Q0.2.1 Q0.1 ((eg + 1) % 2)) (qhG Q0.1 P0.1 (eg + 1) nx P0.2 Q0.2.1 G0) tn tk tv ts ef eg ex eF P0.1 (eg + 1) nx P0.2) := hD
                refine lv_bipush (v := (-2)) hx hb dX5_commit_151 (by decide) ?_
                exact hret dX5_commit_153 (by rfl) hP hD hS
            · exact absurd c92 hy9
      · exact absurd c31 (by omega)
    · exact absurd (ho.symm.trans c11) (by decide)
  · exact absurd (x_m1le hn1) c2

set_option maxHeartbeats 4000000 in
set_option maxRecDepth 100000 in
theorem c_SL_commitFA {l : Launch} {dC : Nat → ClassId} {dI : Nat → Nat → Nat} {A : Nat → Prop} {a : Nat → Nat} {cB cI cL : ClassId} {h1 h2 s1 s2 : Nat} {op : Bool} {nx wt sf lf dn : Nat} {dg : Nat → Nat} {un : Nat} {ug : Nat → Nat} {qn : Nat} {qt qg : Nat → Nat} {tn : Nat} {tk tv : Nat → Int64} {ts : Nat → Nat} {ef eg ex : Nat} {eF : Nat → Nat} {pf pg px : Nat} {pF : Nat → Nat} (hun : un ≤ 64) (htn : tn ≤ 192) (hug : ∀ j, ug j < 8) (hnx : nx < 2 ^ 30) (z : Int32) (hz : (-1) ≤ z) (ho : op = true) (hl0 : ex < nx) (hm : ef < 5) (hfr : ulr ug (((nx - ex) + 2) / 3) un 0 0 = none) : Met l yX5_commit (Cond.code yX5_commit cX5_commit 7 (some .int) :: TB) { frames := 5, cells := 0, slots := 0, locals := 124 } (xPre Nst (dC, dI) A (tyS cB cI cL) (wS a cB cI cL h1 h2 s1 s2 op nx wt sf lf dn dg un ug qn qt qg tn tk tv ts ef eg ex eF pf pg px pF) [.ref (a 0), .int (z)]) (xQi (dC, dI) A ((-3)) (wS a cB cI cL h1 h2 s1 s2 op nx wt sf lf dn dg un ug qn qt qg tn tk tv ts ef eg ex eF pf pg px pF)) 0 0 A := by
  refine x_ofWi (cc := cX5_commit) (maxL := 7) (by decide) rfl (Nat.le_of_ble_eq_true rfl) ?_
  intro p e s m args below meth c Q hx hb hml hts hown hK hN hP hD hS hret ls hl
  have hl : lv_has ls 7 [(0, .ref (a 0)), (1, .int (z))] := hl
  have hown : s.vm.findClass RX5 = some m.cls := hown
  have f49 := hts _ (List.mem_cons_of_mem _ tw_213)
  have in_X5 := (fun q hq => List.mem_cons_of_mem _ (inX5 q hq) : ∀ q ∈ wsX50, q ∈ (Cond.code yX5_commit cX5_commit 7 (some .int) :: TB))
  have f53 := hts _ (List.mem_cons_of_mem _ tw_214)
  have f42 := hts _ (List.mem_cons_of_mem _ tw_211)
  have f90 := hN (.fieldLinkNest RX5 90 "SegmentLog$Head" "next" "I" "SegmentLog") (by decide +kernel)
  have in_X1 := (fun q hq => List.mem_cons_of_mem _ (inX1 q hq) : ∀ q ∈ wsX10, q ∈ (Cond.code yX5_commit cX5_commit 7 (some .int) :: TB))
  have f91 := hN (.fieldLinkNest RX5 91 "SegmentLog$Head" "files" "I" "SegmentLog") (by decide +kernel)
  have f21 := hts _ (List.mem_cons_of_mem _ tw_208)
  have n101 := hN (.methodLinkNest RX5 101 yX4_leastRun "SegmentLog") (by decide +kernel)
  have ini_X4 := hts _ (List.mem_cons_of_mem _ tw_86)
  have im_yX4_leastRun := hts _ (List.mem_cons_of_mem _ tw_285)
  have se_yX4_leastRun := hts _ (List.mem_cons_of_mem _ tw_11)
  refine lv_iload_n hx hb dX5_commit_0 rfl (lv_at hl 1 rfl) ?_
  refine lv_iconst (v := (-1)) hx hb dX5_commit_1 (by decide) ?_
  refine lv_icmp_ge (tgt := 7) hx hb dX5_commit_2 (by decide) (fun c2 => ?_) (fun c2 => ?_)
  · refine lv_aload_n hx hb dX5_commit_7 rfl (lv_at hl 0 rfl) ?_
    refine va_get (D := (dC, dI)) (ci := 5) (v := .int (bI op)) (C := RX5) (T := TX5) (N := 11) hx hb hts in_X5 hown hK hP 0 rfl rfl 6 (by decide) f49 (fun _ h9 => h9) rfl dX5_commit_8 ?_
    refine x_if_ne_b (tgt := 17) hx hb dX5_commit_11 (by decide) (fun c11 => ?_) (fun c11 => ?_)
    · refine lv_aload_n hx hb dX5_commit_17 rfl (lv_at hl 0 rfl) ?_
      refine va_get (D := (dC, dI)) (ci := 5) (v := .int (nI nx)) (C := RX5) (T := TX5) (N := 11) hx hb hts in_X5 hown hK hP 0 rfl rfl 7 (by decide) f53 (fun _ h9 => h9) rfl dX5_commit_18 ?_
      refine lv_aload_n hx hb dX5_commit_21 rfl (lv_at hl 0 rfl) ?_
      refine va_get (D := (dC, dI)) (ci := 5) (v := .ref h1) (C := RX5) (T := TX5) (N := 11) hx hb hts in_X5 hown hK hP 0 rfl rfl 4 (by decide) f42 (fun _ h9 => h9) rfl dX5_commit_22 ?_
      refine va_getN (D := (dC, dI)) (ci := 1) (v := .int (nI ex)) (C := RX1) (T := TX1) (N := 4) hx hb hts in_X1 hown hK hP 13 rfl rfl 3 (by decide) (va_Nw.use (A := args) rfl f90) (fun _ h9 => h9) rfl dX5_commit_25 ?_
      refine x_isub hx hb dX5_commit_28 (by omega) ?_
      refine lv_istore_n (lv' := [(2, .int (nI (nx - ex))), (0, .ref (a 0)), (1, .int (z))]) hx hb dX5_commit_29 rfl hl (by decide) rfl (fun ls hl => ?_)
      refine lv_iload_n hx hb dX5_commit_30 rfl (lv_at hl 0 rfl) ?_
      refine x_if_gt (tgt := 36) hx hb dX5_commit_31 (by decide) (by omega) (fun c31 => ?_) (fun c31 => ?_)
      · refine lv_aload_n hx hb dX5_commit_36 rfl (lv_at hl 1 rfl) ?_
        refine va_get (D := (dC, dI)) (ci := 5) (v := .ref h1) (C := RX5) (T := TX5) (N := 11) hx hb hts in_X5 hown hK hP 0 rfl rfl 4 (by decide) f42 (fun _ h9 => h9) rfl dX5_commit_37 ?_
        refine va_getN (D := (dC, dI)) (ci := 1) (v := .int (nI ef)) (C := RX1) (T := TX1) (N := 4) hx hb hts in_X1 hown hK hP 13 rfl rfl 1 (by decide) (va_Nw.use (A := args) rfl f91) (fun _ h9 => h9) rfl dX5_commit_40 ?_
        refine lv_iconst (v := nI 5) hx hb dX5_commit_43 (by decide) ?_
        refine x_icmp_ne (tgt := 51) hx hb dX5_commit_44 (by decide) (by omega) (by omega) (fun c44 => ?_) (fun c44 => ?_)
        · refine lv_iconst (v := nI 0) hx hb dX5_commit_51 (by decide) ?_
          refine x_top (y := bI false) rfl ?_
          refine lv_istore_n (lv' := [(3, .int (bI false)), (2, .int (nI (nx - ex))), (0, .ref (a 0)), (1, .int (z))]) hx hb dX5_commit_52 rfl hl (by decide) rfl (fun ls hl => ?_)
          refine lv_iload_n hx hb dX5_commit_53 rfl (lv_at hl 0 rfl) ?_
          refine x_if_eq_b (tgt := 67) hx hb dX5_commit_54 (by decide) (fun c54 => ?_) (fun c54 => ?_)
          · refine lv_iload_n hx hb dX5_commit_67 rfl (lv_at hl 1 rfl) ?_
            refine lv_istore (lv' := [(4, .int (nI (nx - ex))), (3, .int (bI false)), (2, .int (nI (nx - ex))), (0, .ref (a 0)), (1, .int (z))]) hx hb dX5_commit_68 hl (by decide) rfl (fun ls hl => ?_)
            refine lv_iload hx hb dX5_commit_70 (lv_at hl 0 rfl) ?_
            refine x_calli (va_runS (As := [.int (nI (nx - ex))]) (rest := []) ⟨hx, hb, hml, hown, hts⟩ (c_SL_blocksFor (nx - ex) (by omega)) (va_cwS 1 hts (tbS tw_372 tw_373 tw_84 tw_374) rfl rfl rfl (by decide +kernel) ⟨Nat.le_of_ble_eq_true rfl, Nat.le_of_ble_eq_true rfl⟩) ⟨x_blind, x_pre hK hP hD hN⟩ rfl rfl hl.1 rfl (lv_room (Nat.le_of_ble_eq_true rfl)) dX5_commit_72 ⟨Nat.zero_le _, Nat.zero_le _⟩) hS (fun H locs hP hD hS => ?_)
            have hP : va_P (dC, dI) vwCl (wS a cB cI cL h1 h2 s1 s2 op nx wt sf lf dn dg un ug qn qt qg tn tk tv ts ef eg ex eF pf pg px pF) H := hP
            have hD : va_D A (wS a cB cI cL h1 h2 s1 s2 op nx wt sf lf dn dg un ug qn qt qg tn tk tv ts ef eg ex eF pf pg px pF) := hD
            refine lv_istore (lv' := [(5, .int (nI ((nx - ex + 2) / 3))), (4, .int (nI (nx - ex))), (3, .int (bI false)), (2, .int (nI (nx - ex))), (0, .ref (a 0)), (1, .int (z))]) hx hb dX5_commit_75 hl (by decide) rfl (fun ls hl => ?_)
            refine lv_aload_n hx hb dX5_commit_77 rfl (lv_at hl 4 rfl) ?_
            refine va_get (D := (dC, dI)) (ci := 5) (v := .ref (a 3)) (C := RX5) (T := TX5) (N := 11) hx hb hts in_X5 hown hK hP 0 rfl rfl 1 (by decide) f21 (fun _ h9 => h9) rfl dX5_commit_78 ?_
            refine lv_iload hx hb dX5_commit_81 (lv_at hl 0 rfl) ?_
            refine x_calli (va_runVN (As := [.int (nI ((nx - ex + 2) / 3))]) (rest := []) ⟨hx, hb, hml, hown, hts⟩ (c_Us_leastRun (show okU (fun ug' => wS a cB cI cL h1 h2 s1 s2 op nx wt sf lf dn dg un ug' qn qt qg tn tk tv ts ef eg ex eF pf pg px pF) 3 4 (a 3) (a 4) cI un from ⟨fun _ => rfl, fun _ => rfl, fun _ _ => rfl⟩) (tyS_I cB cI cL) (by omega) ug hug ((nx - ex + 2) / 3) (by omega) (by omega)) ⟨(va_cnB 1 hts (tbG tw_286) rfl rfl rfl n101 ini_X4 (by decide +kernel) ⟨Nat.le_of_ble_eq_true rfl, Nat.le_of_ble_eq_true rfl⟩), im_yX4_leastRun, se_yX4_leastRun⟩ ⟨x_blind, va_recv hK hP (ci := 4) (q0 := 3) rfl rfl, x_pre hK hP hD hN⟩ rfl rfl hl.1 rfl (lv_room (Nat.le_of_ble_eq_true rfl)) dX5_commit_83 ⟨Nat.zero_le _, Nat.zero_le _⟩) hS (fun H locs hP hD hS => ?_)
            have hP : va_P (dC, dI) vwCl (wS a cB cI cL h1 h2 s1 s2 op nx wt sf lf dn dg un ug qn qt qg tn tk tv ts ef eg ex eF pf pg px pF) H := hP
            have hD : va_D A (wS a cB cI cL h1 h2 s1 s2 op nx wt sf lf dn dg un ug qn qt qg tn tk tv ts ef eg ex eF pf pg px pF) := hD
            refine lv_istore (lv' := [(6, .int (oI (ulr ug ((nx - ex + 2) / 3) un 0 0))), (5, .int (nI ((nx - ex + 2) / 3))), (4, .int (nI (nx - ex))), (3, .int (bI false)), (2, .int (nI (nx - ex))), (0, .ref (a 0)), (1, .int (z))]) hx hb dX5_commit_86 hl (by decide) rfl (fun ls hl => ?_)
            refine lv_iload hx hb dX5_commit_88 (lv_at hl 0 rfl) ?_
            refine lv_bipush (v := (-2)) hx hb dX5_commit_90 (by decide) ?_
            refine lv_icmp_ne (tgt := 98) hx hb dX5_commit_92 (by decide) (fun c92 => ?_) (fun c92 => ?_)
            · exact absurd (show oI _ = (-2 : Int32) by rw [hfr]; rfl) c92
            · refine lv_bipush (v := (-3)) hx hb dX5_commit_95 (by decide) ?_
              exact hret dX5_commit_97 (by rfl) hP hD hS
          · cases c54
        · exact absurd c44 (by omega)
      · exact absurd c31 (by omega)
    · exact absurd (ho.symm.trans c11) (by decide)
  · exact absurd hz c2

set_option maxHeartbeats 4000000 in
set_option maxRecDepth 100000 in
theorem c_SL_commitGAn {l : Launch} {dC : Nat → ClassId} {dI : Nat → Nat → Nat} {A : Nat → Prop} {a : Nat → Nat} {cB cI cL : ClassId} {h1 h2 s1 s2 : Nat} {op : Bool} {nx wt sf lf dn : Nat} {dg : Nat → Nat} {un : Nat} {ug : Nat → Nat} {qn : Nat} {qt qg : Nat → Nat} {tn : Nat} {tk tv : Nat → Int64} {ts : Nat → Nat} {ef eg ex : Nat} {eF : Nat → Nat} {pf pg px : Nat} {pF : Nat → Nat} (hdn : dn ≤ 64) (hun : un ≤ 64) (hqn : qn ≤ 64) (htn : tn ≤ 192) (hdg : ∀ j, dg j < 256) (hug : ∀ j, ug j < 8) (hqt : ∀ j, qt j < 64) (hqg : ∀ j, qg j < 256) (hs : ∀ j, ts j < 2 ^ 31) (heF : ∀ j, eF j < 1048576) (hpF : ∀ j, pF j < 1048576) (hef : ef ≤ 5) (hnx : nx < 2 ^ 30) (hwt : wt ≤ nx) (heg : eg < 2 ^ 30) (hlf : lf < 2 ^ 18) (hex : ex < 2 ^ 30) (y : Nat) (P0 : Nat × (Nat → Nat)) (Q0 : QS) (G0 : Nat → Nat) (z : Int32) (hz : (-1) ≤ z) (hzn : z < 0) (ho : op = true) (hl0 : ex < nx) (hm : ef < 5) (hfr : ulr ug (((nx - ex) + 2) / 3) un 0 0 = some y) (hP0 : plh false ef eF pF lf y (((nx - ex) + 2) / 3) (nx - ex) = P0) (hf0 : 0 < P0.1) (hf5 : P0.1 ≤ 5) (hfn : hfl P0.1 P0.2 (P0.1 - 1) 0 = lf + 1) (hfy : hfl P0.1 P0.2 (P0.1 - 1) 1 = y) (hfb : hfl P0.1 P0.2 (P0.1 - 1) 2 = (((nx - ex) + 2) / 3)) (hfr3 : hfl P0.1 P0.2 (P0.1 - 1) 3 = (nx - ex)) (hQ0 : qf1 (((nx - ex) + 2) / 3) (nx - ex) y (lf + 1) (((nx - ex) + 2) / 3) 0 (qn, qt, qg) = Q0) (hG0 : qf3 qn Q0.2.1 (((nx - ex) + 2) / 3) 0 (qf2 false qn tk tv ts tn 0 0 Q0.2.2) = G0) (hqb : qn + (((nx - ex) + 2) / 3) < 64) (hyb : y + (((nx - ex) + 2) / 3) ≤ 64) (heg1 : eg + 1 < 2 ^ 30) : Met l yX5_commit (Cond.code yX5_commit cX5_commit 7 (some .int) :: TB) { frames := 5, cells := 0, slots := 0, locals := 124 } (xPre Nst (dC, dI) A (tyS cB cI cL) (wS a cB cI cL h1 h2 s1 s2 op nx wt sf lf dn dg un ug qn qt qg tn tk tv ts ef eg ex eF pf pg px pF) [.ref (a 0), .int (z)]) (xQi (dC, dI) A (nI (eg + 1)) (wS a cB cI cL s1 s2 h1 h2 op nx 0 (nx - 1) (lf + 1) dn (qdr dn (va_up Q0.2.1 Q0.1 ((eg + 1) % 2)) (qhG Q0.1 P0.1 (eg + 1) nx P0.2 Q0.2.1 G0) (min ((Q0.1 + 1) * 64) ((Q0.1 + 1) * 64)) 0 dg) un (umk un y 2 (((nx - ex) + 2) / 3) (tkU false un ug) 0) 0 (va_up Q0.2.1 Q0.1 ((eg + 1) % 2)) (qhG Q0.1 P0.1 (eg + 1) nx P0.2 Q0.2.1 G0) tn tk tv (tset tn ts 0) P0.1 (eg + 1) nx P0.2 ef eg ex eF)) 0 0 A := by
  refine x_ofWi (cc := cX5_commit) (maxL := 7) (by decide) rfl (Nat.le_of_ble_eq_true rfl) ?_
  intro p e s m args below meth c Q hx hb hml hts hown hK hN hP hD hS hret ls hl
  have hl : lv_has ls 7 [(0, .ref (a 0)), (1, .int (z))] := hl
  have hown : s.vm.findClass RX5 = some m.cls := hown
  have hPl : ∀ j, P0.2 j < 1048576 := by rw [← hP0]; exact plh_lt heF hpF (by omega) (by omega) (by omega) (by omega)
  have hQt : ∀ j, Q0.2.1 j < 64 := by rw [← hQ0]; exact qf1_t (by omega) hqt
  have hQg : ∀ j, Q0.2.2 j < 256 := by rw [← hQ0]; exact qf1_g hqg
  have hQn : Q0.1 = qn + (((nx - ex) + 2) / 3) := by rw [← hQ0]; exact qf1_n
  have hGl : ∀ j, G0 j < 256 := by rw [← hG0]; exact qf3_lt (qf2_lt hQg)
  have hy9 : ¬ nI y = (-2 : Int32) := fun q => absurd (show (nI y) < 0 by rw [q]; decide) (nI_pos (by omega))
  have f49 := hts _ (List.mem_cons_of_mem _ tw_213)
  have in_X5 := (fun q hq => List.mem_cons_of_mem _ (inX5 q hq) : ∀ q ∈ wsX50, q ∈ (Cond.code yX5_commit cX5_commit 7 (some .int) :: TB))
  have f53 := hts _ (List.mem_cons_of_mem _ tw_214)
  have f42 := hts _ (List.mem_cons_of_mem _ tw_211)
  have f90 := hN (.fieldLinkNest RX5 90 "SegmentLog$Head" "next" "I" "SegmentLog") (by decide +kernel)
  have in_X1 := (fun q hq => List.mem_cons_of_mem _ (inX1 q hq) : ∀ q ∈ wsX10, q ∈ (Cond.code yX5_commit cX5_commit 7 (some .int) :: TB))
  have f91 := hN (.fieldLinkNest RX5 91 "SegmentLog$Head" "files" "I" "SegmentLog") (by decide +kernel)
  have f21 := hts _ (List.mem_cons_of_mem _ tw_208)
  have n101 := hN (.methodLinkNest RX5 101 yX4_leastRun "SegmentLog") (by decide +kernel)
  have ini_X4 := hts _ (List.mem_cons_of_mem _ tw_86)
  have im_yX4_leastRun := hts _ (List.mem_cons_of_mem _ tw_285)
  have se_yX4_leastRun := hts _ (List.mem_cons_of_mem _ tw_11)
  have f28 := hts _ (List.mem_cons_of_mem _ tw_209)
  have f14 := hts _ (List.mem_cons_of_mem _ tw_207)
  have n83 := hN (.methodLinkNest RX5 83 yX2_bytes "SegmentLog") (by decide +kernel)
  have ini_X2 := hts _ (List.mem_cons_of_mem _ tw_88)
  have im_yX2_bytes := hts _ (List.mem_cons_of_mem _ tw_359)
  have se_yX2_bytes := hts _ (List.mem_cons_of_mem _ tw_26)
  have n86 := hN (.methodLinkNest RX5 86 yX2_drain "SegmentLog") (by decide +kernel)
  have im_yX2_drain := hts _ (List.mem_cons_of_mem _ tw_363)
  have se_yX2_drain := hts _ (List.mem_cons_of_mem _ tw_27)
  have f118 := hN (.fieldLinkNest RX5 118 "SegmentLog$Head" "generation" "I" "SegmentLog") (by decide +kernel)
  refine lv_iload_n hx hb dX5_commit_0 rfl (lv_at hl 1 rfl) ?_
  refine lv_iconst (v := (-1)) hx hb dX5_commit_1 (by decide) ?_
  refine lv_icmp_ge (tgt := 7) hx hb dX5_commit_2 (by decide) (fun c2 => ?_) (fun c2 => ?_)
  · refine lv_aload_n hx hb dX5_commit_7 rfl (lv_at hl 0 rfl) ?_
    refine va_get (D := (dC, dI)) (ci := 5) (v := .int (bI op)) (C := RX5) (T := TX5) (N := 11) hx hb hts in_X5 hown hK hP 0 rfl rfl 6 (by decide) f49 (fun _ h9 => h9) rfl dX5_commit_8 ?_
    refine x_if_ne_b (tgt := 17) hx hb dX5_commit_11 (by decide) (fun c11 => ?_) (fun c11 => ?_)
    · refine lv_aload_n hx hb dX5_commit_17 rfl (lv_at hl 0 rfl) ?_
      refine va_get (D := (dC, dI)) (ci := 5) (v := .int (nI nx)) (C := RX5) (T := TX5) (N := 11) hx hb hts in_X5 hown hK hP 0 rfl rfl 7 (by decide) f53 (fun _ h9 => h9) rfl dX5_commit_18 ?_
      refine lv_aload_n hx hb dX5_commit_21 rfl (lv_at hl 0 rfl) ?_
      refine va_get (D := (dC, dI)) (ci := 5) (v := .ref h1) (C := RX5) (T := TX5) (N := 11) hx hb hts in_X5 hown hK hP 0 rfl rfl 4 (by decide) f42 (fun _ h9 => h9) rfl dX5_commit_22 ?_
      refine va_getN (D := (dC, dI)) (ci := 1) (v := .int (nI ex)) (C := RX1) (T := TX1) (N := 4) hx hb hts in_X1 hown hK hP 13 rfl rfl 3 (by decide) (va_Nw.use (A := args) rfl f90) (fun _ h9 => h9) rfl dX5_commit_25 ?_
      refine x_isub hx hb dX5_commit_28 (by omega) ?_
      refine lv_istore_n (lv' := [(2, .int (nI (nx - ex))), (0, .ref (a 0)), (1, .int (z))]) hx hb dX5_commit_29 rfl hl (by decide) rfl (fun ls hl => ?_)
      refine lv_iload_n hx hb dX5_commit_30 rfl (lv_at hl 0 rfl) ?_
      refine x_if_gt (tgt := 36) hx hb dX5_commit_31 (by decide) (by omega) (fun c31 => ?_) (fun c31 => ?_)
      · refine lv_aload_n hx hb dX5_commit_36 rfl (lv_at hl 1 rfl) ?_
        refine va_get (D := (dC, dI)) (ci := 5) (v := .ref h1) (C := RX5) (T := TX5) (N := 11) hx hb hts in_X5 hown hK hP 0 rfl rfl 4 (by decide) f42 (fun _ h9 => h9) rfl dX5_commit_37 ?_
        refine va_getN (D := (dC, dI)) (ci := 1) (v := .int (nI ef)) (C := RX1) (T := TX1) (N := 4) hx hb hts in_X1 hown hK hP 13 rfl rfl 1 (by decide) (va_Nw.use (A := args) rfl f91) (fun _ h9 => h9) rfl dX5_commit_40 ?_
        refine lv_iconst (v := nI 5) hx hb dX5_commit_43 (by decide) ?_
        refine x_icmp_ne (tgt := 51) hx hb dX5_commit_44 (by decide) (by omega) (by omega) (fun c44 => ?_) (fun c44 => ?_)
        · refine lv_iconst (v := nI 0) hx hb dX5_commit_51 (by decide) ?_
          refine x_top (y := bI false) rfl ?_
          refine lv_istore_n (lv' := [(3, .int (bI false)), (2, .int (nI (nx - ex))), (0, .ref (a 0)), (1, .int (z))]) hx hb dX5_commit_52 rfl hl (by decide) rfl (fun ls hl => ?_)
          refine lv_iload_n hx hb dX5_commit_53 rfl (lv_at hl 0 rfl) ?_
          refine x_if_eq_b (tgt := 67) hx hb dX5_commit_54 (by decide) (fun c54 => ?_) (fun c54 => ?_)
          · refine lv_iload_n hx hb dX5_commit_67 rfl (lv_at hl 1 rfl) ?_
            refine lv_istore (lv' := [(4, .int (nI (nx - ex))), (3, .int (bI false)), (2, .int (nI (nx - ex))), (0, .ref (a 0)), (1, .int (z))]) hx hb dX5_commit_68 hl (by decide) rfl (fun ls hl => ?_)
            refine lv_iload hx hb dX5_commit_70 (lv_at hl 0 rfl) ?_
            refine x_calli (va_runS (As := [.int (nI (nx - ex))]) (rest := []) ⟨hx, hb, hml, hown, hts⟩ (c_SL_blocksFor (nx - ex) (by omega)) (va_cwS 1 hts (tbS tw_372 tw_373 tw_84 tw_374) rfl rfl rfl (by decide +kernel) ⟨Nat.le_of_ble_eq_true rfl, Nat.le_of_ble_eq_true rfl⟩) ⟨x_blind, x_pre hK hP hD hN⟩ rfl rfl hl.1 rfl (lv_room (Nat.le_of_ble_eq_true rfl)) dX5_commit_72 ⟨Nat.zero_le _, Nat.zero_le _⟩) hS (fun H locs hP hD hS => ?_)
            have hP : va_P (dC, dI) vwCl (wS a cB cI cL h1 h2 s1 s2 op nx wt sf lf dn dg un ug qn qt qg tn tk tv ts ef eg ex eF pf pg px pF) H := hP
            have hD : va_D A (wS a cB cI cL h1 h2 s1 s2 op nx wt sf lf dn dg un ug qn qt qg tn tk tv ts ef eg ex eF pf pg px pF) := hD
            refine lv_istore (lv' := [(5, .int (nI ((nx - ex + 2) / 3))), (4, .int (nI (nx - ex))), (3, .int (bI false)), (2, .int (nI (nx - ex))), (0, .ref (a 0)), (1, .int (z))]) hx hb dX5_commit_75 hl (by decide) rfl (fun ls hl => ?_)
            refine lv_aload_n hx hb dX5_commit_77 rfl (lv_at hl 4 rfl) ?_
            refine va_get (D := (dC, dI)) (ci := 5) (v := .ref (a 3)) (C := RX5) (T := TX5) (N := 11) hx hb hts in_X5 hown hK hP 0 rfl rfl 1 (by decide) f21 (fun _ h9 => h9) rfl dX5_commit_78 ?_
            refine lv_iload hx hb dX5_commit_81 (lv_at hl 0 rfl) ?_
            refine x_calli (va_runVN (As := [.int (nI ((nx - ex + 2) / 3))]) (rest := []) ⟨hx, hb, hml, hown, hts⟩ (c_Us_leastRun (show okU (fun ug' => wS a cB cI cL h1 h2 s1 s2 op nx wt sf lf dn dg un ug' qn qt qg tn tk tv ts ef eg ex eF pf pg px pF) 3 4 (a 3) (a 4) cI un from ⟨fun _ => rfl, fun _ => rfl, fun _ _ => rfl⟩) (tyS_I cB cI cL) (by omega) ug hug ((nx - ex + 2) / 3) (by omega) (by omega)) ⟨(va_cnB 1 hts (tbG tw_286) rfl rfl rfl n101 ini_X4 (by decide +kernel) ⟨Nat.le_of_ble_eq_true rfl, Nat.le_of_ble_eq_true rfl⟩), im_yX4_leastRun, se_yX4_leastRun⟩ ⟨x_blind, va_recv hK hP (ci := 4) (q0 := 3) rfl rfl, x_pre hK hP hD hN⟩ rfl rfl hl.1 rfl (lv_room (Nat.le_of_ble_eq_true rfl)) dX5_commit_83 ⟨Nat.zero_le _, Nat.zero_le _⟩) hS (fun H locs hP hD hS => ?_)
            have hP : va_P (dC, dI) vwCl (wS a cB cI cL h1 h2 s1 s2 op nx wt sf lf dn dg un ug qn qt qg tn tk tv ts ef eg ex eF pf pg px pF) H := hP
            have hD : va_D A (wS a cB cI cL h1 h2 s1 s2 op nx wt sf lf dn dg un ug qn qt qg tn tk tv ts ef eg ex eF pf pg px pF) := hD
            refine lv_istore (lv' := [(6, .int (oI (ulr ug ((nx - ex + 2) / 3) un 0 0))), (5, .int (nI ((nx - ex + 2) / 3))), (4, .int (nI (nx - ex))), (3, .int (bI false)), (2, .int (nI (nx - ex))), (0, .ref (a 0)), (1, .int (z))]) hx hb dX5_commit_86 hl (by decide) rfl (fun ls hl => ?_)
            rw [hfr] at hl
            have hl : lv_has ls 7 [(6, .int (nI y)), (5, .int (nI ((nx - ex + 2) / 3))), (4, .int (nI (nx - ex))), (3, .int (bI false)), (2, .int (nI (nx - ex))), (0, .ref (a 0)), (1, .int (z))] := hl
            refine lv_iload hx hb dX5_commit_88 (lv_at hl 0 rfl) ?_
            refine lv_bipush (v := (-2)) hx hb dX5_commit_90 (by decide) ?_
            refine lv_icmp_ne (tgt := 98) hx hb dX5_commit_92 (by decide) (fun c92 => ?_) (fun c92 => ?_)
            · refine lv_aload_n hx hb dX5_commit_98 rfl (lv_at hl 5 rfl) ?_
              refine lv_iload_n hx hb dX5_commit_99 rfl (lv_at hl 3 rfl) ?_
              refine lv_iload hx hb dX5_commit_100 (lv_at hl 0 rfl) ?_
              refine lv_iload hx hb dX5_commit_102 (lv_at hl 1 rfl) ?_
              refine lv_iload hx hb dX5_commit_104 (lv_at hl 2 rfl) ?_
              refine x_callv (va_runV (As := [.int (bI false), .int (nI y), .int (nI ((nx - ex + 2) / 3)), .int (nI (nx - ex))]) (rest := []) ⟨hx, hb, hml, hown, hts⟩ (c_SL_planHead heF hpF (by omega) (by omega) (by omega) (by omega) false y (((nx - ex) + 2) / 3) (nx - ex) (by omega) (by omega) (by omega) (fun q => by first | omega | cases q)) (cwV 4 hts (tbV tw_376 tw_378 tw_28 tw_84 tw_379) rfl rfl rfl (by decide +kernel) ⟨Nat.le_of_ble_eq_true rfl, Nat.le_of_ble_eq_true rfl⟩) ⟨x_blind, va_recv hK hP (ci := 5) (q0 := 0) rfl rfl, x_pre hK hP hD hN⟩ rfl rfl hl.1 rfl (lv_room (Nat.le_of_ble_eq_true rfl)) dX5_commit_106 ⟨Nat.zero_le _, Nat.zero_le _⟩) hS (fun H locs hP hD hS => ?_)
              rw [hP0] at hP hD
              have hP : va_P (dC, dI) vwCl (wS a cB cI cL h1 h2 s1 s2 op nx wt sf lf dn dg un ug qn qt qg tn tk tv ts ef eg ex eF P0.1 (eg + 1) nx P0.2) H := hP
              have hD : va_D A (wS a cB cI cL h1 h2 s1 s2 op nx wt sf lf dn dg un ug qn qt qg tn tk tv ts ef eg ex eF P0.1 (eg + 1) nx P0.2) := hD
              refine lv_aload_n hx hb dX5_commit_109 rfl (lv_at hl 5 rfl) ?_
              refine lv_iload_n hx hb dX5_commit_110 rfl (lv_at hl 3 rfl) ?_
              refine x_callv (va_runV (As := [.int (bI false)]) (rest := []) ⟨hx, hb, hml, hown, hts⟩ (c_SL_queueFile (by omega) (by omega) hqt hqg hs hPl (by omega) false (((nx - ex) + 2) / 3) (nx - ex) y (lf + 1) hfb hfr3 hfy hfn (by omega) rfl (by omega) (by omega) (by omega)) (cwV 1 hts (tbV tw_393 tw_395 tw_32 tw_84 tw_396) rfl rfl rfl (by decide +kernel) ⟨Nat.le_of_ble_eq_true rfl, Nat.le_of_ble_eq_true rfl⟩) ⟨x_blind, va_recv hK hP (ci := 5) (q0 := 0) rfl rfl, x_pre hK hP hD hN⟩ rfl rfl hl.1 rfl (lv_room (Nat.le_of_ble_eq_true rfl)) dX5_commit_111 ⟨Nat.zero_le _, Nat.zero_le _⟩) hS (fun H locs hP hD hS => ?_)
              rw [hQ0, hG0] at hP hD
              have hP : va_P (dC, dI) vwCl (wS a cB cI cL h1 h2 s1 s2 op nx wt sf lf dn dg un ug Q0.1 Q0.2.1 G0 tn tk tv ts ef eg ex eF P0.1 (eg + 1) nx P0.2) H := hP
              have hD : va_D A (wS a cB cI cL h1 h2 s1 s2 op nx wt sf lf dn dg un ug Q0.1 Q0.2.1 G0 tn tk tv ts ef eg ex eF P0.1 (eg + 1) nx P0.2) := hD
              refine lv_aload_n hx hb dX5_commit_114 rfl (lv_at hl 5 rfl) ?_
              refine x_callv (va_runV (As := []) (rest := []) ⟨hx, hb, hml, hown, hts⟩ (c_SL_queueHead (by omega) hQt hGl hPl (by omega) (by omega) (by omega) (by omega)) (cwV 0 hts (tbV tw_406 tw_408 tw_34 tw_84 tw_409) rfl rfl rfl (by decide +kernel) ⟨Nat.le_of_ble_eq_true rfl, Nat.le_of_ble_eq_true rfl⟩) ⟨x_blind, va_recv hK hP (ci := 5) (q0 := 0) rfl rfl, x_pre hK hP hD hN⟩ rfl rfl hl.1 rfl (lv_room (Nat.le_of_ble_eq_true rfl)) dX5_commit_115 ⟨Nat.zero_le _, Nat.zero_le _⟩) hS (fun H locs hP hD hS => ?_)
              have hP : va_P (dC, dI) vwCl (wS a cB cI cL h1 h2 s1 s2 op nx wt sf lf dn dg un ug (Q0.1 + 1) (va_up Q0.2.1 Q0.1 ((eg + 1) % 2)) (qhG Q0.1 P0.1 (eg + 1) nx P0.2 Q0.2.1 G0) tn tk tv ts ef eg ex eF P0.1 (eg + 1) nx P0.2) H := hP
              have hD : va_D A (wS a cB cI cL h1 h2 s1 s2 op nx wt sf lf dn dg un ug (Q0.1 + 1) (va_up Q0.2.1 Q0.1 ((eg + 1) % 2)) (qhG Q0.1 P0.1 (eg + 1) nx P0.2 Q0.2.1 G0) tn tk tv ts ef eg ex eF P0.1 (eg + 1) nx P0.2) := hD
              refine lv_iload_n hx hb dX5_commit_118 rfl (lv_at hl 6 rfl) ?_
              refine lv_if_lt (tgt := 154) hx hb dX5_commit_119 (by decide) (fun c119 => ?_) (fun c119 => ?_)
              · refine lv_aload_n hx hb dX5_commit_154 rfl (lv_at hl 5 rfl) ?_
                refine va_get (D := (dC, dI)) (ci := 5) (v := .ref (a 5)) (C := RX5) (T := TX5) (N := 11) hx hb hts in_X5 hown hK hP 0 rfl rfl 2 (by decide) f28 (fun _ h9 => h9) rfl dX5_commit_155 ?_
                refine lv_aload_n hx hb dX5_commit_158 rfl (lv_at hl 5 rfl) ?_
                refine va_get (D := (dC, dI)) (ci := 5) (v := .ref (a 1)) (C := RX5) (T := TX5) (N := 11) hx hb hts in_X5 hown hK hP 0 rfl rfl 0 (by decide) f14 (fun _ h9 => h9) rfl dX5_commit_159 ?_
                refine lv_aload_n hx hb dX5_commit_162 rfl (lv_at hl 5 rfl) ?_
                refine va_get (D := (dC, dI)) (ci := 5) (v := .ref (a 5)) (C := RX5) (T := TX5) (N := 11) hx hb hts in_X5 hown hK hP 0 rfl rfl 2 (by decide) f28 (fun _ h9 => h9) rfl dX5_commit_163 ?_
                refine x_calli (va_runVN (As := []) (rest := [.ref (a 1), .ref (a 5)]) ⟨hx, hb, hml, hown, hts⟩ c_Qu_bytes ⟨(va_cnB 0 hts (tbG tw_360) rfl rfl rfl n83 ini_X2 (by decide +kernel) ⟨Nat.le_of_ble_eq_true rfl, Nat.le_of_ble_eq_true rfl⟩), im_yX2_bytes, se_yX2_bytes⟩ ⟨x_blind, va_recv hK hP (ci := 2) (q0 := 5) rfl rfl, x_pre hK hP hD hN⟩ rfl rfl hl.1 rfl (lv_room (Nat.le_of_ble_eq_true rfl)) dX5_commit_166 ⟨Nat.zero_le _, Nat.zero_le _⟩) hS (fun H locs hP hD hS => ?_)
                have hP : va_P (dC, dI) vwCl (wS a cB cI cL h1 h2 s1 s2 op nx wt sf lf dn dg un ug (Q0.1 + 1) (va_up Q0.2.1 Q0.1 ((eg + 1) % 2)) (qhG Q0.1 P0.1 (eg + 1) nx P0.2 Q0.2.1 G0) tn tk tv ts ef eg ex eF P0.1 (eg + 1) nx P0.2) H := hP
                have hD : va_D A (wS a cB cI cL h1 h2 s1 s2 op nx wt sf lf dn dg un ug (Q0.1 + 1) (va_up Q0.2.1 Q0.1 ((eg + 1) % 2)) (qhG Q0.1 P0.1 (eg + 1) nx P0.2 Q0.2.1 G0) tn tk tv ts ef eg ex eF P0.1 (eg + 1) nx P0.2) := hD
                refine x_calli (va_runVN (As := [.ref (a 1), .int (nI ((Q0.1 + 1) * 64))]) (rest := []) ⟨hx, hb, hml, hown, hts⟩ (c_Qu_drain (by omega) (by omega) (va_up_lt hQt (by omega)) (qhG_lt hGl) hdg ((Q0.1 + 1) * 64) (by omega)) ⟨(va_cnB 2 hts (tbG tw_364) rfl rfl rfl n86 ini_X2 (by decide +kernel) ⟨Nat.le_of_ble_eq_true rfl, Nat.le_of_ble_eq_true rfl⟩), im_yX2_drain, se_yX2_drain⟩ ⟨x_blind, va_recv hK hP (ci := 2) (q0 := 5) rfl rfl, x_pre hK hP hD hN⟩ rfl rfl hl.1 rfl (lv_room (Nat.le_of_ble_eq_true rfl)) dX5_commit_169 ⟨Nat.zero_le _, Nat.zero_le _⟩) hS (fun H locs hP hD hS => ?_)
                have hP : va_P (dC, dI) vwCl (wS a cB cI cL h1 h2 s1 s2 op nx wt sf lf dn (qdr dn (va_up Q0.2.1 Q0.1 ((eg + 1) % 2)) (qhG Q0.1 P0.1 (eg + 1) nx P0.2 Q0.2.1 G0) (min ((Q0.1 + 1) * 64) ((Q0.1 + 1) * 64)) 0 dg) un ug 0 (va_up Q0.2.1 Q0.1 ((eg + 1) % 2)) (qhG Q0.1 P0.1 (eg + 1) nx P0.2 Q0.2.1 G0) tn tk tv ts ef eg ex eF P0.1 (eg + 1) nx P0.2) H := hP
                have hD : va_D A (wS a cB cI cL h1 h2 s1 s2 op nx wt sf lf dn (qdr dn (va_up Q0.2.1 Q0.1 ((eg + 1) % 2)) (qhG Q0.1 P0.1 (eg + 1) nx P0.2 Q0.2.1 G0) (min ((Q0.1 + 1) * 64) ((Q0.1 + 1) * 64)) 0 dg) un ug 0 (va_up Q0.2.1 Q0.1 ((eg + 1) % 2)) (qhG Q0.1 P0.1 (eg + 1) nx P0.2 Q0.2.1 G0) tn tk tv ts ef eg ex eF P0.1 (eg + 1) nx P0.2) := hD
                refine lv_pop hx hb dX5_commit_172 rfl ?_
                refine lv_aload_n hx hb dX5_commit_173 rfl (lv_at hl 5 rfl) ?_
                refine lv_iload_n hx hb dX5_commit_174 rfl (lv_at hl 3 rfl) ?_
                refine x_callv (va_runV (As := [.int (bI false)]) (rest := []) ⟨hx, hb, hml, hown, hts⟩ (c_SL_takePlannedHead (by omega) (by omega) hug hs heF hPl (by omega) (by omega) false (by omega) (by omega)) (cwV 1 hts (tbV tw_413 tw_415 tw_35 tw_84 tw_416) rfl rfl rfl (by decide +kernel) ⟨Nat.le_of_ble_eq_true rfl, Nat.le_of_ble_eq_true rfl⟩) ⟨x_blind, va_recv hK hP (ci := 5) (q0 := 0) rfl rfl, x_pre hK hP hD hN⟩ rfl rfl hl.1 rfl (lv_room (Nat.le_of_ble_eq_true rfl)) dX5_commit_175 ⟨Nat.zero_le _, Nat.zero_le _⟩) hS (fun H locs hP hD hS => ?_)
                rw [hfy, hfb, hfn] at hP hD
                have hP : va_P (dC, dI) vwCl (wS a cB cI cL s1 s2 h1 h2 op nx 0 (nx - 1) (lf + 1) dn (qdr dn (va_up Q0.2.1 Q0.1 ((eg + 1) % 2)) (qhG Q0.1 P0.1 (eg + 1) nx P0.2 Q0.2.1 G0) (min ((Q0.1 + 1) * 64) ((Q0.1 + 1) * 64)) 0 dg) un (umk un y 2 (((nx - ex) + 2) / 3) (tkU false un ug) 0) 0 (va_up Q0.2.1 Q0.1 ((eg + 1) % 2)) (qhG Q0.1 P0.1 (eg + 1) nx P0.2 Q0.2.1 G0) tn tk tv (tset tn ts 0) P0.1 (eg + 1) nx P0.2 ef eg ex eF) H := hP
                have hD : va_D A (wS a cB cI cL s1 s2 h1 h2 op nx 0 (nx - 1) (lf + 1) dn (qdr dn (va_up Q0.2.1 Q0.1 ((eg + 1) % 2)) (qhG Q0.1 P0.1 (eg + 1) nx P0.2 Q0.2.1 G0) (min ((Q0.1 + 1) * 64) ((Q0.1 + 1) * 64)) 0 dg) un (umk un y 2 (((nx - ex) + 2) / 3) (tkU false un ug) 0) 0 (va_up Q0.2.1 Q0.1 ((eg + 1) % 2)) (qhG Q0.1 P0.1 (eg + 1) nx P0.2 Q0.2.1 G0) tn tk tv (tset tn ts 0) P0.1 (eg + 1) nx P0.2 ef eg ex eF) := hD
                refine lv_aload_n hx hb dX5_commit_178 rfl (lv_at hl 5 rfl) ?_
                refine va_get (D := (dC, dI)) (ci := 5) (v := .ref s1) (C := RX5) (T := TX5) (N := 11) hx hb hts in_X5 hown hK hP 0 rfl rfl 4 (by decide) f42 (fun _ h9 => h9) rfl dX5_commit_179 ?_
                refine va_getN (D := (dC, dI)) (ci := 1) (v := .int (nI (eg + 1))) (C := RX1) (T := TX1) (N := 4) hx hb hts in_X1 hown hK hP 13 rfl rfl 2 (by decide) (va_Nw.use (A := args) rfl f118) (fun _ h9 => h9) rfl dX5_commit_182 ?_
                exact hret dX5_commit_185 (by rfl) hP hD hS
              · exact absurd hzn c119
            · exact absurd c92 hy9
          · cases c54
        · exact absurd c44 (by omega)
      · exact absurd c31 (by omega)
    · exact absurd (ho.symm.trans c11) (by decide)
  · exact absurd hz c2

set_option maxHeartbeats 4000000 in
set_option maxRecDepth 100000 in
theorem c_SL_commitGAp {l : Launch} {dC : Nat → ClassId} {dI : Nat → Nat → Nat} {A : Nat → Prop} {a : Nat → Nat} {cB cI cL : ClassId} {h1 h2 s1 s2 : Nat} {op : Bool} {nx wt sf lf dn : Nat} {dg : Nat → Nat} {un : Nat} {ug : Nat → Nat} {qn : Nat} {qt qg : Nat → Nat} {tn : Nat} {tk tv : Nat → Int64} {ts : Nat → Nat} {ef eg ex : Nat} {eF : Nat → Nat} {pf pg px : Nat} {pF : Nat → Nat} (hdn : dn ≤ 64) (hun : un ≤ 64) (hqn : qn ≤ 64) (htn : tn ≤ 192) (hdg : ∀ j, dg j < 256) (hug : ∀ j, ug j < 8) (hqt : ∀ j, qt j < 64) (hqg : ∀ j, qg j < 256) (hs : ∀ j, ts j < 2 ^ 31) (heF : ∀ j, eF j < 1048576) (hpF : ∀ j, pF j < 1048576) (hef : ef ≤ 5) (hnx : nx < 2 ^ 30) (hwt : wt ≤ nx) (heg : eg < 2 ^ 30) (hlf : lf < 2 ^ 18) (hex : ex < 2 ^ 30) (y : Nat) (P0 : Nat × (Nat → Nat)) (Q0 : QS) (G0 : Nat → Nat) (n : Nat) (hn1 : n < 2 ^ 31) (hnq : (Q0.1 + 1) * 64 ≤ n) (ho : op = true) (hl0 : ex < nx) (hm : ef < 5) (hfr : ulr ug (((nx - ex) + 2) / 3) un 0 0 = some y) (hP0 : plh false ef eF pF lf y (((nx - ex) + 2) / 3) (nx - ex) = P0) (hf0 : 0 < P0.1) (hf5 : P0.1 ≤ 5) (hfn : hfl P0.1 P0.2 (P0.1 - 1) 0 = lf + 1) (hfy : hfl P0.1 P0.2 (P0.1 - 1) 1 = y) (hfb : hfl P0.1 P0.2 (P0.1 - 1) 2 = (((nx - ex) + 2) / 3)) (hfr3 : hfl P0.1 P0.2 (P0.1 - 1) 3 = (nx - ex)) (hQ0 : qf1 (((nx - ex) + 2) / 3) (nx - ex) y (lf + 1) (((nx - ex) + 2) / 3) 0 (qn, qt, qg) = Q0) (hG0 : qf3 qn Q0.2.1 (((nx - ex) + 2) / 3) 0 (qf2 false qn tk tv ts tn 0 0 Q0.2.2) = G0) (hqb : qn + (((nx - ex) + 2) / 3) < 64) (hyb : y + (((nx - ex) + 2) / 3) ≤ 64) (heg1 : eg + 1 < 2 ^ 30) : Met l yX5_commit (Cond.code yX5_commit cX5_commit 7 (some .int) :: TB) { frames := 5, cells := 0, slots := 0, locals := 124 } (xPre Nst (dC, dI) A (tyS cB cI cL) (wS a cB cI cL h1 h2 s1 s2 op nx wt sf lf dn dg un ug qn qt qg tn tk tv ts ef eg ex eF pf pg px pF) [.ref (a 0), .int (nI n)]) (xQi (dC, dI) A (nI (eg + 1)) (wS a cB cI cL s1 s2 h1 h2 op nx 0 (nx - 1) (lf + 1) dn (qdr dn (va_up Q0.2.1 Q0.1 ((eg + 1) % 2)) (qhG Q0.1 P0.1 (eg + 1) nx P0.2 Q0.2.1 G0) (min ((Q0.1 + 1) * 64) ((Q0.1 + 1) * 64)) 0 dg) un (umk un y 2 (((nx - ex) + 2) / 3) (tkU false un ug) 0) 0 (va_up Q0.2.1 Q0.1 ((eg + 1) % 2)) (qhG Q0.1 P0.1 (eg + 1) nx P0.2 Q0.2.1 G0) tn tk tv (tset tn ts 0) P0.1 (eg + 1) nx P0.2 ef eg ex eF)) 0 0 A := by
  refine x_ofWi (cc := cX5_commit) (maxL := 7) (by decide) rfl (Nat.le_of_ble_eq_true rfl) ?_
  intro p e s m args below meth c Q hx hb hml hts hown hK hN hP hD hS hret ls hl
  have hl : lv_has ls 7 [(0, .ref (a 0)), (1, .int (nI n))] := hl
  have hown : s.vm.findClass RX5 = some m.cls := hown
  have hPl : ∀ j, P0.2 j < 1048576 := by rw [← hP0]; exact plh_lt heF hpF (by omega) (by omega) (by omega) (by omega)
  have hQt : ∀ j, Q0.2.1 j < 64 := by rw [← hQ0]; exact qf1_t (by omega) hqt
  have hQg : ∀ j, Q0.2.2 j < 256 := by rw [← hQ0]; exact qf1_g hqg
  have hQn : Q0.1 = qn + (((nx - ex) + 2) / 3) := by rw [← hQ0]; exact qf1_n
  have hGl : ∀ j, G0 j < 256 := by rw [← hG0]; exact qf3_lt (qf2_lt hQg)
  have hy9 : ¬ nI y = (-2 : Int32) := fun q => absurd (show (nI y) < 0 by rw [q]; decide) (nI_pos (by omega))
  have f49 := hts _ (List.mem_cons_of_mem _ tw_213)
  have in_X5 := (fun q hq => List.mem_cons_of_mem _ (inX5 q hq) : ∀ q ∈ wsX50, q ∈ (Cond.code yX5_commit cX5_commit 7 (some .int) :: TB))
  have f53 := hts _ (List.mem_cons_of_mem _ tw_214)
  have f42 := hts _ (List.mem_cons_of_mem _ tw_211)
  have f90 := hN (.fieldLinkNest RX5 90 "SegmentLog$Head" "next" "I" "SegmentLog") (by decide +kernel)
  have in_X1 := (fun q hq => List.mem_cons_of_mem _ (inX1 q hq) : ∀ q ∈ wsX10, q ∈ (Cond.code yX5_commit cX5_commit 7 (some .int) :: TB))
  have f91 := hN (.fieldLinkNest RX5 91 "SegmentLog$Head" "files" "I" "SegmentLog") (by decide +kernel)
  have f21 := hts _ (List.mem_cons_of_mem _ tw_208)
  have n101 := hN (.methodLinkNest RX5 101 yX4_leastRun "SegmentLog") (by decide +kernel)
  have ini_X4 := hts _ (List.mem_cons_of_mem _ tw_86)
  have im_yX4_leastRun := hts _ (List.mem_cons_of_mem _ tw_285)
  have se_yX4_leastRun := hts _ (List.mem_cons_of_mem _ tw_11)
  have f28 := hts _ (List.mem_cons_of_mem _ tw_209)
  have n83 := hN (.methodLinkNest RX5 83 yX2_bytes "SegmentLog") (by decide +kernel)
  have ini_X2 := hts _ (List.mem_cons_of_mem _ tw_88)
  have im_yX2_bytes := hts _ (List.mem_cons_of_mem _ tw_359)
  have se_yX2_bytes := hts _ (List.mem_cons_of_mem _ tw_26)
  have f14 := hts _ (List.mem_cons_of_mem _ tw_207)
  have n86 := hN (.methodLinkNest RX5 86 yX2_drain "SegmentLog") (by decide +kernel)
  have im_yX2_drain := hts _ (List.mem_cons_of_mem _ tw_363)
  have se_yX2_drain := hts _ (List.mem_cons_of_mem _ tw_27)
  have f118 := hN (.fieldLinkNest RX5 118 "SegmentLog$Head" "generation" "I" "SegmentLog") (by decide +kernel)
  refine lv_iload_n hx hb dX5_commit_0 rfl (lv_at hl 1 rfl) ?_
  refine lv_iconst (v := (-1)) hx hb dX5_commit_1 (by decide) ?_
  refine lv_icmp_ge (tgt := 7) hx hb dX5_commit_2 (by decide) (fun c2 => ?_) (fun c2 => ?_)
  · refine lv_aload_n hx hb dX5_commit_7 rfl (lv_at hl 0 rfl) ?_
    refine va_get (D := (dC, dI)) (ci := 5) (v := .int (bI op)) (C := RX5) (T := TX5) (N := 11) hx hb hts in_X5 hown hK hP 0 rfl rfl 6 (by decide) f49 (fun _ h9 => h9) rfl dX5_commit_8 ?_
    refine x_if_ne_b (tgt := 17) hx hb dX5_commit_11 (by decide) (fun c11 => ?_) (fun c11 => ?_)
    · refine lv_aload_n hx hb dX5_commit_17 rfl (lv_at hl 0 rfl) ?_
      refine va_get (D := (dC, dI)) (ci := 5) (v := .int (nI nx)) (C := RX5) (T := TX5) (N := 11) hx hb hts in_X5 hown hK hP 0 rfl rfl 7 (by decide) f53 (fun _ h9 => h9) rfl dX5_commit_18 ?_
      refine lv_aload_n hx hb dX5_commit_21 rfl (lv_at hl 0 rfl) ?_
      refine va_get (D := (dC, dI)) (ci := 5) (v := .ref h1) (C := RX5) (T := TX5) (N := 11) hx hb hts in_X5 hown hK hP 0 rfl rfl 4 (by decide) f42 (fun _ h9 => h9) rfl dX5_commit_22 ?_
      refine va_getN (D := (dC, dI)) (ci := 1) (v := .int (nI ex)) (C := RX1) (T := TX1) (N := 4) hx hb hts in_X1 hown hK hP 13 rfl rfl 3 (by decide) (va_Nw.use (A := args) rfl f90) (fun _ h9 => h9) rfl dX5_commit_25 ?_
      refine x_isub hx hb dX5_commit_28 (by omega) ?_
      refine lv_istore_n (lv' := [(2, .int (nI (nx - ex))), (0, .ref (a 0)), (1, .int (nI n))]) hx hb dX5_commit_29 rfl hl (by decide) rfl (fun ls hl => ?_)
      refine lv_iload_n hx hb dX5_commit_30 rfl (lv_at hl 0 rfl) ?_
      refine x_if_gt (tgt := 36) hx hb dX5_commit_31 (by decide) (by omega) (fun c31 => ?_) (fun c31 => ?_)
      · refine lv_aload_n hx hb dX5_commit_36 rfl (lv_at hl 1 rfl) ?_
        refine va_get (D := (dC, dI)) (ci := 5) (v := .ref h1) (C := RX5) (T := TX5) (N := 11) hx hb hts in_X5 hown hK hP 0 rfl rfl 4 (by decide) f42 (fun _ h9 => h9) rfl dX5_commit_37 ?_
        refine va_getN (D := (dC, dI)) (ci := 1) (v := .int (nI ef)) (C := RX1) (T := TX1) (N := 4) hx hb hts in_X1 hown hK hP 13 rfl rfl 1 (by decide) (va_Nw.use (A := args) rfl f91) (fun _ h9 => h9) rfl dX5_commit_40 ?_
        refine lv_iconst (v := nI 5) hx hb dX5_commit_43 (by decide) ?_
        refine x_icmp_ne (tgt := 51) hx hb dX5_commit_44 (by decide) (by omega) (by omega) (fun c44 => ?_) (fun c44 => ?_)
        · refine lv_iconst (v := nI 0) hx hb dX5_commit_51 (by decide) ?_
          refine x_top (y := bI false) rfl ?_
          refine lv_istore_n (lv' := [(3, .int (bI false)), (2, .int (nI (nx - ex))), (0, .ref (a 0)), (1, .int (nI n))]) hx hb dX5_commit_52 rfl hl (by decide) rfl (fun ls hl => ?_)
          refine lv_iload_n hx hb dX5_commit_53 rfl (lv_at hl 0 rfl) ?_
          refine x_if_eq_b (tgt := 67) hx hb dX5_commit_54 (by decide) (fun c54 => ?_) (fun c54 => ?_)
          · refine lv_iload_n hx hb dX5_commit_67 rfl (lv_at hl 1 rfl) ?_
            refine lv_istore (lv' := [(4, .int (nI (nx - ex))), (3, .int (bI false)), (2, .int (nI (nx - ex))), (0, .ref (a 0)), (1, .int (nI n))]) hx hb dX5_commit_68 hl (by decide) rfl (fun ls hl => ?_)
            refine lv_iload hx hb dX5_commit_70 (lv_at hl 0 rfl) ?_
            refine x_calli (va_runS (As := [.int (nI (nx - ex))]) (rest := []) ⟨hx, hb, hml, hown, hts⟩ (c_SL_blocksFor (nx - ex) (by omega)) (va_cwS 1 hts (tbS tw_372 tw_373 tw_84 tw_374) rfl rfl rfl (by decide +kernel) ⟨Nat.le_of_ble_eq_true rfl, Nat.le_of_ble_eq_true rfl⟩) ⟨x_blind, x_pre hK hP hD hN⟩ rfl rfl hl.1 rfl (lv_room (Nat.le_of_ble_eq_true rfl)) dX5_commit_72 ⟨Nat.zero_le _, Nat.zero_le _⟩) hS (fun H locs hP hD hS => ?_)
            have hP : va_P (dC, dI) vwCl (wS a cB cI cL h1 h2 s1 s2 op nx wt sf lf dn dg un ug qn qt qg tn tk tv ts ef eg ex eF pf pg px pF) H := hP
            have hD : va_D A (wS a cB cI cL h1 h2 s1 s2 op nx wt sf lf dn dg un ug qn qt qg tn tk tv ts ef eg ex eF pf pg px pF) := hD
            refine lv_istore (lv' := [(5, .int (nI ((nx - ex + 2) / 3))), (4, .int (nI (nx - ex))), (3, .int (bI false)), (2, .int (nI (nx - ex))), (0, .ref (a 0)), (1, .int (nI n))]) hx hb dX5_commit_75 hl (by decide) rfl (fun ls hl => ?_)
            refine lv_aload_n hx hb dX5_commit_77 rfl (lv_at hl 4 rfl) ?_
            refine va_get (D := (dC, dI)) (ci := 5) (v := .ref (a 3)) (C := RX5) (T := TX5) (N := 11) hx hb hts in_X5 hown hK hP 0 rfl rfl 1 (by decide) f21 (fun _ h9 => h9) rfl dX5_commit_78 ?_
            refine lv_iload hx hb dX5_commit_81 (lv_at hl 0 rfl) ?_
            refine x_calli (va_runVN (As := [.int (nI ((nx - ex + 2) / 3))]) (rest := []) ⟨hx, hb, hml, hown, hts⟩ (c_Us_leastRun (show okU (fun ug' => wS a cB cI cL h1 h2 s1 s2 op nx wt sf lf dn dg un ug' qn qt qg tn tk tv ts ef eg ex eF pf pg px pF) 3 4 (a 3) (a 4) cI un from ⟨fun _ => rfl, fun _ => rfl, fun _ _ => rfl⟩) (tyS_I cB cI cL) (by omega) ug hug ((nx - ex + 2) / 3) (by omega) (by omega)) ⟨(va_cnB 1 hts (tbG tw_286) rfl rfl rfl n101 ini_X4 (by decide +kernel) ⟨Nat.le_of_ble_eq_true rfl, Nat.le_of_ble_eq_true rfl⟩), im_yX4_leastRun, se_yX4_leastRun⟩ ⟨x_blind, va_recv hK hP (ci := 4) (q0 := 3) rfl rfl, x_pre hK hP hD hN⟩ rfl rfl hl.1 rfl (lv_room (Nat.le_of_ble_eq_true rfl)) dX5_commit_83 ⟨Nat.zero_le _, Nat.zero_le _⟩) hS (fun H locs hP hD hS => ?_)
            have hP : va_P (dC, dI) vwCl (wS a cB cI cL h1 h2 s1 s2 op nx wt sf lf dn dg un ug qn qt qg tn tk tv ts ef eg ex eF pf pg px pF) H := hP
            have hD : va_D A (wS a cB cI cL h1 h2 s1 s2 op nx wt sf lf dn dg un ug qn qt qg tn tk tv ts ef eg ex eF pf pg px pF) := hD
            refine lv_istore (lv' := [(6, .int (oI (ulr ug ((nx - ex + 2) / 3) un 0 0))), (5, .int (nI ((nx - ex + 2) / 3))), (4, .int (nI (nx - ex))), (3, .int (bI false)), (2, .int (nI (nx - ex))), (0, .ref (a 0)), (1, .int (nI n))]) hx hb dX5_commit_86 hl (by decide) rfl (fun ls hl => ?_)
            rw [hfr] at hl
            have hl : lv_has ls 7 [(6, .int (nI y)), (5, .int (nI ((nx - ex + 2) / 3))), (4, .int (nI (nx - ex))), (3, .int (bI false)), (2, .int (nI (nx - ex))), (0, .ref (a 0)), (1, .int (nI n))] := hl
            refine lv_iload hx hb dX5_commit_88 (lv_at hl 0 rfl) ?_
            refine lv_bipush (v := (-2)) hx hb dX5_commit_90 (by decide) ?_
            refine lv_icmp_ne (tgt := 98) hx hb dX5_commit_92 (by decide) (fun c92 => ?_) (fun c92 => ?_)
            · refine lv_aload_n hx hb dX5_commit_98 rfl (lv_at hl 5 rfl) ?_
              refine lv_iload_n hx hb dX5_commit_99 rfl (lv_at hl 3 rfl) ?_
              refine lv_iload hx hb dX5_commit_100 (lv_at hl 0 rfl) ?_
              refine lv_iload hx hb dX5_commit_102 (lv_at hl 1 rfl) ?_
              refine lv_iload hx hb dX5_commit_104 (lv_at hl 2 rfl) ?_
              refine x_callv (va_runV (As := [.int (bI false), .int (nI y), .int (nI ((nx - ex + 2) / 3)), .int (nI (nx - ex))]) (rest := []) ⟨hx, hb, hml, hown, hts⟩ (c_SL_planHead heF hpF (by omega) (by omega) (by omega) (by omega) false y (((nx - ex) + 2) / 3) (nx - ex) (by omega) (by omega) (by omega) (fun q => by first | omega | cases q)) (cwV 4 hts (tbV tw_376 tw_378 tw_28 tw_84 tw_379) rfl rfl rfl (by decide +kernel) ⟨Nat.le_of_ble_eq_true rfl, Nat.le_of_ble_eq_true rfl⟩) ⟨x_blind, va_recv hK hP (ci := 5) (q0 := 0) rfl rfl, x_pre hK hP hD hN⟩ rfl rfl hl.1 rfl (lv_room (Nat.le_of_ble_eq_true rfl)) dX5_commit_106 ⟨Nat.zero_le _, Nat.zero_le _⟩) hS (fun H locs hP hD hS => ?_)
              rw [hP0] at hP hD
              have hP : va_P (dC, dI) vwCl (wS a cB cI cL h1 h2 s1 s2 op nx wt sf lf dn dg un ug qn qt qg tn tk tv ts ef eg ex eF P0.1 (eg + 1) nx P0.2) H := hP
              have hD : va_D A (wS a cB cI cL h1 h2 s1 s2 op nx wt sf lf dn dg un ug qn qt qg tn tk tv ts ef eg ex eF P0.1 (eg + 1) nx P0.2) := hD
              refine lv_aload_n hx hb dX5_commit_109 rfl (lv_at hl 5 rfl) ?_
              refine lv_iload_n hx hb dX5_commit_110 rfl (lv_at hl 3 rfl) ?_
              refine x_callv (va_runV (As := [.int (bI false)]) (rest := []) ⟨hx, hb, hml, hown, hts⟩ (c_SL_queueFile (by omega) (by omega) hqt hqg hs hPl (by omega) false (((nx - ex) + 2) / 3) (nx - ex) y (lf + 1) hfb hfr3 hfy hfn (by omega) rfl (by omega) (by omega) (by omega)) (cwV 1 hts (tbV tw_393 tw_395 tw_32 tw_84 tw_396) rfl rfl rfl (by decide +kernel) ⟨Nat.le_of_ble_eq_true rfl, Nat.le_of_ble_eq_true rfl⟩) ⟨x_blind, va_recv hK hP (ci := 5) (q0 := 0) rfl rfl, x_pre hK hP hD hN⟩ rfl rfl hl.1 rfl (lv_room (Nat.le_of_ble_eq_true rfl)) dX5_commit_111 ⟨Nat.zero_le _, Nat.zero_le _⟩) hS (fun H locs hP hD hS => ?_)
              rw [hQ0, hG0] at hP hD
              have hP : va_P (dC, dI) vwCl (wS a cB cI cL h1 h2 s1 s2 op nx wt sf lf dn dg un ug Q0.1 Q0.2.1 G0 tn tk tv ts ef eg ex eF P0.1 (eg + 1) nx P0.2) H := hP
              have hD : va_D A (wS a cB cI cL h1 h2 s1 s2 op nx wt sf lf dn dg un ug Q0.1 Q0.2.1 G0 tn tk tv ts ef eg ex eF P0.1 (eg + 1) nx P0.2) := hD
              refine lv_aload_n hx hb dX5_commit_114 rfl (lv_at hl 5 rfl) ?_
              refine x_callv (va_runV (As := []) (rest := []) ⟨hx, hb, hml, hown, hts⟩ (c_SL_queueHead (by omega) hQt hGl hPl (by omega) (by omega) (by omega) (by omega)) (cwV 0 hts (tbV tw_406 tw_408 tw_34 tw_84 tw_409) rfl rfl rfl (by decide +kernel) ⟨Nat.le_of_ble_eq_true rfl, Nat.le_of_ble_eq_true rfl⟩) ⟨x_blind, va_recv hK hP (ci := 5) (q0 := 0) rfl rfl, x_pre hK hP hD hN⟩ rfl rfl hl.1 rfl (lv_room (Nat.le_of_ble_eq_true rfl)) dX5_commit_115 ⟨Nat.zero_le _, Nat.zero_le _⟩) hS (fun H locs hP hD hS => ?_)
              have hP : va_P (dC, dI) vwCl (wS a cB cI cL h1 h2 s1 s2 op nx wt sf lf dn dg un ug (Q0.1 + 1) (va_up Q0.2.1 Q0.1 ((eg + 1) % 2)) (qhG Q0.1 P0.1 (eg + 1) nx P0.2 Q0.2.1 G0) tn tk tv ts ef eg ex eF P0.1 (eg + 1) nx P0.2) H := hP
              have hD : va_D A (wS a cB cI cL h1 h2 s1 s2 op nx wt sf lf dn dg un ug (Q0.1 + 1) (va_up Q0.2.1 Q0.1 ((eg + 1) % 2)) (qhG Q0.1 P0.1 (eg + 1) nx P0.2 Q0.2.1 G0) tn tk tv ts ef eg ex eF P0.1 (eg + 1) nx P0.2) := hD
              refine lv_iload_n hx hb dX5_commit_118 rfl (lv_at hl 6 rfl) ?_
              refine x_if_lt (tgt := 154) hx hb dX5_commit_119 (by decide) (by omega) ?_
              refine lv_iload_n hx hb dX5_commit_122 rfl (lv_at hl 6 rfl) ?_
              refine lv_aload_n hx hb dX5_commit_123 rfl (lv_at hl 5 rfl) ?_
              refine va_get (D := (dC, dI)) (ci := 5) (v := .ref (a 5)) (C := RX5) (T := TX5) (N := 11) hx hb hts in_X5 hown hK hP 0 rfl rfl 2 (by decide) f28 (fun _ h9 => h9) rfl dX5_commit_124 ?_
              refine x_calli (va_runVN (As := []) (rest := [.int (nI n)]) ⟨hx, hb, hml, hown, hts⟩ c_Qu_bytes ⟨(va_cnB 0 hts (tbG tw_360) rfl rfl rfl n83 ini_X2 (by decide +kernel) ⟨Nat.le_of_ble_eq_true rfl, Nat.le_of_ble_eq_true rfl⟩), im_yX2_bytes, se_yX2_bytes⟩ ⟨x_blind, va_recv hK hP (ci := 2) (q0 := 5) rfl rfl, x_pre hK hP hD hN⟩ rfl rfl hl.1 rfl (lv_room (Nat.le_of_ble_eq_true rfl)) dX5_commit_127 ⟨Nat.zero_le _, Nat.zero_le _⟩) hS (fun H locs hP hD hS => ?_)
              have hP : va_P (dC, dI) vwCl (wS a cB cI cL h1 h2 s1 s2 op nx wt sf lf dn dg un ug (Q0.1 + 1) (va_up Q0.2.1 Q0.1 ((eg + 1) % 2)) (qhG Q0.1 P0.1 (eg + 1) nx P0.2 Q0.2.1 G0) tn tk tv ts ef eg ex eF P0.1 (eg + 1) nx P0.2) H := hP
              have hD : va_D A (wS a cB cI cL h1 h2 s1 s2 op nx wt sf lf dn dg un ug (Q0.1 + 1) (va_up Q0.2.1 Q0.1 ((eg + 1) % 2)) (qhG Q0.1 P0.1 (eg + 1) nx P0.2 Q0.2.1 G0) tn tk tv ts ef eg ex eF P0.1 (eg + 1) nx P0.2) := hD
              refine x_icmp_ge (tgt := 154) hx hb dX5_commit_130 (by decide) (by omega) (by omega) (fun c130 => ?_) (fun c130 => ?_)
              · refine lv_aload_n hx hb dX5_commit_154 rfl (lv_at hl 5 rfl) ?_
                refine va_get (D := (dC, dI)) (ci := 5) (v := .ref (a 5)) (C := RX5) (T := TX5) (N := 11) hx hb hts in_X5 hown hK hP 0 rfl rfl 2 (by decide) f28 (fun _ h9 => h9) rfl dX5_commit_155 ?_
                refine lv_aload_n hx hb dX5_commit_158 rfl (lv_at hl 5 rfl) ?_
                refine va_get (D := (dC, dI)) (ci := 5) (v := .ref (a 1)) (C := RX5) (T := TX5) (N := 11) hx hb hts in_X5 hown hK hP 0 rfl rfl 0 (by decide) f14 (fun _ h9 => h9) rfl dX5_commit_159 ?_
                refine lv_aload_n hx hb dX5_commit_162 rfl (lv_at hl 5 rfl) ?_
                refine va_get (D := (dC, dI)) (ci := 5) (v := .ref (a 5)) (C := RX5) (T := TX5) (N := 11) hx hb hts in_X5 hown hK hP 0 rfl rfl 2 (by decide) f28 (fun _ h9 => h9) rfl dX5_commit_163 ?_
                refine x_calli (va_runVN (As := []) (rest := [.ref (a 1), .ref (a 5)]) ⟨hx, hb, hml, hown, hts⟩ c_Qu_bytes ⟨(va_cnB 0 hts (tbG tw_360) rfl rfl rfl n83 ini_X2 (by decide +kernel) ⟨Nat.le_of_ble_eq_true rfl, Nat.le_of_ble_eq_true rfl⟩), im_yX2_bytes, se_yX2_bytes⟩ ⟨x_blind, va_recv hK hP (ci := 2) (q0 := 5) rfl rfl, x_pre hK hP hD hN⟩ rfl rfl hl.1 rfl (lv_room (Nat.le_of_ble_eq_true rfl)) dX5_commit_166 ⟨Nat.zero_le _, Nat.zero_le _⟩) hS (fun H locs hP hD hS => ?_)
                have hP : va_P (dC, dI) vwCl (wS a cB cI cL h1 h2 s1 s2 op nx wt sf lf dn dg un ug (Q0.1 + 1) (va_up Q0.2.1 Q0.1 ((eg + 1) % 2)) (qhG Q0.1 P0.1 (eg + 1) nx P0.2 Q0.2.1 G0) tn tk tv ts ef eg ex eF P0.1 (eg + 1) nx P0.2) H := hP
                have hD : va_D A (wS a cB cI cL h1 h2 s1 s2 op nx wt sf lf dn dg un ug (Q0.1 + 1) (va_up Q0.2.1 Q0.1 ((eg + 1) % 2)) (qhG Q0.1 P0.1 (eg + 1) nx P0.2 Q0.2.1 G0) tn tk tv ts ef eg ex eF P0.1 (eg + 1) nx P0.2) := hD
                refine x_calli (va_runVN (As := [.ref (a 1), .int (nI ((Q0.1 + 1) * 64))]) (rest := []) ⟨hx, hb, hml, hown, hts⟩ (c_Qu_drain (by omega) (by omega) (va_up_lt hQt (by omega)) (qhG_lt hGl) hdg ((Q0.1 + 1) * 64) (by omega)) ⟨(va_cnB 2 hts (tbG tw_364) rfl rfl rfl n86 ini_X2 (by decide +kernel) ⟨Nat.le_of_ble_eq_true rfl, Nat.le_of_ble_eq_true rfl⟩), im_yX2_drain, se_yX2_drain⟩ ⟨x_blind, va_recv hK hP (ci := 2) (q0 := 5) rfl rfl, x_pre hK hP hD hN⟩ rfl rfl hl.1 rfl (lv_room (Nat.le_of_ble_eq_true rfl)) dX5_commit_169 ⟨Nat.zero_le _, Nat.zero_le _⟩) hS (fun H locs hP hD hS => ?_)
                have hP : va_P (dC, dI) vwCl (wS a cB cI cL h1 h2 s1 s2 op nx wt sf lf dn (qdr dn (va_up Q0.2.1 Q0.1 ((eg + 1) % 2)) (qhG Q0.1 P0.1 (eg + 1) nx P0.2 Q0.2.1 G0) (min ((Q0.1 + 1) * 64) ((Q0.1 + 1) * 64)) 0 dg) un ug 0 (va_up Q0.2.1 Q0.1 ((eg + 1) % 2)) (qhG Q0.1 P0.1 (eg + 1) nx P0.2 Q0.2.1 G0) tn tk tv ts ef eg ex eF P0.1 (eg + 1) nx P0.2) H := hP
                have hD : va_D A (wS a cB cI cL h1 h2 s1 s2 op nx wt sf lf dn (qdr dn (va_up Q0.2.1 Q0.1 ((eg + 1) % 2)) (qhG Q0.1 P0.1 (eg + 1) nx P0.2 Q0.2.1 G0) (min ((Q0.1 + 1) * 64) ((Q0.1 + 1) * 64)) 0 dg) un ug 0 (va_up Q0.2.1 Q0.1 ((eg + 1) % 2)) (qhG Q0.1 P0.1 (eg + 1) nx P0.2 Q0.2.1 G0) tn tk tv ts ef eg ex eF P0.1 (eg + 1) nx P0.2) := hD
                refine lv_pop hx hb dX5_commit_172 rfl ?_
                refine lv_aload_n hx hb dX5_commit_173 rfl (lv_at hl 5 rfl) ?_
                refine lv_iload_n hx hb dX5_commit_174 rfl (lv_at hl 3 rfl) ?_
                refine x_callv (va_runV (As := [.int (bI false)]) (rest := []) ⟨hx, hb, hml, hown, hts⟩ (c_SL_takePlannedHead (by omega) (by omega) hug hs heF hPl (by omega) (by omega) false (by omega) (by omega)) (cwV 1 hts (tbV tw_413 tw_415 tw_35 tw_84 tw_416) rfl rfl rfl (by decide +kernel) ⟨Nat.le_of_ble_eq_true rfl, Nat.le_of_ble_eq_true rfl⟩) ⟨x_blind, va_recv hK hP (ci := 5) (q0 := 0) rfl rfl, x_pre hK hP hD hN⟩ rfl rfl hl.1 rfl (lv_room (Nat.le_of_ble_eq_true rfl)) dX5_commit_175 ⟨Nat.zero_le _, Nat.zero_le _⟩) hS (fun H locs hP hD hS => ?_)
                rw [hfy, hfb, hfn] at hP hD
                have hP : va_P (dC, dI) vwCl (wS a cB cI cL s1 s2 h1 h2 op nx 0 (nx - 1) (lf + 1) dn (qdr dn (va_up Q0.2.1 Q0.1 ((eg + 1) % 2)) (qhG Q0.1 P0.1 (eg + 1) nx P0.2 Q0.2.1 G0) (min ((Q0.1 + 1) * 64) ((Q0.1 + 1) * 64)) 0 dg) un (umk un y 2 (((nx - ex) + 2) / 3) (tkU false un ug) 0) 0 (va_up Q0.2.1 Q0.1 ((eg + 1) % 2)) (qhG Q0.1 P0.1 (eg + 1) nx P0.2 Q0.2.1 G0) tn tk tv (tset tn ts 0) P0.1 (eg + 1) nx P0.2 ef eg ex eF) H := hP
                have hD : va_D A (wS a cB cI cL s1 s2 h1 h2 op nx 0 (nx - 1) (lf + 1) dn (qdr dn (va_up Q0.2.1 Q0.1 ((eg + 1) % 2)) (qhG Q0.1 P0.1 (eg + 1) nx P0.2 Q0.2.1 G0) (min ((Q0.1 + 1) * 64) ((Q0.1 + 1) * 64)) 0 dg) un (umk un y 2 (((nx - ex) + 2) / 3) (tkU false un ug) 0) 0 (va_up Q0.2.1 Q0.1 ((eg + 1) % 2)) (qhG Q0.1 P0.1 (eg + 1) nx P0.2 Q0.2.1 G0) tn tk tv (tset tn ts 0) P0.1 (eg + 1) nx P0.2 ef eg ex eF) := hD
                refine lv_aload_n hx hb dX5_commit_178 rfl (lv_at hl 5 rfl) ?_
                refine va_get (D := (dC, dI)) (ci := 5) (v := .ref s1) (C := RX5) (T := TX5) (N := 11) hx hb hts in_X5 hown hK hP 0 rfl rfl 4 (by decide) f42 (fun _ h9 => h9) rfl dX5_commit_179 ?_
                refine va_getN (D := (dC, dI)) (ci := 1) (v := .int (nI (eg + 1))) (C := RX1) (T := TX1) (N := 4) hx hb hts in_X1 hown hK hP 13 rfl rfl 2 (by decide) (va_Nw.use (A := args) rfl f118) (fun _ h9 => h9) rfl dX5_commit_182 ?_
                exact hret dX5_commit_185 (by rfl) hP hD hS
              · exact absurd c130 (by omega)
            · exact absurd c92 hy9
          · cases c54
        · exact absurd c44 (by omega)
      · exact absurd c31 (by omega)
    · exact absurd (ho.symm.trans c11) (by decide)
  · exact absurd (x_m1le hn1) c2

set_option maxHeartbeats 4000000 in
set_option maxRecDepth 100000 in
theorem c_SL_commitPA {l : Launch} {dC : Nat → ClassId} {dI : Nat → Nat → Nat} {A : Nat → Prop} {a : Nat → Nat} {cB cI cL : ClassId} {h1 h2 s1 s2 : Nat} {op : Bool} {nx wt sf lf dn : Nat} {dg : Nat → Nat} {un : Nat} {ug : Nat → Nat} {qn : Nat} {qt qg : Nat → Nat} {tn : Nat} {tk tv : Nat → Int64} {ts : Nat → Nat} {ef eg ex : Nat} {eF : Nat → Nat} {pf pg px : Nat} {pF : Nat → Nat} (hdn : dn ≤ 64) (hun : un ≤ 64) (hqn : qn ≤ 64) (htn : tn ≤ 192) (hdg : ∀ j, dg j < 256) (hug : ∀ j, ug j < 8) (hqt : ∀ j, qt j < 64) (hqg : ∀ j, qg j < 256) (hs : ∀ j, ts j < 2 ^ 31) (heF : ∀ j, eF j < 1048576) (hpF : ∀ j, pF j < 1048576) (hef : ef ≤ 5) (hnx : nx < 2 ^ 30) (hwt : wt ≤ nx) (heg : eg < 2 ^ 30) (hlf : lf < 2 ^ 18) (hex : ex < 2 ^ 30) (y : Nat) (P0 : Nat × (Nat → Nat)) (Q0 : QS) (G0 : Nat → Nat) (n : Nat) (hn1 : n < 2 ^ 31) (hnq : n < (Q0.1 + 1) * 64) (ho : op = true) (hl0 : ex < nx) (hm : ef < 5) (hfr : ulr ug (((nx - ex) + 2) / 3) un 0 0 = some y) (hP0 : plh false ef eF pF lf y (((nx - ex) + 2) / 3) (nx - ex) = P0) (hf0 : 0 < P0.1) (hf5 : P0.1 ≤ 5) (hfn : hfl P0.1 P0.2 (P0.1 - 1) 0 = lf + 1) (hfy : hfl P0.1 P0.2 (P0.1 - 1) 1 = y) (hfb : hfl P0.1 P0.2 (P0.1 - 1) 2 = (((nx - ex) + 2) / 3)) (hfr3 : hfl P0.1 P0.2 (P0.1 - 1) 3 = (nx - ex)) (hQ0 : qf1 (((nx - ex) + 2) / 3) (nx - ex) y (lf + 1) (((nx - ex) + 2) / 3) 0 (qn, qt, qg) = Q0) (hG0 : qf3 qn Q0.2.1 (((nx - ex) + 2) / 3) 0 (qf2 false qn tk tv ts tn 0 0 Q0.2.2) = G0) (hqb : qn + (((nx - ex) + 2) / 3) < 64) (hyb : y + (((nx - ex) + 2) / 3) ≤ 64) (heg1 : eg + 1 < 2 ^ 30) : Met l yX5_commit (Cond.code yX5_commit cX5_commit 7 (some .int) :: TB) { frames := 5, cells := 0, slots := 0, locals := 124 } (xPre Nst (dC, dI) A (tyS cB cI cL) (wS a cB cI cL h1 h2 s1 s2 op nx wt sf lf dn dg un ug qn qt qg tn tk tv ts ef eg ex eF pf pg px pF) [.ref (a 0), .int (nI n)]) (xQi (dC, dI) A ((-2)) (wS a cB cI cL h1 h2 s1 s2 false nx wt sf lf dn (qdr dn (va_up Q0.2.1 Q0.1 ((eg + 1) % 2)) (qhG Q0.1 P0.1 (eg + 1) nx P0.2 Q0.2.1 G0) (min n ((Q0.1 + 1) * 64)) 0 dg) un ug 0 (va_up Q0.2.1 Q0.1 ((eg + 1) % 2)) (qhG Q0.1 P0.1 (eg + 1) nx P0.2 Q0.2.1 G0) tn tk tv ts ef eg ex eF P0.1 (eg + 1) nx P0.2)) 0 0 A := by
  refine x_ofWi (cc := cX5_commit) (maxL := 7) (by decide) rfl (Nat.le_of_ble_eq_true rfl) ?_
  intro p e s m args below meth c Q hx hb hml hts hown hK hN hP hD hS hret ls hl
  have hl : lv_has ls 7 [(0, .ref (a 0)), (1, .int (nI n))] := hl
  have hown : s.vm.findClass RX5 = some m.cls := hown
  have hPl : ∀ j, P0.2 j < 1048576 := by rw [← hP0]; exact plh_lt heF hpF (by omega) (by omega) (by omega) (by omega)
  have hQt : ∀ j, Q0.2.1 j < 64 := by rw [← hQ0]; exact qf1_t (by omega) hqt
  have hQg : ∀ j, Q0.2.2 j < 256 := by rw [← hQ0]; exact qf1_g hqg
  have hQn : Q0.1 = qn + (((nx - ex) + 2) / 3) := by rw [← hQ0]; exact qf1_n
  have hGl : ∀ j, G0 j < 256 := by rw [← hG0]; exact qf3_lt (qf2_lt hQg)
  have hy9 : ¬ nI y = (-2 : Int32) := fun q => absurd (show (nI y) < 0 by rw [q]; decide) (nI_pos (by omega))
  have f49 := hts _ (List.mem_cons_of_mem _ tw_213)
  have in_X5 := (fun q hq => List.mem_cons_of_mem _ (inX5 q hq) : ∀ q ∈ wsX50, q ∈ (Cond.code yX5_commit cX5_commit 7 (some .int) :: TB))
  have f53 := hts _ (List.mem_cons_of_mem _ tw_214)
  have f42 := hts _ (List.mem_cons_of_mem _ tw_211)
  have f90 := hN (.fieldLinkNest RX5 90 "SegmentLog$Head" "next" "I" "SegmentLog") (by decide +kernel)
  have in_X1 := (fun q hq => List.mem_cons_of_mem _ (inX1 q hq) : ∀ q ∈ wsX10, q ∈ (Cond.code yX5_commit cX5_commit 7 (some .int) :: TB))
  have f91 := hN (.fieldLinkNest RX5 91 "SegmentLog$Head" "files" "I" "SegmentLog") (by decide +kernel)
  have f21 := hts _ (List.mem_cons_of_mem _ tw_208)
  have n101 := hN (.methodLinkNest RX5 101 yX4_leastRun "SegmentLog") (by decide +kernel)
  have ini_X4 := hts _ (List.mem_cons_of_mem _ tw_86)
  have im_yX4_leastRun := hts _ (List.mem_cons_of_mem _ tw_285)
  have se_yX4_leastRun := hts _ (List.mem_cons_of_mem _ tw_11)
  have f28 := hts _ (List.mem_cons_of_mem _ tw_209)
  have n83 := hN (.methodLinkNest RX5 83 yX2_bytes "SegmentLog") (by decide +kernel)
  have ini_X2 := hts _ (List.mem_cons_of_mem _ tw_88)
  have im_yX2_bytes := hts _ (List.mem_cons_of_mem _ tw_359)
  have se_yX2_bytes := hts _ (List.mem_cons_of_mem _ tw_26)
  have f14 := hts _ (List.mem_cons_of_mem _ tw_207)
  have n86 := hN (.methodLinkNest RX5 86 yX2_drain "SegmentLog") (by decide +kernel)
  have im_yX2_drain := hts _ (List.mem_cons_of_mem _ tw_363)
  have se_yX2_drain := hts _ (List.mem_cons_of_mem _ tw_27)
  refine lv_iload_n hx hb dX5_commit_0 rfl (lv_at hl 1 rfl) ?_
  refine lv_iconst (v := (-1)) hx hb dX5_commit_1 (by decide) ?_
  refine lv_icmp_ge (tgt := 7) hx hb dX5_commit_2 (by decide) (fun c2 => ?_) (fun c2 => ?_)
  · refine lv_aload_n hx hb dX5_commit_7 rfl (lv_at hl 0 rfl) ?_
    refine va_get (D := (dC, dI)) (ci := 5) (v := .int (bI op)) (C := RX5) (T := TX5) (N := 11) hx hb hts in_X5 hown hK hP 0 rfl rfl 6 (by decide) f49 (fun _ h9 => h9) rfl dX5_commit_8 ?_
    refine x_if_ne_b (tgt := 17) hx hb dX5_commit_11 (by decide) (fun c11 => ?_) (fun c11 => ?_)
    · refine lv_aload_n hx hb dX5_commit_17 rfl (lv_at hl 0 rfl) ?_
      refine va_get (D := (dC, dI)) (ci := 5) (v := .int (nI nx)) (C := RX5) (T := TX5) (N := 11) hx hb hts in_X5 hown hK hP 0 rfl rfl 7 (by decide) f53 (fun _ h9 => h9) rfl dX5_commit_18 ?_
      refine lv_aload_n hx hb dX5_commit_21 rfl (lv_at hl 0 rfl) ?_
      refine va_get (D := (dC, dI)) (ci := 5) (v := .ref h1) (C := RX5) (T := TX5) (N := 11) hx hb hts in_X5 hown hK hP 0 rfl rfl 4 (by decide) f42 (fun _ h9 => h9) rfl dX5_commit_22 ?_
      refine va_getN (D := (dC, dI)) (ci := 1) (v := .int (nI ex)) (C := RX1) (T := TX1) (N := 4) hx hb hts in_X1 hown hK hP 13 rfl rfl 3 (by decide) (va_Nw.use (A := args) rfl f90) (fun _ h9 => h9) rfl dX5_commit_25 ?_
      refine x_isub hx hb dX5_commit_28 (by omega) ?_
      refine lv_istore_n (lv' := [(2, .int (nI (nx - ex))), (0, .ref (a 0)), (1, .int (nI n))]) hx hb dX5_commit_29 rfl hl (by decide) rfl (fun ls hl => ?_)
      refine lv_iload_n hx hb dX5_commit_30 rfl (lv_at hl 0 rfl) ?_
      refine x_if_gt (tgt := 36) hx hb dX5_commit_31 (by decide) (by omega) (fun c31 => ?_) (fun c31 => ?_)
      · refine lv_aload_n hx hb dX5_commit_36 rfl (lv_at hl 1 rfl) ?_
        refine va_get (D := (dC, dI)) (ci := 5) (v := .ref h1) (C := RX5) (T := TX5) (N := 11) hx hb hts in_X5 hown hK hP 0 rfl rfl 4 (by decide) f42 (fun _ h9 => h9) rfl dX5_commit_37 ?_
        refine va_getN (D := (dC, dI)) (ci := 1) (v := .int (nI ef)) (C := RX1) (T := TX1) (N := 4) hx hb hts in_X1 hown hK hP 13 rfl rfl 1 (by decide) (va_Nw.use (A := args) rfl f91) (fun _ h9 => h9) rfl dX5_commit_40 ?_
        refine lv_iconst (v := nI 5) hx hb dX5_commit_43 (by decide) ?_
        refine x_icmp_ne (tgt := 51) hx hb dX5_commit_44 (by decide) (by omega) (by omega) (fun c44 => ?_) (fun c44 => ?_)
        · refine lv_iconst (v := nI 0) hx hb dX5_commit_51 (by decide) ?_
          refine x_top (y := bI false) rfl ?_
          refine lv_istore_n (lv' := [(3, .int (bI false)), (2, .int (nI (nx - ex))), (0, .ref (a 0)), (1, .int (nI n))]) hx hb dX5_commit_52 rfl hl (by decide) rfl (fun ls hl => ?_)
          refine lv_iload_n hx hb dX5_commit_53 rfl (lv_at hl 0 rfl) ?_
          refine x_if_eq_b (tgt := 67) hx hb dX5_commit_54 (by decide) (fun c54 => ?_) (fun c54 => ?_)
          · refine lv_iload_n hx hb dX5_commit_67 rfl (lv_at hl 1 rfl) ?_
            refine lv_istore (lv' := [(4, .int (nI (nx - ex))), (3, .int (bI false)), (2, .int (nI (nx - ex))), (0, .ref (a 0)), (1, .int (nI n))]) hx hb dX5_commit_68 hl (by decide) rfl (fun ls hl => ?_)
            refine lv_iload hx hb dX5_commit_70 (lv_at hl 0 rfl) ?_
            refine x_calli (va_runS (As := [.int (nI (nx - ex))]) (rest := []) ⟨hx, hb, hml, hown, hts⟩ (c_SL_blocksFor (nx - ex) (by omega)) (va_cwS 1 hts (tbS tw_372 tw_373 tw_84 tw_374) rfl rfl rfl (by decide +kernel) ⟨Nat.le_of_ble_eq_true rfl, Nat.le_of_ble_eq_true rfl⟩) ⟨x_blind, x_pre hK hP hD hN⟩ rfl rfl hl.1 rfl (lv_room (Nat.le_of_ble_eq_true rfl)) dX5_commit_72 ⟨Nat.zero_le _, Nat.zero_le _⟩) hS (fun H locs hP hD hS => ?_)
            have hP : va_P (dC, dI) vwCl (wS a cB cI cL h1 h2 s1 s2 op nx wt sf lf dn dg un ug qn qt qg tn tk tv ts ef eg ex eF pf pg px pF) H := hP
            have hD : va_D A (wS a cB cI cL h1 h2 s1 s2 op nx wt sf lf dn dg un ug qn qt qg tn tk tv ts ef eg ex eF pf pg px pF) := hD
            refine lv_istore (lv' := [(5, .int (nI ((nx - ex + 2) / 3))), (4, .int (nI (nx - ex))), (3, .int (bI false)), (2, .int (nI (nx - ex))), (0, .ref (a 0)), (1, .int (nI n))]) hx hb dX5_commit_75 hl (by decide) rfl (fun ls hl => ?_)
            refine lv_aload_n hx hb dX5_commit_77 rfl (lv_at hl 4 rfl) ?_
            refine va_get (D := (dC, dI)) (ci := 5) (v := .ref (a 3)) (C := RX5) (T := TX5) (N := 11) hx hb hts in_X5 hown hK hP 0 rfl rfl 1 (by decide) f21 (fun _ h9 => h9) rfl dX5_commit_78 ?_
            refine lv_iload hx hb dX5_commit_81 (lv_at hl 0 rfl) ?_
            refine x_calli (va_runVN (As := [.int (nI ((nx - ex + 2) / 3))]) (rest := []) ⟨hx, hb, hml, hown, hts⟩ (c_Us_leastRun (show okU (fun ug' => wS a cB cI cL h1 h2 s1 s2 op nx wt sf lf dn dg un ug' qn qt qg tn tk tv ts ef eg ex eF pf pg px pF) 3 4 (a 3) (a 4) cI un from ⟨fun _ => rfl, fun _ => rfl, fun _ _ => rfl⟩) (tyS_I cB cI cL) (by omega) ug hug ((nx - ex + 2) / 3) (by omega) (by omega)) ⟨(va_cnB 1 hts (tbG tw_286) rfl rfl rfl n101 ini_X4 (by decide +kernel) ⟨Nat.le_of_ble_eq_true rfl, Nat.le_of_ble_eq_true rfl⟩), im_yX4_leastRun, se_yX4_leastRun⟩ ⟨x_blind, va_recv hK hP (ci := 4) (q0 := 3) rfl rfl, x_pre hK hP hD hN⟩ rfl rfl hl.1 rfl (lv_room (Nat.le_of_ble_eq_true rfl)) dX5_commit_83 ⟨Nat.zero_le _, Nat.zero_le _⟩) hS (fun H locs hP hD hS => ?_)
            have hP : va_P (dC, dI) vwCl (wS a cB cI cL h1 h2 s1 s2 op nx wt sf lf dn dg un ug qn qt qg tn tk tv ts ef eg ex eF pf pg px pF) H := hP
            have hD : va_D A (wS a cB cI cL h1 h2 s1 s2 op nx wt sf lf dn dg un ug qn qt qg tn tk tv ts ef eg ex eF pf pg px pF) := hD
            refine lv_istore (lv' := [(6, .int (oI (ulr ug ((nx - ex + 2) / 3) un 0 0))), (5, .int (nI ((nx - ex + 2) / 3))), (4, .int (nI (nx - ex))), (3, .int (bI false)), (2, .int (nI (nx - ex))), (0, .ref (a 0)), (1, .int (nI n))]) hx hb dX5_commit_86 hl (by decide) rfl (fun ls hl => ?_)
            rw [hfr] at hl
            have hl : lv_has ls 7 [(6, .int (nI y)), (5, .int (nI ((nx - ex + 2) / 3))), (4, .int (nI (nx - ex))), (3, .int (bI false)), (2, .int (nI (nx - ex))), (0, .ref (a 0)), (1, .int (nI n))] := hl
            refine lv_iload hx hb dX5_commit_88 (lv_at hl 0 rfl) ?_
            refine lv_bipush (v := (-2)) hx hb dX5_commit_90 (by decide) ?_
            refine lv_icmp_ne (tgt := 98) hx hb dX5_commit_92 (by decide) (fun c92 => ?_) (fun c92 => ?_)
            · refine lv_aload_n hx hb dX5_commit_98 rfl (lv_at hl 5 rfl) ?_
              refine lv_iload_n hx hb dX5_commit_99 rfl (lv_at hl 3 rfl) ?_
              refine lv_iload hx hb dX5_commit_100 (lv_at hl 0 rfl) ?_
              refine lv_iload hx hb dX5_commit_102 (lv_at hl 1 rfl) ?_
              refine lv_iload hx hb dX5_commit_104 (lv_at hl 2 rfl) ?_
              refine x_callv (va_runV (As := [.int (bI false), .int (nI y), .int (nI ((nx - ex + 2) / 3)), .int (nI (nx - ex))]) (rest := []) ⟨hx, hb, hml, hown, hts⟩ (c_SL_planHead heF hpF (by omega) (by omega) (by omega) (by omega) false y (((nx - ex) + 2) / 3) (nx - ex) (by omega) (by omega) (by omega) (fun q => by first | omega | cases q)) (cwV 4 hts (tbV tw_376 tw_378 tw_28 tw_84 tw_379) rfl rfl rfl (by decide +kernel) ⟨Nat.le_of_ble_eq_true rfl, Nat.le_of_ble_eq_true rfl⟩) ⟨x_blind, va_recv hK hP (ci := 5) (q0 := 0) rfl rfl, x_pre hK hP hD hN⟩ rfl rfl hl.1 rfl (lv_room (Nat.le_of_ble_eq_true rfl)) dX5_commit_106 ⟨Nat.zero_le _, Nat.zero_le _⟩) hS (fun H locs hP hD hS => ?_)
              rw [hP0] at hP hD
              have hP : va_P (dC, dI) vwCl (wS a cB cI cL h1 h2 s1 s2 op nx wt sf lf dn dg un ug qn qt qg tn tk tv ts ef eg ex eF P0.1 (eg + 1) nx P0.2) H := hP
              have hD : va_D A (wS a cB cI cL h1 h2 s1 s2 op nx wt sf lf dn dg un ug qn qt qg tn tk tv ts ef eg ex eF P0.1 (eg + 1) nx P0.2) := hD
              refine lv_aload_n hx hb dX5_commit_109 rfl (lv_at hl 5 rfl) ?_
              refine lv_iload_n hx hb dX5_commit_110 rfl (lv_at hl 3 rfl) ?_
              refine x_callv (va_runV (As := [.int (bI false)]) (rest := []) ⟨hx, hb, hml, hown, hts⟩ (c_SL_queueFile (by omega) (by omega) hqt hqg hs hPl (by omega) false (((nx - ex) + 2) / 3) (nx - ex) y (lf + 1) hfb hfr3 hfy hfn (by omega) rfl (by omega) (by omega) (by omega)) (cwV 1 hts (tbV tw_393 tw_395 tw_32 tw_84 tw_396) rfl rfl rfl (by decide +kernel) ⟨Nat.le_of_ble_eq_true rfl, Nat.le_of_ble_eq_true rfl⟩) ⟨x_blind, va_recv hK hP (ci := 5) (q0 := 0) rfl rfl, x_pre hK hP hD hN⟩ rfl rfl hl.1 rfl (lv_room (Nat.le_of_ble_eq_true rfl)) dX5_commit_111 ⟨Nat.zero_le _, Nat.zero_le _⟩) hS (fun H locs hP hD hS => ?_)
              rw [hQ0, hG0] at hP hD
              have hP : va_P (dC, dI) vwCl (wS a cB cI cL h1 h2 s1 s2 op nx wt sf lf dn dg un ug Q0.1 Q0.2.1 G0 tn tk tv ts ef eg ex eF P0.1 (eg + 1) nx P0.2) H := hP
              have hD : va_D A (wS a cB cI cL h1 h2 s1 s2 op nx wt sf lf dn dg un ug Q0.1 Q0.2.1 G0 tn tk tv ts ef eg ex eF P0.1 (eg + 1) nx P0.2) := hD
              refine lv_aload_n hx hb dX5_commit_114 rfl (lv_at hl 5 rfl) ?_
              refine x_callv (va_runV (As := []) (rest := []) ⟨hx, hb, hml, hown, hts⟩ (c_SL_queueHead (by omega) hQt hGl hPl (by omega) (by omega) (by omega) (by omega)) (cwV 0 hts (tbV tw_406 tw_408 tw_34 tw_84 tw_409) rfl rfl rfl (by decide +kernel) ⟨Nat.le_of_ble_eq_true rfl, Nat.le_of_ble_eq_true rfl⟩) ⟨x_blind, va_recv hK hP (ci := 5) (q0 := 0) rfl rfl, x_pre hK hP hD hN⟩ rfl rfl hl.1 rfl (lv_room (Nat.le_of_ble_eq_true rfl)) dX5_commit_115 ⟨Nat.zero_le _, Nat.zero_le _⟩) hS (fun H locs hP hD hS => ?_)
              have hP : va_P (dC, dI) vwCl (wS a cB cI cL h1 h2 s1 s2 op nx wt sf lf dn dg un ug (Q0.1 + 1) (va_up Q0.2.1 Q0.1 ((eg + 1) % 2)) (qhG Q0.1 P0.1 (eg + 1) nx P0.2 Q0.2.1 G0) tn tk tv ts ef eg ex eF P0.1 (eg + 1) nx P0.2) H := hP
              have hD : va_D A (wS a cB cI cL h1 h2 s1 s2 op nx wt sf lf dn dg un ug (Q0.1 + 1) (va_up Q0.2.1 Q0.1 ((eg + 1) % 2)) (qhG Q0.1 P0.1 (eg + 1) nx P0.2 Q0.2.1 G0) tn tk tv ts ef eg ex eF P0.1 (eg + 1) nx P0.2) := hD
              refine lv_iload_n hx hb dX5_commit_118 rfl (lv_at hl 6 rfl) ?_
              refine x_if_lt (tgt := 154) hx hb dX5_commit_119 (by decide) (by omega) ?_
              refine lv_iload_n hx hb dX5_commit_122 rfl (lv_at hl 6 rfl) ?_
              refine lv_aload_n hx hb dX5_commit_123 rfl (lv_at hl 5 rfl) ?_
              refine va_get (D := (dC, dI)) (ci := 5) (v := .ref (a 5)) (C := RX5) (T := TX5) (N := 11) hx hb hts in_X5 hown hK hP 0 rfl rfl 2 (by decide) f28 (fun _ h9 => h9) rfl dX5_commit_124 ?_
              refine x_calli (va_runVN (As := []) (rest := [.int (nI n)]) ⟨hx, hb, hml, hown, hts⟩ c_Qu_bytes ⟨(va_cnB 0 hts (tbG tw_360) rfl rfl rfl n83 ini_X2 (by decide +kernel) ⟨Nat.le_of_ble_eq_true rfl, Nat.le_of_ble_eq_true rfl⟩), im_yX2_bytes, se_yX2_bytes⟩ ⟨x_blind, va_recv hK hP (ci := 2) (q0 := 5) rfl rfl, x_pre hK hP hD hN⟩ rfl rfl hl.1 rfl (lv_room (Nat.le_of_ble_eq_true rfl)) dX5_commit_127 ⟨Nat.zero_le _, Nat.zero_le _⟩) hS (fun H locs hP hD hS => ?_)
              have hP : va_P (dC, dI) vwCl (wS a cB cI cL h1 h2 s1 s2 op nx wt sf lf dn dg un ug (Q0.1 + 1) (va_up Q0.2.1 Q0.1 ((eg + 1) % 2)) (qhG Q0.1 P0.1 (eg + 1) nx P0.2 Q0.2.1 G0) tn tk tv ts ef eg ex eF P0.1 (eg + 1) nx P0.2) H := hP
              have hD : va_D A (wS a cB cI cL h1 h2 s1 s2 op nx wt sf lf dn dg un ug (Q0.1 + 1) (va_up Q0.2.1 Q0.1 ((eg + 1) % 2)) (qhG Q0.1 P0.1 (eg + 1) nx P0.2 Q0.2.1 G0) tn tk tv ts ef eg ex eF P0.1 (eg + 1) nx P0.2) := hD
              refine x_icmp_ge (tgt := 154) hx hb dX5_commit_130 (by decide) (by omega) (by omega) (fun c130 => ?_) (fun c130 => ?_)
              · exact absurd c130 (by omega)
              · refine lv_aload_n hx hb dX5_commit_133 rfl (lv_at hl 5 rfl) ?_
                refine va_get (D := (dC, dI)) (ci := 5) (v := .ref (a 5)) (C := RX5) (T := TX5) (N := 11) hx hb hts in_X5 hown hK hP 0 rfl rfl 2 (by decide) f28 (fun _ h9 => h9) rfl dX5_commit_134 ?_
                refine lv_aload_n hx hb dX5_commit_137 rfl (lv_at hl 5 rfl) ?_
                refine va_get (D := (dC, dI)) (ci := 5) (v := .ref (a 1)) (C := RX5) (T := TX5) (N := 11) hx hb hts in_X5 hown hK hP 0 rfl rfl 0 (by decide) f14 (fun _ h9 => h9) rfl dX5_commit_138 ?_
                refine lv_iload_n hx hb dX5_commit_141 rfl (lv_at hl 6 rfl) ?_
                refine x_calli (va_runVN (As := [.ref (a 1), .int (nI n)]) (rest := []) ⟨hx, hb, hml, hown, hts⟩ (c_Qu_drain (by omega) (by omega) (va_up_lt hQt (by omega)) (qhG_lt hGl) hdg n (by omega)) ⟨(va_cnB 2 hts (tbG tw_364) rfl rfl rfl n86 ini_X2 (by decide +kernel) ⟨Nat.le_of_ble_eq_true rfl, Nat.le_of_ble_eq_true rfl⟩), im_yX2_drain, se_yX2_drain⟩ ⟨x_blind, va_recv hK hP (ci := 2) (q0 := 5) rfl rfl, x_pre hK hP hD hN⟩ rfl rfl hl.1 rfl (lv_room (Nat.le_of_ble_eq_true rfl)) dX5_commit_142 ⟨Nat.zero_le _, Nat.zero_le _⟩) hS (fun H locs hP hD hS => ?_)
                have hP : va_P (dC, dI) vwCl (wS a cB cI cL h1 h2 s1 s2 op nx wt sf lf dn (qdr dn (va_up Q0.2.1 Q0.1 ((eg + 1) % 2)) (qhG Q0.1 P0.1 (eg + 1) nx P0.2 Q0.2.1 G0) (min n ((Q0.1 + 1) * 64)) 0 dg) un ug 0 (va_up Q0.2.1 Q0.1 ((eg + 1) % 2)) (qhG Q0.1 P0.1 (eg + 1) nx P0.2 Q0.2.1 G0) tn tk tv ts ef eg ex eF P0.1 (eg + 1) nx P0.2) H := hP
                have hD : va_D A (wS a cB cI cL h1 h2 s1 s2 op nx wt sf lf dn (qdr dn (va_up Q0.2.1 Q0.1 ((eg + 1) % 2)) (qhG Q0.1 P0.1 (eg + 1) nx P0.2 Q0.2.1 G0) (min n ((Q0.1 + 1) * 64)) 0 dg) un ug 0 (va_up Q0.2.1 Q0.1 ((eg + 1) % 2)) (qhG Q0.1 P0.1 (eg + 1) nx P0.2 Q0.2.1 G0) tn tk tv ts ef eg ex eF P0.1 (eg + 1) nx P0.2) := hD
                refine lv_pop hx hb dX5_commit_145 rfl ?_
                refine lv_aload_n hx hb dX5_commit_146 rfl (lv_at hl 5 rfl) ?_
                refine lv_iconst (v := nI 0) hx hb dX5_commit_147 (by decide) ?_
                refine x_top (y := bI false) rfl ?_
                refine va_put (D := (dC, dI)) (ci := 5) (v := .int (bI false)) (ty := .boolean) (C := RX5) (T := TX5) (N := 11) hx hb hts in_X5 tyX5 tyX5_ok nmX5 hown hK hP hD hS 0 rfl rfl 6 (by decide) f49 (fun _ h9 => h9) rfl (by decide +kernel) (x_narZ _) (x_fitZ _) (Nat.le_of_ble_eq_true rfl) dX5_commit_148 (fun H locs hP hD hS => ?_)
                have hP : va_P (dC, dI) vwCl (wS a cB cI cL h1 h2 s1 s2 false nx wt sf lf dn (qdr dn (va_up Q0.2.1 Q0.1 ((eg + 1) % 2)) (qhG Q0.1 P0.1 (eg + 1) nx P0.2 Q0.2.1 G0) (min n ((Q0.1 + 1) * 64)) 0 dg) un ug 0 (va_up Q0.2.1 Q0.1 ((eg + 1) % 2)) (qhG Q0.1 P0.1 (eg + 1) nx P0.2 Q0.2.1 G0) tn tk tv ts ef eg ex eF P0.1 (eg + 1) nx P0.2) H := hP
                have hD : va_D A (wS a cB cI cL h1 h2 s1 s2 false nx wt sf lf dn (qdr dn (va_up Q0.2.1 Q0.1 ((eg + 1) % 2)) (qhG Q0.1 P0.1 (eg + 1) nx P0.2 Q0.2.1 G0) (min n ((Q0.1 + 1) * 64)) 0 dg) un ug 0 (va_up Q0.2.1 Q0.1 ((eg + 1) % 2)) (qhG Q0.1 P0.1 (eg + 1) nx P0.2 Q0.2.1 G0) tn tk tv ts ef eg ex eF P0.1 (eg + 1) nx P0.2) := hD
                refine lv_bipush (v := (-2)) hx hb dX5_commit_151 (by decide) ?_
                exact hret dX5_commit_153 (by rfl) hP hD hS
            · exact absurd c92 hy9
          · cases c54
        · exact absurd c44 (by omega)
      · exact absurd c31 (by omega)
    · exact absurd (ho.symm.trans c11) (by decide)
  · exact absurd (x_m1le hn1) c2

set_option maxHeartbeats 4000000 in
set_option maxRecDepth 100000 in
theorem c_SL_openT {l : Launch} {dC : Nat → ClassId} {dI : Nat → Nat → Nat} {A : Nat → Prop} {a : Nat → Nat} {cB cI cL : ClassId} {h1 h2 s1 s2 : Nat} {op : Bool} {nx wt sf lf dn : Nat} {dg : Nat → Nat} {un : Nat} {ug : Nat → Nat} {qn : Nat} {qt qg : Nat → Nat} {tn : Nat} {tk tv : Nat → Int64} {ts : Nat → Nat} {ef eg ex : Nat} {eF : Nat → Nat} {pf pg px : Nat} {pF : Nat → Nat} (ho : op = true) : Met l yX5_open (Cond.code yX5_open cX5_open 3 (some .int) :: TB) { frames := 6, cells := 0, slots := 0, locals := 145 } (xPre Nst (dC, dI) A (tyS cB cI cL) (wS a cB cI cL h1 h2 s1 s2 op nx wt sf lf dn dg un ug qn qt qg tn tk tv ts ef eg ex eF pf pg px pF) [.ref (a 0)]) (xQi (dC, dI) A ((-5)) (wS a cB cI cL h1 h2 s1 s2 op nx wt sf lf dn dg un ug qn qt qg tn tk tv ts ef eg ex eF pf pg px pF)) 0 0 A := by
  refine x_ofWi (cc := cX5_open) (maxL := 3) (by decide) rfl (Nat.le_of_ble_eq_true rfl) ?_
  intro p e s m args below meth c Q hx hb hml hts hown hK hN hP hD hS hret ls hl
  have hl : lv_has ls 3 [(0, .ref (a 0))] := hl
  have hown : s.vm.findClass RX5 = some m.cls := hown
  have f49 := hts _ (List.mem_cons_of_mem _ tw_213)
  have in_X5 := (fun q hq => List.mem_cons_of_mem _ (inX5 q hq) : ∀ q ∈ wsX50, q ∈ (Cond.code yX5_open cX5_open 3 (some .int) :: TB))
  refine lv_aload_n hx hb dX5_open_0 rfl (lv_at hl 0 rfl) ?_
  refine va_get (D := (dC, dI)) (ci := 5) (v := .int (bI op)) (C := RX5) (T := TX5) (N := 11) hx hb hts in_X5 hown hK hP 0 rfl rfl 6 (by decide) f49 (fun _ h9 => h9) rfl dX5_open_1 ?_
  refine x_if_eq_b (tgt := 10) hx hb dX5_open_4 (by decide) (fun c4 => ?_) (fun c4 => ?_)
  · exact absurd (ho.symm.trans c4) (by decide)
  · refine lv_bipush (v := (-5)) hx hb dX5_open_7 (by decide) ?_
    exact hret dX5_open_9 (by rfl) hP hD hS

set_option maxHeartbeats 4000000 in
set_option maxRecDepth 100000 in
theorem c_SL_openWS {l : Launch} {dC : Nat → ClassId} {dI : Nat → Nat → Nat} {A : Nat → Prop} {a : Nat → Nat} {cB cI cL : ClassId} {h1 h2 s1 s2 : Nat} {op : Bool} {nx wt sf lf dn : Nat} {dg : Nat → Nat} {un : Nat} {ug : Nat → Nat} {qn : Nat} {qt qg : Nat → Nat} {tn : Nat} {tk tv : Nat → Int64} {ts : Nat → Nat} {ef eg ex : Nat} {eF : Nat → Nat} {pf pg px : Nat} {pF : Nat → Nat} (hdn : dn ≤ 64) (hun : un ≤ 64) (htn : tn ≤ 192) (hdg : ∀ j, dg j < 256) (hug : ∀ j, ug j < 8) (hs : ∀ j, ts j < 2 ^ 31) (heF : ∀ j, eF j < 1048576) (hpF : ∀ j, pF j < 1048576) (wr : Nat) (R0 R1 : Nat × Nat × Nat × (Nat → Nat)) (ho : op = false) (hR0 : hrd dn dg 0 eF = R0) (hR1 : hrd dn dg 1 pF = R1) (hsw : R0.2.1 < R1.2.1) (hX5 : R1.1 ≤ 5) (hgo : ∀ i, i < R1.1 → (hfl R1.1 R1.2.2.2 i 3 + 2) / 3 = hfl R1.1 R1.2.2.2 i 2) (hw0 : fwO dn dg R1.1 R1.2.2.2 R1.1 0 = some wr) (hw1 : wr < 2 ^ 31) : Met l yX5_open (Cond.code yX5_open cX5_open 3 (some .int) :: TB) { frames := 6, cells := 0, slots := 0, locals := 145 } (xPre Nst (dC, dI) A (tyS cB cI cL) (wS a cB cI cL h1 h2 s1 s2 op nx wt sf lf dn dg un ug qn qt qg tn tk tv ts ef eg ex eF pf pg px pF) [.ref (a 0)]) (xQi (dC, dI) A (((-10) - nI wr)) (wS a cB cI cL s1 s2 h1 h2 op nx wt sf lf dn dg un ug qn qt qg tn tk tv ts R1.1 R1.2.1 R1.2.2.1 R1.2.2.2 R0.1 R0.2.1 R0.2.2.1 R0.2.2.2)) 0 0 A := by
  refine x_ofWi (cc := cX5_open) (maxL := 3) (by decide) rfl (Nat.le_of_ble_eq_true rfl) ?_
  intro p e s m args below meth c Q hx hb hml hts hown hK hN hP hD hS hret ls hl
  have hl : lv_has ls 3 [(0, .ref (a 0))] := hl
  have hown : s.vm.findClass RX5 = some m.cls := hown
  have hXl : ∀ j, R1.2.2.2 j < 1048576 := by rw [← hR1]; exact hrd_lt hdg hpF
  have hYl : ∀ j, R0.2.2.2 j < 1048576 := by rw [← hR0]; exact hrd_lt hdg heF
  have hXb : R1.2.1 ≤ 1000000000 ∧ R1.2.2.1 ≤ 1000000000 := by rw [← hR1]; exact hrd_b hdg _
  have hy9 : ¬ nI wr = (-2 : Int32) := fun q => absurd (show (nI wr) < 0 by rw [q]; decide) (nI_pos (by omega))
  have f49 := hts _ (List.mem_cons_of_mem _ tw_213)
  have in_X5 := (fun q hq => List.mem_cons_of_mem _ (inX5 q hq) : ∀ q ∈ wsX50, q ∈ (Cond.code yX5_open cX5_open 3 (some .int) :: TB))
  refine lv_aload_n hx hb dX5_open_0 rfl (lv_at hl 0 rfl) ?_
  refine va_get (D := (dC, dI)) (ci := 5) (v := .int (bI op)) (C := RX5) (T := TX5) (N := 11) hx hb hts in_X5 hown hK hP 0 rfl rfl 6 (by decide) f49 (fun _ h9 => h9) rfl dX5_open_1 ?_
  refine x_if_eq_b (tgt := 10) hx hb dX5_open_4 (by decide) (fun c4 => ?_) (fun c4 => ?_)
  · refine lv_aload_n hx hb dX5_open_10 rfl (lv_at hl 0 rfl) ?_
    refine x_callv (va_runV (As := []) (rest := []) ⟨hx, hb, hml, hown, hts⟩ (c_SL_chooseHead (by omega) hdg heF hpF) (cwV 0 hts (tbV tw_437 tw_439 tw_39 tw_84 tw_440) rfl rfl rfl (by decide +kernel) ⟨Nat.le_of_ble_eq_true rfl, Nat.le_of_ble_eq_true rfl⟩) ⟨x_blind, va_recv hK hP (ci := 5) (q0 := 0) rfl rfl, x_pre hK hP hD hN⟩ rfl rfl hl.1 rfl (lv_room (Nat.le_of_ble_eq_true rfl)) dX5_open_11 ⟨Nat.zero_le _, Nat.zero_le _⟩) hS (fun H locs hP hD hS => ?_)
    rw [hR0, hR1] at hP hD
    simp only [if_pos hsw] at hP hD
    have hP : va_P (dC, dI) vwCl (wS a cB cI cL s1 s2 h1 h2 op nx wt sf lf dn dg un ug qn qt qg tn tk tv ts R1.1 R1.2.1 R1.2.2.1 R1.2.2.2 R0.1 R0.2.1 R0.2.2.1 R0.2.2.2) H := hP
    have hD : va_D A (wS a cB cI cL s1 s2 h1 h2 op nx wt sf lf dn dg un ug qn qt qg tn tk tv ts R1.1 R1.2.1 R1.2.2.1 R1.2.2.2 R0.1 R0.2.1 R0.2.2.1 R0.2.2.2) := hD
    refine lv_aload_n hx hb dX5_open_14 rfl (lv_at hl 0 rfl) ?_
    refine x_calli (va_runV (As := []) (rest := []) ⟨hx, hb, hml, hown, hts⟩ (c_SL_firstWrongBlock (by omega) hdg hXl (by omega) (by first | assumption | exact hgo)) (cwV 0 hts (tbV tw_471 tw_473 tw_45 tw_84 tw_474) rfl rfl rfl (by decide +kernel) ⟨Nat.le_of_ble_eq_true rfl, Nat.le_of_ble_eq_true rfl⟩) ⟨x_blind, va_recv hK hP (ci := 5) (q0 := 0) rfl rfl, x_pre hK hP hD hN⟩ rfl rfl hl.1 rfl (lv_room (Nat.le_of_ble_eq_true rfl)) dX5_open_15 ⟨Nat.zero_le _, Nat.zero_le _⟩) hS (fun H locs hP hD hS => ?_)
    have hP : va_P (dC, dI) vwCl (wS a cB cI cL s1 s2 h1 h2 op nx wt sf lf dn dg un ug qn qt qg tn tk tv ts R1.1 R1.2.1 R1.2.2.1 R1.2.2.2 R0.1 R0.2.1 R0.2.2.1 R0.2.2.2) H := hP
    have hD : va_D A (wS a cB cI cL s1 s2 h1 h2 op nx wt sf lf dn dg un ug qn qt qg tn tk tv ts R1.1 R1.2.1 R1.2.2.1 R1.2.2.2 R0.1 R0.2.1 R0.2.2.1 R0.2.2.2) := hD
    refine lv_istore_n (lv' := [(1, .int (oI (fwO dn dg R1.1 R1.2.2.2 R1.1 0))), (0, .ref (a 0))]) hx hb dX5_open_18 rfl hl (by decide) rfl (fun ls hl => ?_)
    rw [hw0] at hl
    have hl : lv_has ls 3 [(1, .int (nI wr)), (0, .ref (a 0))] := hl
    refine lv_iload_n hx hb dX5_open_19 rfl (lv_at hl 0 rfl) ?_
    refine lv_bipush (v := (-2)) hx hb dX5_open_20 (by decide) ?_
    refine lv_icmp_eq (tgt := 30) hx hb dX5_open_22 (by decide) (fun c22 => ?_) (fun c22 => ?_)
    · exact absurd c22 hy9
    · refine lv_bipush (v := (-10)) hx hb dX5_open_25 (by decide) ?_
      refine lv_iload_n hx hb dX5_open_27 rfl (lv_at hl 0 rfl) ?_
      refine lv_isub hx hb dX5_open_28 ?_
      exact hret dX5_open_29 (by rfl) hP hD hS
  · exact absurd (ho.symm.trans c4) (by decide)

set_option maxHeartbeats 4000000 in
set_option maxRecDepth 100000 in
theorem c_SL_openGS {l : Launch} {dC : Nat → ClassId} {dI : Nat → Nat → Nat} {A : Nat → Prop} {a : Nat → Nat} {cB cI cL : ClassId} {h1 h2 s1 s2 : Nat} {op : Bool} {nx wt sf lf dn : Nat} {dg : Nat → Nat} {un : Nat} {ug : Nat → Nat} {qn : Nat} {qt qg : Nat → Nat} {tn : Nat} {tk tv : Nat → Int64} {ts : Nat → Nat} {ef eg ex : Nat} {eF : Nat → Nat} {pf pg px : Nat} {pF : Nat → Nat} (hdn : dn ≤ 64) (hun : un ≤ 64) (htn : tn ≤ 192) (hdg : ∀ j, dg j < 256) (hug : ∀ j, ug j < 8) (hs : ∀ j, ts j < 2 ^ 31) (heF : ∀ j, eF j < 1048576) (hpF : ∀ j, pF j < 1048576) (S0 : TS × (Nat → Nat) × Nat) (V0 : RS) (R0 R1 : Nat × Nat × Nat × (Nat → Nat)) (ho : op = false) (hR0 : hrd dn dg 0 eF = R0) (hR1 : hrd dn dg 1 pF = R1) (hsw : R0.2.1 < R1.2.1) (hX5 : R1.1 ≤ 5) (hgo : ∀ i, i < R1.1 → (hfl R1.1 R1.2.2.2 i 3 + 2) / 3 = hfl R1.1 R1.2.2.2 i 2) (hw0 : fwO dn dg R1.1 R1.2.2.2 R1.1 0 = none) (hS0 : opL dn dg dn R1.1 R1.2.2.2 R1.1 0 ((0, tk, tv, ts), uclr dn ug, 0) = S0) (hV0 : rpl dn dg dn dn (S0.1, R1.2.2.1, mol dn dg dn (dn - 2) 2 S0.2.1) = V0) (hv1 : 0 < V0.2.1) (hn16 : ∀ i, hfl R1.1 R1.2.2.2 i 0 < 2 ^ 18) : Met l yX5_open (Cond.code yX5_open cX5_open 3 (some .int) :: TB) { frames := 6, cells := 0, slots := 0, locals := 145 } (xPre Nst (dC, dI) A (tyS cB cI cL) (wS a cB cI cL h1 h2 s1 s2 op nx wt sf lf dn dg un ug qn qt qg tn tk tv ts ef eg ex eF pf pg px pF) [.ref (a 0)]) (xQi (dC, dI) A (nI V0.1.1) (wS a cB cI cL s1 s2 h1 h2 true V0.2.1 0 (V0.2.1 - 1) S0.2.2 dn (wol dn dn V0.2.2 (dn - 2) 2 dg) dn (utn 4 0 dn V0.2.2 0) 0 qt qg V0.1.1 V0.1.2.1 V0.1.2.2.1 V0.1.2.2.2 R1.1 R1.2.1 R1.2.2.1 R1.2.2.2 R0.1 R0.2.1 R0.2.2.1 R0.2.2.2)) 0 0 A := by
  refine x_ofWi (cc := cX5_open) (maxL := 3) (by decide) rfl (Nat.le_of_ble_eq_true rfl) ?_
  intro p e s m args below meth c Q hx hb hml hts hown hK hN hP hD hS hret ls hl
  have hl : lv_has ls 3 [(0, .ref (a 0))] := hl
  have hown : s.vm.findClass RX5 = some m.cls := hown
  have hXl : ∀ j, R1.2.2.2 j < 1048576 := by rw [← hR1]; exact hrd_lt hdg hpF
  have hYl : ∀ j, R0.2.2.2 j < 1048576 := by rw [← hR0]; exact hrd_lt hdg heF
  have hXb : R1.2.1 ≤ 1000000000 ∧ R1.2.2.1 ≤ 1000000000 := by rw [← hR1]; exact hrd_b hdg _
  have hu0 : ∀ j, uclr dn ug j < 8 := uclr_lt hug
  have f49 := hts _ (List.mem_cons_of_mem _ tw_213)
  have in_X5 := (fun q hq => List.mem_cons_of_mem _ (inX5 q hq) : ∀ q ∈ wsX50, q ∈ (Cond.code yX5_open cX5_open 3 (some .int) :: TB))
  have f42 := hts _ (List.mem_cons_of_mem _ tw_211)
  have f91 := hN (.fieldLinkNest RX5 91 "SegmentLog$Head" "files" "I" "SegmentLog") (by decide +kernel)
  have in_X1 := (fun q hq => List.mem_cons_of_mem _ (inX1 q hq) : ∀ q ∈ wsX10, q ∈ (Cond.code yX5_open cX5_open 3 (some .int) :: TB))
  have f53 := hts _ (List.mem_cons_of_mem _ tw_214)
  have f80 := hts _ (List.mem_cons_of_mem _ tw_216)
  have f35 := hts _ (List.mem_cons_of_mem _ tw_210)
  have f94 := hN (.fieldLinkNest RX5 94 "SegmentLog$Table" "size" "I" "SegmentLog") (by decide +kernel)
  have in_X3 := (fun q hq => List.mem_cons_of_mem _ (inX3 q hq) : ∀ q ∈ wsX30, q ∈ (Cond.code yX5_open cX5_open 3 (some .int) :: TB))
  refine lv_aload_n hx hb dX5_open_0 rfl (lv_at hl 0 rfl) ?_
  refine va_get (D := (dC, dI)) (ci := 5) (v := .int (bI op)) (C := RX5) (T := TX5) (N := 11) hx hb hts in_X5 hown hK hP 0 rfl rfl 6 (by decide) f49 (fun _ h9 => h9) rfl dX5_open_1 ?_
  refine x_if_eq_b (tgt := 10) hx hb dX5_open_4 (by decide) (fun c4 => ?_) (fun c4 => ?_)
  · refine lv_aload_n hx hb dX5_open_10 rfl (lv_at hl 0 rfl) ?_
    refine x_callv (va_runV (As := []) (rest := []) ⟨hx, hb, hml, hown, hts⟩ (c_SL_chooseHead (by omega) hdg heF hpF) (cwV 0 hts (tbV tw_437 tw_439 tw_39 tw_84 tw_440) rfl rfl rfl (by decide +kernel) ⟨Nat.le_of_ble_eq_true rfl, Nat.le_of_ble_eq_true rfl⟩) ⟨x_blind, va_recv hK hP (ci := 5) (q0 := 0) rfl rfl, x_pre hK hP hD hN⟩ rfl rfl hl.1 rfl (lv_room (Nat.le_of_ble_eq_true rfl)) dX5_open_11 ⟨Nat.zero_le _, Nat.zero_le _⟩) hS (fun H locs hP hD hS => ?_)
    rw [hR0, hR1] at hP hD
    simp only [if_pos hsw] at hP hD
    have hP : va_P (dC, dI) vwCl (wS a cB cI cL s1 s2 h1 h2 op nx wt sf lf dn dg un ug qn qt qg tn tk tv ts R1.1 R1.2.1 R1.2.2.1 R1.2.2.2 R0.1 R0.2.1 R0.2.2.1 R0.2.2.2) H := hP
    have hD : va_D A (wS a cB cI cL s1 s2 h1 h2 op nx wt sf lf dn dg un ug qn qt qg tn tk tv ts R1.1 R1.2.1 R1.2.2.1 R1.2.2.2 R0.1 R0.2.1 R0.2.2.1 R0.2.2.2) := hD
    refine lv_aload_n hx hb dX5_open_14 rfl (lv_at hl 0 rfl) ?_
    refine x_calli (va_runV (As := []) (rest := []) ⟨hx, hb, hml, hown, hts⟩ (c_SL_firstWrongBlock (by omega) hdg hXl (by omega) (by first | assumption | exact hgo)) (cwV 0 hts (tbV tw_471 tw_473 tw_45 tw_84 tw_474) rfl rfl rfl (by decide +kernel) ⟨Nat.le_of_ble_eq_true rfl, Nat.le_of_ble_eq_true rfl⟩) ⟨x_blind, va_recv hK hP (ci := 5) (q0 := 0) rfl rfl, x_pre hK hP hD hN⟩ rfl rfl hl.1 rfl (lv_room (Nat.le_of_ble_eq_true rfl)) dX5_open_15 ⟨Nat.zero_le _, Nat.zero_le _⟩) hS (fun H locs hP hD hS => ?_)
    have hP : va_P (dC, dI) vwCl (wS a cB cI cL s1 s2 h1 h2 op nx wt sf lf dn dg un ug qn qt qg tn tk tv ts R1.1 R1.2.1 R1.2.2.1 R1.2.2.2 R0.1 R0.2.1 R0.2.2.1 R0.2.2.2) H := hP
    have hD : va_D A (wS a cB cI cL s1 s2 h1 h2 op nx wt sf lf dn dg un ug qn qt qg tn tk tv ts R1.1 R1.2.1 R1.2.2.1 R1.2.2.2 R0.1 R0.2.1 R0.2.2.1 R0.2.2.2) := hD
    refine lv_istore_n (lv' := [(1, .int (oI (fwO dn dg R1.1 R1.2.2.2 R1.1 0))), (0, .ref (a 0))]) hx hb dX5_open_18 rfl hl (by decide) rfl (fun ls hl => ?_)
    rw [hw0] at hl
    have hl : lv_has ls 3 [(1, .int (oI none)), (0, .ref (a 0))] := hl
    refine lv_iload_n hx hb dX5_open_19 rfl (lv_at hl 0 rfl) ?_
    refine lv_bipush (v := (-2)) hx hb dX5_open_20 (by decide) ?_
    refine lv_icmp_eq (tgt := 30) hx hb dX5_open_22 (by decide) (fun c22 => ?_) (fun c22 => ?_)
    · refine lv_aload_n hx hb dX5_open_30 rfl (lv_at hl 1 rfl) ?_
      refine x_callv (va_runV (As := []) (rest := []) ⟨hx, hb, hml, hown, hts⟩ (c_SL_forget (by omega) hug) (cwV 0 hts (tbV tw_262 tw_264 tw_7 tw_84 tw_265) rfl rfl rfl (by decide +kernel) ⟨Nat.le_of_ble_eq_true rfl, Nat.le_of_ble_eq_true rfl⟩) ⟨x_blind, va_recv hK hP (ci := 5) (q0 := 0) rfl rfl, x_pre hK hP hD hN⟩ rfl rfl hl.1 rfl (lv_room (Nat.le_of_ble_eq_true rfl)) dX5_open_31 ⟨Nat.zero_le _, Nat.zero_le _⟩) hS (fun H locs hP hD hS => ?_)
      have hP : va_P (dC, dI) vwCl (wS a cB cI cL s1 s2 h1 h2 op R1.2.2.1 0 0 0 dn dg dn (uclr dn ug) 0 qt qg 0 tk tv ts R1.1 R1.2.1 R1.2.2.1 R1.2.2.2 R0.1 R0.2.1 R0.2.2.1 R0.2.2.2) H := hP
      have hD : va_D A (wS a cB cI cL s1 s2 h1 h2 op R1.2.2.1 0 0 0 dn dg dn (uclr dn ug) 0 qt qg 0 tk tv ts R1.1 R1.2.1 R1.2.2.1 R1.2.2.2 R0.1 R0.2.1 R0.2.2.1 R0.2.2.2) := hD
      refine lv_iconst (v := nI 0) hx hb dX5_open_34 (by decide) ?_
      refine lv_istore_n (lv' := [(2, .int (nI 0)), (1, .int (oI none)), (0, .ref (a 0))]) hx hb dX5_open_35 rfl hl (by decide) rfl (fun ls hl => ?_)
      have L36 : ∀ (fu36 : Nat) (i : Nat) (S' : TS × (Nat → Nat) × Nat), (R1.1 - i < fu36) → (i ≤ R1.1) → (S'.1.1 ≤ 192) → (∀ q, S'.1.2.2.2 q < 2 ^ 31) → (∀ q, S'.2.1 q < 8) → (S'.2.2 < 2 ^ 18) → (opL dn dg dn R1.1 R1.2.2.2 (R1.1 - i) i S' = opL dn dg dn R1.1 R1.2.2.2 R1.1 0 ((0, tk, tv, ts), uclr dn ug, 0)) → ∀ (H : Heap) (locs : List Loc), va_P (dC, dI) vwCl (wS a cB cI cL s1 s2 h1 h2 op R1.2.2.1 0 0 S'.2.2 dn dg dn S'.2.1 0 qt qg S'.1.1 S'.1.2.1 S'.1.2.2.1 S'.1.2.2.2 R1.1 R1.2.1 R1.2.2.1 R1.2.2.2 R0.1 R0.2.1 R0.2.2.1 R0.2.2.2) H → va_D A (wS a cB cI cL s1 s2 h1 h2 op R1.2.2.1 0 0 S'.2.2 dn dg dn S'.2.1 0 qt qg S'.1.1 S'.1.2.1 S'.1.2.2.1 S'.1.2.2.2 R1.1 R1.2.1 R1.2.2.1 R1.2.2.2 R0.1 R0.2.1 R0.2.2.1 R0.2.2.2) → va_S A s.heap H locs → ∀ (ls : Array Slot), lv_has ls 3 [(0, .ref (a 0)), (1, .int (oI none)), (2, .int (nI i))] → W p l e { frames := 6, cells := 0, slots := 0, locals := 145 } s m args below meth c H locs 0 0 Q (F0 m 36 ls []) := by
        intro fu36
        induction fu36 with
        | zero => intro i S' hm; exact absurd hm (Nat.not_lt_zero _)
        | succ fu36 ih36 =>
          intro i S' hm i36_0 i36_1 i36_2 i36_3 i36_4 i36_5 H locs hP hD hS ls hl
          have hlf9 : hfl R1.1 R1.2.2.2 i 0 < 2 ^ 18 := hn16 i
          refine lv_iload_n hx hb dX5_open_36 rfl (lv_at hl 2 rfl) ?_
          refine lv_aload_n hx hb dX5_open_37 rfl (lv_at hl 0 rfl) ?_
          refine va_get (D := (dC, dI)) (ci := 5) (v := .ref s1) (C := RX5) (T := TX5) (N := 11) hx hb hts in_X5 hown hK hP 0 rfl rfl 4 (by decide) f42 (fun _ h9 => h9) rfl dX5_open_38 ?_
          refine va_getN (D := (dC, dI)) (ci := 1) (v := .int (nI R1.1)) (C := RX1) (T := TX1) (N := 4) hx hb hts in_X1 hown hK hP 13 rfl rfl 1 (by decide) (va_Nw.use (A := args) rfl f91) (fun _ h9 => h9) rfl dX5_open_41 ?_
          refine x_icmp_ge (tgt := 58) hx hb dX5_open_44 (by decide) (by omega) (by omega) (fun c44 => ?_) (fun c44 => ?_)
          · have zz1 : S0 = S' := by
              have h := i36_5
              rw [show R1.1 - i = 0 by omega, opL] at h
              exact (h.trans hS0).symm
            subst zz1
            refine lv_aload_n hx hb dX5_open_58 rfl (lv_at hl 0 rfl) ?_
            refine x_callv (va_runV (As := []) (rest := []) ⟨hx, hb, hml, hown, hts⟩ (c_SL_replayLog (by omega) (by omega) (by omega) hdg i36_3 i36_2 (by omega) (by omega)) (cwV 0 hts (tbV tw_494 tw_496 tw_49 tw_84 tw_497) rfl rfl rfl (by decide +kernel) ⟨Nat.le_of_ble_eq_true rfl, Nat.le_of_ble_eq_true rfl⟩) ⟨x_blind, va_recv hK hP (ci := 5) (q0 := 0) rfl rfl, x_pre hK hP hD hN⟩ rfl rfl hl.1 rfl (lv_room (Nat.le_of_ble_eq_true rfl)) dX5_open_59 ⟨Nat.zero_le _, Nat.zero_le _⟩) hS (fun H locs hP hD hS => ?_)
            rw [hV0] at hP hD
            have hP : va_P (dC, dI) vwCl (wS a cB cI cL s1 s2 h1 h2 op V0.2.1 0 0 S0.2.2 dn (wol dn dn V0.2.2 (dn - 2) 2 dg) dn (utn 4 0 dn V0.2.2 0) 0 qt qg V0.1.1 V0.1.2.1 V0.1.2.2.1 V0.1.2.2.2 R1.1 R1.2.1 R1.2.2.1 R1.2.2.2 R0.1 R0.2.1 R0.2.2.1 R0.2.2.2) H := hP
            have hD : va_D A (wS a cB cI cL s1 s2 h1 h2 op V0.2.1 0 0 S0.2.2 dn (wol dn dn V0.2.2 (dn - 2) 2 dg) dn (utn 4 0 dn V0.2.2 0) 0 qt qg V0.1.1 V0.1.2.1 V0.1.2.2.1 V0.1.2.2.2 R1.1 R1.2.1 R1.2.2.1 R1.2.2.2 R0.1 R0.2.1 R0.2.2.1 R0.2.2.2) := hD
            refine lv_aload_n hx hb dX5_open_62 rfl (lv_at hl 0 rfl) ?_
            refine lv_aload_n hx hb dX5_open_63 rfl (lv_at hl 0 rfl) ?_
            refine va_get (D := (dC, dI)) (ci := 5) (v := .int (nI V0.2.1)) (C := RX5) (T := TX5) (N := 11) hx hb hts in_X5 hown hK hP 0 rfl rfl 7 (by decide) f53 (fun _ h9 => h9) rfl dX5_open_64 ?_
            refine lv_iconst (v := nI 1) hx hb dX5_open_67 (by decide) ?_
            refine x_isub hx hb dX5_open_68 (by omega) ?_
            refine va_put (D := (dC, dI)) (ci := 5) (v := .int (nI (V0.2.1 - 1))) (ty := .int) (C := RX5) (T := TX5) (N := 11) hx hb hts in_X5 tyX5 tyX5_ok nmX5 hown hK hP hD hS 0 rfl rfl 9 (by decide) f80 (fun _ h9 => h9) rfl (by decide +kernel) rfl rfl (Nat.le_of_ble_eq_true rfl) dX5_open_69 (fun H locs hP hD hS => ?_)
            have hP : va_P (dC, dI) vwCl (wS a cB cI cL s1 s2 h1 h2 op V0.2.1 0 (V0.2.1 - 1) S0.2.2 dn (wol dn dn V0.2.2 (dn - 2) 2 dg) dn (utn 4 0 dn V0.2.2 0) 0 qt qg V0.1.1 V0.1.2.1 V0.1.2.2.1 V0.1.2.2.2 R1.1 R1.2.1 R1.2.2.1 R1.2.2.2 R0.1 R0.2.1 R0.2.2.1 R0.2.2.2) H := hP
            have hD : va_D A (wS a cB cI cL s1 s2 h1 h2 op V0.2.1 0 (V0.2.1 - 1) S0.2.2 dn (wol dn dn V0.2.2 (dn - 2) 2 dg) dn (utn 4 0 dn V0.2.2 0) 0 qt qg V0.1.1 V0.1.2.1 V0.1.2.2.1 V0.1.2.2.2 R1.1 R1.2.1 R1.2.2.1 R1.2.2.2 R0.1 R0.2.1 R0.2.2.1 R0.2.2.2) := hD
            refine lv_aload_n hx hb dX5_open_72 rfl (lv_at hl 0 rfl) ?_
            refine lv_iconst (v := nI 1) hx hb dX5_open_73 (by decide) ?_
            refine x_top (y := bI true) rfl ?_
            refine va_put (D := (dC, dI)) (ci := 5) (v := .int (bI true)) (ty := .boolean) (C := RX5) (T := TX5) (N := 11) hx hb hts in_X5 tyX5 tyX5_ok nmX5 hown hK hP hD hS 0 rfl rfl 6 (by decide) f49 (fun _ h9 => h9) rfl (by decide +kernel) (x_narZ _) (x_fitZ _) (Nat.le_of_ble_eq_true rfl) dX5_open_74 (fun H locs hP hD hS => ?_)
            have hP : va_P (dC, dI) vwCl (wS a cB cI cL s1 s2 h1 h2 true V0.2.1 0 (V0.2.1 - 1) S0.2.2 dn (wol dn dn V0.2.2 (dn - 2) 2 dg) dn (utn 4 0 dn V0.2.2 0) 0 qt qg V0.1.1 V0.1.2.1 V0.1.2.2.1 V0.1.2.2.2 R1.1 R1.2.1 R1.2.2.1 R1.2.2.2 R0.1 R0.2.1 R0.2.2.1 R0.2.2.2) H := hP
            have hD : va_D A (wS a cB cI cL s1 s2 h1 h2 true V0.2.1 0 (V0.2.1 - 1) S0.2.2 dn (wol dn dn V0.2.2 (dn - 2) 2 dg) dn (utn 4 0 dn V0.2.2 0) 0 qt qg V0.1.1 V0.1.2.1 V0.1.2.2.1 V0.1.2.2.2 R1.1 R1.2.1 R1.2.2.1 R1.2.2.2 R0.1 R0.2.1 R0.2.2.1 R0.2.2.2) := hD
            refine lv_aload_n hx hb dX5_open_77 rfl (lv_at hl 0 rfl) ?_
            refine va_get (D := (dC, dI)) (ci := 5) (v := .ref (a 9)) (C := RX5) (T := TX5) (N := 11) hx hb hts in_X5 hown hK hP 0 rfl rfl 3 (by decide) f35 (fun _ h9 => h9) rfl dX5_open_78 ?_
            refine va_getN (D := (dC, dI)) (ci := 3) (v := .int (nI V0.1.1)) (C := RX3) (T := TX3) (N := 4) hx hb hts in_X3 hown hK hP 9 rfl rfl 3 (by decide) (va_Nw.use (A := args) rfl f94) (fun _ h9 => h9) rfl dX5_open_81 ?_
            exact hret dX5_open_84 (by rfl) hP hD hS
          · refine lv_aload_n hx hb dX5_open_47 rfl (lv_at hl 0 rfl) ?_
            refine lv_iload_n hx hb dX5_open_48 rfl (lv_at hl 2 rfl) ?_
            refine x_callv (va_runV (As := [.int (nI i)]) (rest := []) ⟨hx, hb, hml, hown, hts⟩ (c_SL_readFile (by omega) (by omega) (by omega) hdg i36_3 i36_2 hXl (by omega) (by omega) i (by omega) (by first | assumption | exact hgo _ (by omega))) (cwV 1 hts (tbV tw_483 tw_485 tw_47 tw_84 tw_486) rfl rfl rfl (by decide +kernel) ⟨Nat.le_of_ble_eq_true rfl, Nat.le_of_ble_eq_true rfl⟩) ⟨x_blind, va_recv hK hP (ci := 5) (q0 := 0) rfl rfl, x_pre hK hP hD hN⟩ rfl rfl hl.1 rfl (lv_room (Nat.le_of_ble_eq_true rfl)) dX5_open_49 ⟨Nat.zero_le _, Nat.zero_le _⟩) hS (fun H locs hP hD hS => ?_)
            have hP : va_P (dC, dI) vwCl (wS a cB cI cL s1 s2 h1 h2 op R1.2.2.1 0 0 (max S'.2.2 (hfl R1.1 R1.2.2.2 i 0)) dn dg dn (umk dn (hfl R1.1 R1.2.2.2 i 1) 2 (hfl R1.1 R1.2.2.2 i 2) S'.2.1 0) 0 qt qg ((rfO dn dg (hfl R1.1 R1.2.2.2 i 1) (hfl R1.1 R1.2.2.2 i 3) (hfl R1.1 R1.2.2.2 i 2) 0 S'.1).1) ((rfO dn dg (hfl R1.1 R1.2.2.2 i 1) (hfl R1.1 R1.2.2.2 i 3) (hfl R1.1 R1.2.2.2 i 2) 0 S'.1).2.1) ((rfO dn dg (hfl R1.1 R1.2.2.2 i 1) (hfl R1.1 R1.2.2.2 i 3) (hfl R1.1 R1.2.2.2 i 2) 0 S'.1).2.2.1) ((rfO dn dg (hfl R1.1 R1.2.2.2 i 1) (hfl R1.1 R1.2.2.2 i 3) (hfl R1.1 R1.2.2.2 i 2) 0 S'.1).2.2.2) R1.1 R1.2.1 R1.2.2.1 R1.2.2.2 R0.1 R0.2.1 R0.2.2.1 R0.2.2.2) H := hP
            have hD : va_D A (wS a cB cI cL s1 s2 h1 h2 op R1.2.2.1 0 0 (max S'.2.2 (hfl R1.1 R1.2.2.2 i 0)) dn dg dn (umk dn (hfl R1.1 R1.2.2.2 i 1) 2 (hfl R1.1 R1.2.2.2 i 2) S'.2.1 0) 0 qt qg ((rfO dn dg (hfl R1.1 R1.2.2.2 i 1) (hfl R1.1 R1.2.2.2 i 3) (hfl R1.1 R1.2.2.2 i 2) 0 S'.1).1) ((rfO dn dg (hfl R1.1 R1.2.2.2 i 1) (hfl R1.1 R1.2.2.2 i 3) (hfl R1.1 R1.2.2.2 i 2) 0 S'.1).2.1) ((rfO dn dg (hfl R1.1 R1.2.2.2 i 1) (hfl R1.1 R1.2.2.2 i 3) (hfl R1.1 R1.2.2.2 i 2) 0 S'.1).2.2.1) ((rfO dn dg (hfl R1.1 R1.2.2.2 i 1) (hfl R1.1 R1.2.2.2 i 3) (hfl R1.1 R1.2.2.2 i 2) 0 S'.1).2.2.2) R1.1 R1.2.1 R1.2.2.1 R1.2.2.2 R0.1 R0.2.1 R0.2.2.1 R0.2.2.2) := hD
            refine lv_iinc (v := nI (i + 1)) (lv' := [(2, .int (nI (i + 1))), (0, .ref (a 0)), (1, .int (oI none))]) hx hb dX5_open_52 hl (k := 2) rfl (x_inc _) (by decide) rfl (fun ls hl => ?_)
            refine lv_goto (tgt := 36) hx hb dX5_open_55 (by decide) ?_
            have e1 : (max S'.2.2 (hfl R1.1 R1.2.2.2 i 0)) = ((opS dn dg dn R1.1 R1.2.2.2 i S').2.2) := by rfl
            have e2 : (umk dn (hfl R1.1 R1.2.2.2 i 1) 2 (hfl R1.1 R1.2.2.2 i 2) S'.2.1 0) = ((opS dn dg dn R1.1 R1.2.2.2 i S').2.1) := by rfl
            have e3 : ((rfO dn dg (hfl R1.1 R1.2.2.2 i 1) (hfl R1.1 R1.2.2.2 i 3) (hfl R1.1 R1.2.2.2 i 2) 0 S'.1).1) = ((opS dn dg dn R1.1 R1.2.2.2 i S').1.1) := by rfl
            have e4 : ((rfO dn dg (hfl R1.1 R1.2.2.2 i 1) (hfl R1.1 R1.2.2.2 i 3) (hfl R1.1 R1.2.2.2 i 2) 0 S'.1).2.1) = ((opS dn dg dn R1.1 R1.2.2.2 i S').1.2.1) := by rfl
            have e5 : ((rfO dn dg (hfl R1.1 R1.2.2.2 i 1) (hfl R1.1 R1.2.2.2 i 3) (hfl R1.1 R1.2.2.2 i 2) 0 S'.1).2.2.1) = ((opS dn dg dn R1.1 R1.2.2.2 i S').1.2.2.1) := by rfl
            have e6 : ((rfO dn dg (hfl R1.1 R1.2.2.2 i 1) (hfl R1.1 R1.2.2.2 i 3) (hfl R1.1 R1.2.2.2 i 2) 0 S'.1).2.2.2) = ((opS dn dg dn R1.1 R1.2.2.2 i S').1.2.2.2) := by rfl
            exact ih36 (i + 1) (opS dn dg dn R1.1 R1.2.2.2 i S') (by omega) (by omega) (by exact rfO_le i36_1) (by exact rfO_lt i36_2) (by exact umk_lt i36_3 (by decide)) (by exact opS_f i36_4 hlf9) (by have h := i36_5; rw [show R1.1 - i = (R1.1 - (i + 1)) + 1 by omega, opL] at h; exact h) _ _ hP hD hS ls (lv_sub hl [1, 2, 0] rfl)
      have e7 : 0 = (((0, tk, tv, ts), uclr dn ug, 0).2.2) := by rfl
      have e8 : (uclr dn ug) = (((0, tk, tv, ts), uclr dn ug, 0).2.1) := by rfl
      have e9 : 0 = (((0, tk, tv, ts), uclr dn ug, 0).1.1) := by rfl
      have e10 : tk = (((0, tk, tv, ts), uclr dn ug, 0).1.2.1) := by rfl
      have e11 : tv = (((0, tk, tv, ts), uclr dn ug, 0).1.2.2.1) := by rfl
      have e12 : ts = (((0, tk, tv, ts), uclr dn ug, 0).1.2.2.2) := by rfl
      exact L36 (R1.1 - 0 + 1) 0 ((0, tk, tv, ts), uclr dn ug, 0) (by omega) (by omega) (by exact Nat.zero_le _) (by exact hs) (by exact hu0) (by exact (show 0 < 2 ^ 18 by decide)) (by rfl) _ _ hP hD hS ls (lv_sub hl [2, 1, 0] rfl)
    · exact absurd rfl c22
  · exact absurd (ho.symm.trans c4) (by decide)

set_option maxHeartbeats 4000000 in
set_option maxRecDepth 100000 in
theorem c_SL_openWH {l : Launch} {dC : Nat → ClassId} {dI : Nat → Nat → Nat} {A : Nat → Prop} {a : Nat → Nat} {cB cI cL : ClassId} {h1 h2 s1 s2 : Nat} {op : Bool} {nx wt sf lf dn : Nat} {dg : Nat → Nat} {un : Nat} {ug : Nat → Nat} {qn : Nat} {qt qg : Nat → Nat} {tn : Nat} {tk tv : Nat → Int64} {ts : Nat → Nat} {ef eg ex : Nat} {eF : Nat → Nat} {pf pg px : Nat} {pF : Nat → Nat} (hdn : dn ≤ 64) (hun : un ≤ 64) (htn : tn ≤ 192) (hdg : ∀ j, dg j < 256) (hug : ∀ j, ug j < 8) (hs : ∀ j, ts j < 2 ^ 31) (heF : ∀ j, eF j < 1048576) (hpF : ∀ j, pF j < 1048576) (wr : Nat) (R0 R1 : Nat × Nat × Nat × (Nat → Nat)) (ho : op = false) (hR0 : hrd dn dg 0 eF = R0) (hR1 : hrd dn dg 1 pF = R1) (hsw : ¬ R0.2.1 < R1.2.1) (hX5 : R0.1 ≤ 5) (hgo : ∀ i, i < R0.1 → (hfl R0.1 R0.2.2.2 i 3 + 2) / 3 = hfl R0.1 R0.2.2.2 i 2) (hw0 : fwO dn dg R0.1 R0.2.2.2 R0.1 0 = some wr) (hw1 : wr < 2 ^ 31) : Met l yX5_open (Cond.code yX5_open cX5_open 3 (some .int) :: TB) { frames := 6, cells := 0, slots := 0, locals := 145 } (xPre Nst (dC, dI) A (tyS cB cI cL) (wS a cB cI cL h1 h2 s1 s2 op nx wt sf lf dn dg un ug qn qt qg tn tk tv ts ef eg ex eF pf pg px pF) [.ref (a 0)]) (xQi (dC, dI) A (((-10) - nI wr)) (wS a cB cI cL h1 h2 s1 s2 op nx wt sf lf dn dg un ug qn qt qg tn tk tv ts R0.1 R0.2.1 R0.2.2.1 R0.2.2.2 R1.1 R1.2.1 R1.2.2.1 R1.2.2.2)) 0 0 A := by
  refine x_ofWi (cc := cX5_open) (maxL := 3) (by decide) rfl (Nat.le_of_ble_eq_true rfl) ?_
  intro p e s m args below meth c Q hx hb hml hts hown hK hN hP hD hS hret ls hl
  have hl : lv_has ls 3 [(0, .ref (a 0))] := hl
  have hown : s.vm.findClass RX5 = some m.cls := hown
  have hXl : ∀ j, R0.2.2.2 j < 1048576 := by rw [← hR0]; exact hrd_lt hdg heF
  have hYl : ∀ j, R1.2.2.2 j < 1048576 := by rw [← hR1]; exact hrd_lt hdg hpF
  have hXb : R0.2.1 ≤ 1000000000 ∧ R0.2.2.1 ≤ 1000000000 := by rw [← hR0]; exact hrd_b hdg _
  have hy9 : ¬ nI wr = (-2 : Int32) := fun q => absurd (show (nI wr) < 0 by rw [q]; decide) (nI_pos (by omega))
  have f49 := hts _ (List.mem_cons_of_mem _ tw_213)
  have in_X5 := (fun q hq => List.mem_cons_of_mem _ (inX5 q hq) : ∀ q ∈ wsX50, q ∈ (Cond.code yX5_open cX5_open 3 (some .int) :: TB))
  refine lv_aload_n hx hb dX5_open_0 rfl (lv_at hl 0 rfl) ?_
  refine va_get (D := (dC, dI)) (ci := 5) (v := .int (bI op)) (C := RX5) (T := TX5) (N := 11) hx hb hts in_X5 hown hK hP 0 rfl rfl 6 (by decide) f49 (fun _ h9 => h9) rfl dX5_open_1 ?_
  refine x_if_eq_b (tgt := 10) hx hb dX5_open_4 (by decide) (fun c4 => ?_) (fun c4 => ?_)
  · refine lv_aload_n hx hb dX5_open_10 rfl (lv_at hl 0 rfl) ?_
    refine x_callv (va_runV (As := []) (rest := []) ⟨hx, hb, hml, hown, hts⟩ (c_SL_chooseHead (by omega) hdg heF hpF) (cwV 0 hts (tbV tw_437 tw_439 tw_39 tw_84 tw_440) rfl rfl rfl (by decide +kernel) ⟨Nat.le_of_ble_eq_true rfl, Nat.le_of_ble_eq_true rfl⟩) ⟨x_blind, va_recv hK hP (ci := 5) (q0 := 0) rfl rfl, x_pre hK hP hD hN⟩ rfl rfl hl.1 rfl (lv_room (Nat.le_of_ble_eq_true rfl)) dX5_open_11 ⟨Nat.zero_le _, Nat.zero_le _⟩) hS (fun H locs hP hD hS => ?_)
    rw [hR0, hR1] at hP hD
    simp only [if_neg hsw] at hP hD
    have hP : va_P (dC, dI) vwCl (wS a cB cI cL h1 h2 s1 s2 op nx wt sf lf dn dg un ug qn qt qg tn tk tv ts R0.1 R0.2.1 R0.2.2.1 R0.2.2.2 R1.1 R1.2.1 R1.2.2.1 R1.2.2.2) H := hP
    have hD : va_D A (wS a cB cI cL h1 h2 s1 s2 op nx wt sf lf dn dg un ug qn qt qg tn tk tv ts R0.1 R0.2.1 R0.2.2.1 R0.2.2.2 R1.1 R1.2.1 R1.2.2.1 R1.2.2.2) := hD
    refine lv_aload_n hx hb dX5_open_14 rfl (lv_at hl 0 rfl) ?_
    refine x_calli (va_runV (As := []) (rest := []) ⟨hx, hb, hml, hown, hts⟩ (c_SL_firstWrongBlock (by omega) hdg hXl (by omega) (by first | assumption | exact hgo)) (cwV 0 hts (tbV tw_471 tw_473 tw_45 tw_84 tw_474) rfl rfl rfl (by decide +kernel) ⟨Nat.le_of_ble_eq_true rfl, Nat.le_of_ble_eq_true rfl⟩) ⟨x_blind, va_recv hK hP (ci := 5) (q0 := 0) rfl rfl, x_pre hK hP hD hN⟩ rfl rfl hl.1 rfl (lv_room (Nat.le_of_ble_eq_true rfl)) dX5_open_15 ⟨Nat.zero_le _, Nat.zero_le _⟩) hS (fun H locs hP hD hS => ?_)
    have hP : va_P (dC, dI) vwCl (wS a cB cI cL h1 h2 s1 s2 op nx wt sf lf dn dg un ug qn qt qg tn tk tv ts R0.1 R0.2.1 R0.2.2.1 R0.2.2.2 R1.1 R1.2.1 R1.2.2.1 R1.2.2.2) H := hP
    have hD : va_D A (wS a cB cI cL h1 h2 s1 s2 op nx wt sf lf dn dg un ug qn qt qg tn tk tv ts R0.1 R0.2.1 R0.2.2.1 R0.2.2.2 R1.1 R1.2.1 R1.2.2.1 R1.2.2.2) := hD
    refine lv_istore_n (lv' := [(1, .int (oI (fwO dn dg R0.1 R0.2.2.2 R0.1 0))), (0, .ref (a 0))]) hx hb dX5_open_18 rfl hl (by decide) rfl (fun ls hl => ?_)
    rw [hw0] at hl
    have hl : lv_has ls 3 [(1, .int (nI wr)), (0, .ref (a 0))] := hl
    refine lv_iload_n hx hb dX5_open_19 rfl (lv_at hl 0 rfl) ?_
    refine lv_bipush (v := (-2)) hx hb dX5_open_20 (by decide) ?_
    refine lv_icmp_eq (tgt := 30) hx hb dX5_open_22 (by decide) (fun c22 => ?_) (fun c22 => ?_)
    · exact absurd c22 hy9
    · refine lv_bipush (v := (-10)) hx hb dX5_open_25 (by decide) ?_
      refine lv_iload_n hx hb dX5_open_27 rfl (lv_at hl 0 rfl) ?_
      refine lv_isub hx hb dX5_open_28 ?_
      exact hret dX5_open_29 (by rfl) hP hD hS
  · exact absurd (ho.symm.trans c4) (by decide)

set_option maxHeartbeats 4000000 in
set_option maxRecDepth 100000 in
theorem c_SL_openGH {l : Launch} {dC : Nat → ClassId} {dI : Nat → Nat → Nat} {A : Nat → Prop} {a : Nat → Nat} {cB cI cL : ClassId} {h1 h2 s1 s2 : Nat} {op : Bool} {nx wt sf lf dn : Nat} {dg : Nat → Nat} {un : Nat} {ug : Nat → Nat} {qn : Nat} {qt qg : Nat → Nat} {tn : Nat} {tk tv : Nat → Int64} {ts : Nat → Nat} {ef eg ex : Nat} {eF : Nat → Nat} {pf pg px : Nat} {pF : Nat → Nat} (hdn : dn ≤ 64) (hun : un ≤ 64) (htn : tn ≤ 192) (hdg : ∀ j, dg j < 256) (hug : ∀ j, ug j < 8) (hs : ∀ j, ts j < 2 ^ 31) (heF : ∀ j, eF j < 1048576) (hpF : ∀ j, pF j < 1048576) (S0 : TS × (Nat → Nat) × Nat) (V0 : RS) (R0 R1 : Nat × Nat × Nat × (Nat → Nat)) (ho : op = false) (hR0 : hrd dn dg 0 eF = R0) (hR1 : hrd dn dg 1 pF = R1) (hsw : ¬ R0.2.1 < R1.2.1) (hX5 : R0.1 ≤ 5) (hgo : ∀ i, i < R0.1 → (hfl R0.1 R0.2.2.2 i 3 + 2) / 3 = hfl R0.1 R0.2.2.2 i 2) (hw0 : fwO dn dg R0.1 R0.2.2.2 R0.1 0 = none) (hS0 : opL dn dg dn R0.1 R0.2.2.2 R0.1 0 ((0, tk, tv, ts), uclr dn ug, 0) = S0) (hV0 : rpl dn dg dn dn (S0.1, R0.2.2.1, mol dn dg dn (dn - 2) 2 S0.2.1) = V0) (hv1 : 0 < V0.2.1) (hn16 : ∀ i, hfl R0.1 R0.2.2.2 i 0 < 2 ^ 18) : Met l yX5_open (Cond.code yX5_open cX5_open 3 (some .int) :: TB) { frames := 6, cells := 0, slots := 0, locals := 145 } (xPre Nst (dC, dI) A (tyS cB cI cL) (wS a cB cI cL h1 h2 s1 s2 op nx wt sf lf dn dg un ug qn qt qg tn tk tv ts ef eg ex eF pf pg px pF) [.ref (a 0)]) (xQi (dC, dI) A (nI V0.1.1) (wS a cB cI cL h1 h2 s1 s2 true V0.2.1 0 (V0.2.1 - 1) S0.2.2 dn (wol dn dn V0.2.2 (dn - 2) 2 dg) dn (utn 4 0 dn V0.2.2 0) 0 qt qg V0.1.1 V0.1.2.1 V0.1.2.2.1 V0.1.2.2.2 R0.1 R0.2.1 R0.2.2.1 R0.2.2.2 R1.1 R1.2.1 R1.2.2.1 R1.2.2.2)) 0 0 A := by
  refine x_ofWi (cc := cX5_open) (maxL := 3) (by decide) rfl (Nat.le_of_ble_eq_true rfl) ?_
  intro p e s m args below meth c Q hx hb hml hts hown hK hN hP hD hS hret ls hl
  have hl : lv_has ls 3 [(0, .ref (a 0))] := hl
  have hown : s.vm.findClass RX5 = some m.cls := hown
  have hXl : ∀ j, R0.2.2.2 j < 1048576 := by rw [← hR0]; exact hrd_lt hdg heF
  have hYl : ∀ j, R1.2.2.2 j < 1048576 := by rw [← hR1]; exact hrd_lt hdg hpF
  have hXb : R0.2.1 ≤ 1000000000 ∧ R0.2.2.1 ≤ 1000000000 := by rw [← hR0]; exact hrd_b hdg _
  have hu0 : ∀ j, uclr dn ug j < 8 := uclr_lt hug
  have f49 := hts _ (List.mem_cons_of_mem _ tw_213)
  have in_X5 := (fun q hq => List.mem_cons_of_mem _ (inX5 q hq) : ∀ q ∈ wsX50, q ∈ (Cond.code yX5_open cX5_open 3 (some .int) :: TB))
  have f42 := hts _ (List.mem_cons_of_mem _ tw_211)
  have f91 := hN (.fieldLinkNest RX5 91 "SegmentLog$Head" "files" "I" "SegmentLog") (by decide +kernel)
  have in_X1 := (fun q hq => List.mem_cons_of_mem _ (inX1 q hq) : ∀ q ∈ wsX10, q ∈ (Cond.code yX5_open cX5_open 3 (some .int) :: TB))
  have f53 := hts _ (List.mem_cons_of_mem _ tw_214)
  have f80 := hts _ (List.mem_cons_of_mem _ tw_216)
  have f35 := hts _ (List.mem_cons_of_mem _ tw_210)
  have f94 := hN (.fieldLinkNest RX5 94 "SegmentLog$Table" "size" "I" "SegmentLog") (by decide +kernel)
  have in_X3 := (fun q hq => List.mem_cons_of_mem _ (inX3 q hq) : ∀ q ∈ wsX30, q ∈ (Cond.code yX5_open cX5_open 3 (some .int) :: TB))
  refine lv_aload_n hx hb dX5_open_0 rfl (lv_at hl 0 rfl) ?_
  refine va_get (D := (dC, dI)) (ci := 5) (v := .int (bI op)) (C := RX5) (T := TX5) (N := 11) hx hb hts in_X5 hown hK hP 0 rfl rfl 6 (by decide) f49 (fun _ h9 => h9) rfl dX5_open_1 ?_
  refine x_if_eq_b (tgt := 10) hx hb dX5_open_4 (by decide) (fun c4 => ?_) (fun c4 => ?_)
  · refine lv_aload_n hx hb dX5_open_10 rfl (lv_at hl 0 rfl) ?_
    refine x_callv (va_runV (As := []) (rest := []) ⟨hx, hb, hml, hown, hts⟩ (c_SL_chooseHead (by omega) hdg heF hpF) (cwV 0 hts (tbV tw_437 tw_439 tw_39 tw_84 tw_440) rfl rfl rfl (by decide +kernel) ⟨Nat.le_of_ble_eq_true rfl, Nat.le_of_ble_eq_true rfl⟩) ⟨x_blind, va_recv hK hP (ci := 5) (q0 := 0) rfl rfl, x_pre hK hP hD hN⟩ rfl rfl hl.1 rfl (lv_room (Nat.le_of_ble_eq_true rfl)) dX5_open_11 ⟨Nat.zero_le _, Nat.zero_le _⟩) hS (fun H locs hP hD hS => ?_)
    rw [hR0, hR1] at hP hD
    simp only [if_neg hsw] at hP hD
    have hP : va_P (dC, dI) vwCl (wS a cB cI cL h1 h2 s1 s2 op nx wt sf lf dn dg un ug qn qt qg tn tk tv ts R0.1 R0.2.1 R0.2.2.1 R0.2.2.2 R1.1 R1.2.1 R1.2.2.1 R1.2.2.2) H := hP
    have hD : va_D A (wS a cB cI cL h1 h2 s1 s2 op nx wt sf lf dn dg un ug qn qt qg tn tk tv ts R0.1 R0.2.1 R0.2.2.1 R0.2.2.2 R1.1 R1.2.1 R1.2.2.1 R1.2.2.2) := hD
    refine lv_aload_n hx hb dX5_open_14 rfl (lv_at hl 0 rfl) ?_
    refine x_calli (va_runV (As := []) (rest := []) ⟨hx, hb, hml, hown, hts⟩ (c_SL_firstWrongBlock (by omega) hdg hXl (by omega) (by first | assumption | exact hgo)) (cwV 0 hts (tbV tw_471 tw_473 tw_45 tw_84 tw_474) rfl rfl rfl (by decide +kernel) ⟨Nat.le_of_ble_eq_true rfl, Nat.le_of_ble_eq_true rfl⟩) ⟨x_blind, va_recv hK hP (ci := 5) (q0 := 0) rfl rfl, x_pre hK hP hD hN⟩ rfl rfl hl.1 rfl (lv_room (Nat.le_of_ble_eq_true rfl)) dX5_open_15 ⟨Nat.zero_le _, Nat.zero_le _⟩) hS (fun H locs hP hD hS => ?_)
    have hP : va_P (dC, dI) vwCl (wS a cB cI cL h1 h2 s1 s2 op nx wt sf lf dn dg un ug qn qt qg tn tk tv ts R0.1 R0.2.1 R0.2.2.1 R0.2.2.2 R1.1 R1.2.1 R1.2.2.1 R1.2.2.2) H := hP
    have hD : va_D A (wS a cB cI cL h1 h2 s1 s2 op nx wt sf lf dn dg un ug qn qt qg tn tk tv ts R0.1 R0.2.1 R0.2.2.1 R0.2.2.2 R1.1 R1.2.1 R1.2.2.1 R1.2.2.2) := hD
    refine lv_istore_n (lv' := [(1, .int (oI (fwO dn dg R0.1 R0.2.2.2 R0.1 0))), (0, .ref (a 0))]) hx hb dX5_open_18 rfl hl (by decide) rfl (fun ls hl => ?_)
    rw [hw0] at hl
    have hl : lv_has ls 3 [(1, .int (oI none)), (0, .ref (a 0))] := hl
    refine lv_iload_n hx hb dX5_open_19 rfl (lv_at hl 0 rfl) ?_
    refine lv_bipush (v := (-2)) hx hb dX5_open_20 (by decide) ?_
    refine lv_icmp_eq (tgt := 30) hx hb dX5_open_22 (by decide) (fun c22 => ?_) (fun c22 => ?_)
    · refine lv_aload_n hx hb dX5_open_30 rfl (lv_at hl 1 rfl) ?_
      refine x_callv (va_runV (As := []) (rest := []) ⟨hx, hb, hml, hown, hts⟩ (c_SL_forget (by omega) hug) (cwV 0 hts (tbV tw_262 tw_264 tw_7 tw_84 tw_265) rfl rfl rfl (by decide +kernel) ⟨Nat.le_of_ble_eq_true rfl, Nat.le_of_ble_eq_true rfl⟩) ⟨x_blind, va_recv hK hP (ci := 5) (q0 := 0) rfl rfl, x_pre hK hP hD hN⟩ rfl rfl hl.1 rfl (lv_room (Nat.le_of_ble_eq_true rfl)) dX5_open_31 ⟨Nat.zero_le _, Nat.zero_le _⟩) hS (fun H locs hP hD hS => ?_)
      have hP : va_P (dC, dI) vwCl (wS a cB cI cL h1 h2 s1 s2 op R0.2.2.1 0 0 0 dn dg dn (uclr dn ug) 0 qt qg 0 tk tv ts R0.1 R0.2.1 R0.2.2.1 R0.2.2.2 R1.1 R1.2.1 R1.2.2.1 R1.2.2.2) H := hP
      have hD : va_D A (wS a cB cI cL h1 h2 s1 s2 op R0.2.2.1 0 0 0 dn dg dn (uclr dn ug) 0 qt qg 0 tk tv ts R0.1 R0.2.1 R0.2.2.1 R0.2.2.2 R1.1 R1.2.1 R1.2.2.1 R1.2.2.2) := hD
      refine lv_iconst (v := nI 0) hx hb dX5_open_34 (by decide) ?_
      refine lv_istore_n (lv' := [(2, .int (nI 0)), (1, .int (oI none)), (0, .ref (a 0))]) hx hb dX5_open_35 rfl hl (by decide) rfl (fun ls hl => ?_)
      have L36 : ∀ (fu36 : Nat) (i : Nat) (S' : TS × (Nat → Nat) × Nat), (R0.1 - i < fu36) → (i ≤ R0.1) → (S'.1.1 ≤ 192) → (∀ q, S'.1.2.2.2 q < 2 ^ 31) → (∀ q, S'.2.1 q < 8) → (S'.2.2 < 2 ^ 18) → (opL dn dg dn R0.1 R0.2.2.2 (R0.1 - i) i S' = opL dn dg dn R0.1 R0.2.2.2 R0.1 0 ((0, tk, tv, ts), uclr dn ug, 0)) → ∀ (H : Heap) (locs : List Loc), va_P (dC, dI) vwCl (wS a cB cI cL h1 h2 s1 s2 op R0.2.2.1 0 0 S'.2.2 dn dg dn S'.2.1 0 qt qg S'.1.1 S'.1.2.1 S'.1.2.2.1 S'.1.2.2.2 R0.1 R0.2.1 R0.2.2.1 R0.2.2.2 R1.1 R1.2.1 R1.2.2.1 R1.2.2.2) H → va_D A (wS a cB cI cL h1 h2 s1 s2 op R0.2.2.1 0 0 S'.2.2 dn dg dn S'.2.1 0 qt qg S'.1.1 S'.1.2.1 S'.1.2.2.1 S'.1.2.2.2 R0.1 R0.2.1 R0.2.2.1 R0.2.2.2 R1.1 R1.2.1 R1.2.2.1 R1.2.2.2) → va_S A s.heap H locs → ∀ (ls : Array Slot), lv_has ls 3 [(0, .ref (a 0)), (1, .int (oI none)), (2, .int (nI i))] → W p l e { frames := 6, cells := 0, slots := 0, locals := 145 } s m args below meth c H locs 0 0 Q (F0 m 36 ls []) := by
        intro fu36
        induction fu36 with
        | zero => intro i S' hm; exact absurd hm (Nat.not_lt_zero _)
        | succ fu36 ih36 =>
          intro i S' hm i36_0 i36_1 i36_2 i36_3 i36_4 i36_5 H locs hP hD hS ls hl
          have hlf9 : hfl R0.1 R0.2.2.2 i 0 < 2 ^ 18 := hn16 i
          refine lv_iload_n hx hb dX5_open_36 rfl (lv_at hl 2 rfl) ?_
          refine lv_aload_n hx hb dX5_open_37 rfl (lv_at hl 0 rfl) ?_
          refine va_get (D := (dC, dI)) (ci := 5) (v := .ref h1) (C := RX5) (T := TX5) (N := 11) hx hb hts in_X5 hown hK hP 0 rfl rfl 4 (by decide) f42 (fun _ h9 => h9) rfl dX5_open_38 ?_
          refine va_getN (D := (dC, dI)) (ci := 1) (v := .int (nI R0.1)) (C := RX1) (T := TX1) (N := 4) hx hb hts in_X1 hown hK hP 13 rfl rfl 1 (by decide) (va_Nw.use (A := args) rfl f91) (fun _ h9 => h9) rfl dX5_open_41 ?_
          refine x_icmp_ge (tgt := 58) hx hb dX5_open_44 (by decide) (by omega) (by omega) (fun c44 => ?_) (fun c44 => ?_)
          · have zz1 : S0 = S' := by
              have h := i36_5
              rw [show R0.1 - i = 0 by omega, opL] at h
              exact (h.trans hS0).symm
            subst zz1
            refine lv_aload_n hx hb dX5_open_58 rfl (lv_at hl 0 rfl) ?_
            refine x_callv (va_runV (As := []) (rest := []) ⟨hx, hb, hml, hown, hts⟩ (c_SL_replayLog (by omega) (by omega) (by omega) hdg i36_3 i36_2 (by omega) (by omega)) (cwV 0 hts (tbV tw_494 tw_496 tw_49 tw_84 tw_497) rfl rfl rfl (by decide +kernel) ⟨Nat.le_of_ble_eq_true rfl, Nat.le_of_ble_eq_true rfl⟩) ⟨x_blind, va_recv hK hP (ci := 5) (q0 := 0) rfl rfl, x_pre hK hP hD hN⟩ rfl rfl hl.1 rfl (lv_room (Nat.le_of_ble_eq_true rfl)) dX5_open_59 ⟨Nat.zero_le _, Nat.zero_le _⟩) hS (fun H locs hP hD hS => ?_)
            rw [hV0] at hP hD
            have hP : va_P (dC, dI) vwCl (wS a cB cI cL h1 h2 s1 s2 op V0.2.1 0 0 S0.2.2 dn (wol dn dn V0.2.2 (dn - 2) 2 dg) dn (utn 4 0 dn V0.2.2 0) 0 qt qg V0.1.1 V0.1.2.1 V0.1.2.2.1 V0.1.2.2.2 R0.1 R0.2.1 R0.2.2.1 R0.2.2.2 R1.1 R1.2.1 R1.2.2.1 R1.2.2.2) H := hP
            have hD : va_D A (wS a cB cI cL h1 h2 s1 s2 op V0.2.1 0 0 S0.2.2 dn (wol dn dn V0.2.2 (dn - 2) 2 dg) dn (utn 4 0 dn V0.2.2 0) 0 qt qg V0.1.1 V0.1.2.1 V0.1.2.2.1 V0.1.2.2.2 R0.1 R0.2.1 R0.2.2.1 R0.2.2.2 R1.1 R1.2.1 R1.2.2.1 R1.2.2.2) := hD
            refine lv_aload_n hx hb dX5_open_62 rfl (lv_at hl 0 rfl) ?_
            refine lv_aload_n hx hb dX5_open_63 rfl (lv_at hl 0 rfl) ?_
            refine va_get (D := (dC, dI)) (ci := 5) (v := .int (nI V0.2.1)) (C := RX5) (T := TX5) (N := 11) hx hb hts in_X5 hown hK hP 0 rfl rfl 7 (by decide) f53 (fun _ h9 => h9) rfl dX5_open_64 ?_
            refine lv_iconst (v := nI 1) hx hb dX5_open_67 (by decide) ?_
            refine x_isub hx hb dX5_open_68 (by omega) ?_
            refine va_put (D := (dC, dI)) (ci := 5) (v := .int (nI (V0.2.1 - 1))) (ty := .int) (C := RX5) (T := TX5) (N := 11) hx hb hts in_X5 tyX5 tyX5_ok nmX5 hown hK hP hD hS 0 rfl rfl 9 (by decide) f80 (fun _ h9 => h9) rfl (by decide +kernel) rfl rfl (Nat.le_of_ble_eq_true rfl) dX5_open_69 (fun H locs hP hD hS => ?_)
            have hP : va_P (dC, dI) vwCl (wS a cB cI cL h1 h2 s1 s2 op V0.2.1 0 (V0.2.1 - 1) S0.2.2 dn (wol dn dn V0.2.2 (dn - 2) 2 dg) dn (utn 4 0 dn V0.2.2 0) 0 qt qg V0.1.1 V0.1.2.1 V0.1.2.2.1 V0.1.2.2.2 R0.1 R0.2.1 R0.2.2.1 R0.2.2.2 R1.1 R1.2.1 R1.2.2.1 R1.2.2.2) H := hP
            have hD : va_D A (wS a cB cI cL h1 h2 s1 s2 op V0.2.1 0 (V0.2.1 - 1) S0.2.2 dn (wol dn dn V0.2.2 (dn - 2) 2 dg) dn (utn 4 0 dn V0.2.2 0) 0 qt qg V0.1.1 V0.1.2.1 V0.1.2.2.1 V0.1.2.2.2 R0.1 R0.2.1 R0.2.2.1 R0.2.2.2 R1.1 R1.2.1 R1.2.2.1 R1.2.2.2) := hD
            refine lv_aload_n hx hb dX5_open_72 rfl (lv_at hl 0 rfl) ?_
            refine lv_iconst (v := nI 1) hx hb dX5_open_73 (by decide) ?_
            refine x_top (y := bI true) rfl ?_
            refine va_put (D := (dC, dI)) (ci := 5) (v := .int (bI true)) (ty := .boolean) (C := RX5) (T := TX5) (N := 11) hx hb hts in_X5 tyX5 tyX5_ok nmX5 hown hK hP hD hS 0 rfl rfl 6 (by decide) f49 (fun _ h9 => h9) rfl (by decide +kernel) (x_narZ _) (x_fitZ _) (Nat.le_of_ble_eq_true rfl) dX5_open_74 (fun H locs hP hD hS => ?_)
            have hP : va_P (dC, dI) vwCl (wS a cB cI cL h1 h2 s1 s2 true V0.2.1 0 (V0.2.1 - 1) S0.2.2 dn (wol dn dn V0.2.2 (dn - 2) 2 dg) dn (utn 4 0 dn V0.2.2 0) 0 qt qg V0.1.1 V0.1.2.1 V0.1.2.2.1 V0.1.2.2.2 R0.1 R0.2.1 R0.2.2.1 R0.2.2.2 R1.1 R1.2.1 R1.2.2.1 R1.2.2.2) H := hP
            have hD : va_D A (wS a cB cI cL h1 h2 s1 s2 true V0.2.1 0 (V0.2.1 - 1) S0.2.2 dn (wol dn dn V0.2.2 (dn - 2) 2 dg) dn (utn 4 0 dn V0.2.2 0) 0 qt qg V0.1.1 V0.1.2.1 V0.1.2.2.1 V0.1.2.2.2 R0.1 R0.2.1 R0.2.2.1 R0.2.2.2 R1.1 R1.2.1 R1.2.2.1 R1.2.2.2) := hD
            refine lv_aload_n hx hb dX5_open_77 rfl (lv_at hl 0 rfl) ?_
            refine va_get (D := (dC, dI)) (ci := 5) (v := .ref (a 9)) (C := RX5) (T := TX5) (N := 11) hx hb hts in_X5 hown hK hP 0 rfl rfl 3 (by decide) f35 (fun _ h9 => h9) rfl dX5_open_78 ?_
            refine va_getN (D := (dC, dI)) (ci := 3) (v := .int (nI V0.1.1)) (C := RX3) (T := TX3) (N := 4) hx hb hts in_X3 hown hK hP 9 rfl rfl 3 (by decide) (va_Nw.use (A := args) rfl f94) (fun _ h9 => h9) rfl dX5_open_81 ?_
            exact hret dX5_open_84 (by rfl) hP hD hS
          · refine lv_aload_n hx hb dX5_open_47 rfl (lv_at hl 0 rfl) ?_
            refine lv_iload_n hx hb dX5_open_48 rfl (lv_at hl 2 rfl) ?_
            refine x_callv (va_runV (As := [.int (nI i)]) (rest := []) ⟨hx, hb, hml, hown, hts⟩ (c_SL_readFile (by omega) (by omega) (by omega) hdg i36_3 i36_2 hXl (by omega) (by omega) i (by omega) (by first | assumption | exact hgo _ (by omega))) (cwV 1 hts (tbV tw_483 tw_485 tw_47 tw_84 tw_486) rfl rfl rfl (by decide +kernel) ⟨Nat.le_of_ble_eq_true rfl, Nat.le_of_ble_eq_true rfl⟩) ⟨x_blind, va_recv hK hP (ci := 5) (q0 := 0) rfl rfl, x_pre hK hP hD hN⟩ rfl rfl hl.1 rfl (lv_room (Nat.le_of_ble_eq_true rfl)) dX5_open_49 ⟨Nat.zero_le _, Nat.zero_le _⟩) hS (fun H locs hP hD hS => ?_)
            have hP : va_P (dC, dI) vwCl (wS a cB cI cL h1 h2 s1 s2 op R0.2.2.1 0 0 (max S'.2.2 (hfl R0.1 R0.2.2.2 i 0)) dn dg dn (umk dn (hfl R0.1 R0.2.2.2 i 1) 2 (hfl R0.1 R0.2.2.2 i 2) S'.2.1 0) 0 qt qg ((rfO dn dg (hfl R0.1 R0.2.2.2 i 1) (hfl R0.1 R0.2.2.2 i 3) (hfl R0.1 R0.2.2.2 i 2) 0 S'.1).1) ((rfO dn dg (hfl R0.1 R0.2.2.2 i 1) (hfl R0.1 R0.2.2.2 i 3) (hfl R0.1 R0.2.2.2 i 2) 0 S'.1).2.1) ((rfO dn dg (hfl R0.1 R0.2.2.2 i 1) (hfl R0.1 R0.2.2.2 i 3) (hfl R0.1 R0.2.2.2 i 2) 0 S'.1).2.2.1) ((rfO dn dg (hfl R0.1 R0.2.2.2 i 1) (hfl R0.1 R0.2.2.2 i 3) (hfl R0.1 R0.2.2.2 i 2) 0 S'.1).2.2.2) R0.1 R0.2.1 R0.2.2.1 R0.2.2.2 R1.1 R1.2.1 R1.2.2.1 R1.2.2.2) H := hP
            have hD : va_D A (wS a cB cI cL h1 h2 s1 s2 op R0.2.2.1 0 0 (max S'.2.2 (hfl R0.1 R0.2.2.2 i 0)) dn dg dn (umk dn (hfl R0.1 R0.2.2.2 i 1) 2 (hfl R0.1 R0.2.2.2 i 2) S'.2.1 0) 0 qt qg ((rfO dn dg (hfl R0.1 R0.2.2.2 i 1) (hfl R0.1 R0.2.2.2 i 3) (hfl R0.1 R0.2.2.2 i 2) 0 S'.1).1) ((rfO dn dg (hfl R0.1 R0.2.2.2 i 1) (hfl R0.1 R0.2.2.2 i 3) (hfl R0.1 R0.2.2.2 i 2) 0 S'.1).2.1) ((rfO dn dg (hfl R0.1 R0.2.2.2 i 1) (hfl R0.1 R0.2.2.2 i 3) (hfl R0.1 R0.2.2.2 i 2) 0 S'.1).2.2.1) ((rfO dn dg (hfl R0.1 R0.2.2.2 i 1) (hfl R0.1 R0.2.2.2 i 3) (hfl R0.1 R0.2.2.2 i 2) 0 S'.1).2.2.2) R0.1 R0.2.1 R0.2.2.1 R0.2.2.2 R1.1 R1.2.1 R1.2.2.1 R1.2.2.2) := hD
            refine lv_iinc (v := nI (i + 1)) (lv' := [(2, .int (nI (i + 1))), (0, .ref (a 0)), (1, .int (oI none))]) hx hb dX5_open_52 hl (k := 2) rfl (x_inc _) (by decide) rfl (fun ls hl => ?_)
            refine lv_goto (tgt := 36) hx hb dX5_open_55 (by decide) ?_
            have e1 : (max S'.2.2 (hfl R0.1 R0.2.2.2 i 0)) = ((opS dn dg dn R0.1 R0.2.2.2 i S').2.2) := by rfl
            have e2 : (umk dn (hfl R0.1 R0.2.2.2 i 1) 2 (hfl R0.1 R0.2.2.2 i 2) S'.2.1 0) = ((opS dn dg dn R0.1 R0.2.2.2 i S').2.1) := by rfl
            have e3 : ((rfO dn dg (hfl R0.1 R0.2.2.2 i 1) (hfl R0.1 R0.2.2.2 i 3) (hfl R0.1 R0.2.2.2 i 2) 0 S'.1).1) = ((opS dn dg dn R0.1 R0.2.2.2 i S').1.1) := by rfl
            have e4 : ((rfO dn dg (hfl R0.1 R0.2.2.2 i 1) (hfl R0.1 R0.2.2.2 i 3) (hfl R0.1 R0.2.2.2 i 2) 0 S'.1).2.1) = ((opS dn dg dn R0.1 R0.2.2.2 i S').1.2.1) := by rfl
            have e5 : ((rfO dn dg (hfl R0.1 R0.2.2.2 i 1) (hfl R0.1 R0.2.2.2 i 3) (hfl R0.1 R0.2.2.2 i 2) 0 S'.1).2.2.1) = ((opS dn dg dn R0.1 R0.2.2.2 i S').1.2.2.1) := by rfl
            have e6 : ((rfO dn dg (hfl R0.1 R0.2.2.2 i 1) (hfl R0.1 R0.2.2.2 i 3) (hfl R0.1 R0.2.2.2 i 2) 0 S'.1).2.2.2) = ((opS dn dg dn R0.1 R0.2.2.2 i S').1.2.2.2) := by rfl
            exact ih36 (i + 1) (opS dn dg dn R0.1 R0.2.2.2 i S') (by omega) (by omega) (by exact rfO_le i36_1) (by exact rfO_lt i36_2) (by exact umk_lt i36_3 (by decide)) (by exact opS_f i36_4 hlf9) (by have h := i36_5; rw [show R0.1 - i = (R0.1 - (i + 1)) + 1 by omega, opL] at h; exact h) _ _ hP hD hS ls (lv_sub hl [1, 2, 0] rfl)
      have e7 : 0 = (((0, tk, tv, ts), uclr dn ug, 0).2.2) := by rfl
      have e8 : (uclr dn ug) = (((0, tk, tv, ts), uclr dn ug, 0).2.1) := by rfl
      have e9 : 0 = (((0, tk, tv, ts), uclr dn ug, 0).1.1) := by rfl
      have e10 : tk = (((0, tk, tv, ts), uclr dn ug, 0).1.2.1) := by rfl
      have e11 : tv = (((0, tk, tv, ts), uclr dn ug, 0).1.2.2.1) := by rfl
      have e12 : ts = (((0, tk, tv, ts), uclr dn ug, 0).1.2.2.2) := by rfl
      exact L36 (R0.1 - 0 + 1) 0 ((0, tk, tv, ts), uclr dn ug, 0) (by omega) (by omega) (by exact Nat.zero_le _) (by exact hs) (by exact hu0) (by exact (show 0 < 2 ^ 18 by decide)) (by rfl) _ _ hP hD hS ls (lv_sub hl [2, 1, 0] rfl)
    · exact absurd rfl c22
  · exact absurd (ho.symm.trans c4) (by decide)

set_option maxHeartbeats 4000000 in
set_option maxRecDepth 100000 in
theorem c_SL_acknowledgedC {l : Launch} {dC : Nat → ClassId} {dI : Nat → Nat → Nat} {A : Nat → Prop} {a : Nat → Nat} {cB cI cL : ClassId} {h1 h2 s1 s2 : Nat} {op : Bool} {nx wt sf lf dn : Nat} {dg : Nat → Nat} {un : Nat} {ug : Nat → Nat} {qn : Nat} {qt qg : Nat → Nat} {tn : Nat} {tk tv : Nat → Int64} {ts : Nat → Nat} {ef eg ex : Nat} {eF : Nat → Nat} {pf pg px : Nat} {pF : Nat → Nat} (ho : op = false) : Met l yX5_acknowledged (Cond.code yX5_acknowledged cX5_acknowledged 1 (some .int) :: TB) { frames := 0, cells := 0, slots := 0, locals := 0 } (xPre Nst (dC, dI) A (tyS cB cI cL) (wS a cB cI cL h1 h2 s1 s2 op nx wt sf lf dn dg un ug qn qt qg tn tk tv ts ef eg ex eF pf pg px pF) [.ref (a 0)]) (xQi (dC, dI) A ((-4)) (wS a cB cI cL h1 h2 s1 s2 op nx wt sf lf dn dg un ug qn qt qg tn tk tv ts ef eg ex eF pf pg px pF)) 0 0 A := by
  refine x_ofWi (cc := cX5_acknowledged) (maxL := 1) (by decide) rfl (Nat.le_of_ble_eq_true rfl) ?_
  intro p e s m args below meth c Q hx hb hml hts hown hK hN hP hD hS hret ls hl
  have hl : lv_has ls 1 [(0, .ref (a 0))] := hl
  have hown : s.vm.findClass RX5 = some m.cls := hown
  have f49 := hts _ (List.mem_cons_of_mem _ tw_213)
  have in_X5 := (fun q hq => List.mem_cons_of_mem _ (inX5 q hq) : ∀ q ∈ wsX50, q ∈ (Cond.code yX5_acknowledged cX5_acknowledged 1 (some .int) :: TB))
  refine lv_aload_n hx hb dX5_acknowledged_0 rfl (lv_at hl 0 rfl) ?_
  refine va_get (D := (dC, dI)) (ci := 5) (v := .int (bI op)) (C := RX5) (T := TX5) (N := 11) hx hb hts in_X5 hown hK hP 0 rfl rfl 6 (by decide) f49 (fun _ h9 => h9) rfl dX5_acknowledged_1 ?_
  refine x_if_eq_b (tgt := 14) hx hb dX5_acknowledged_4 (by decide) (fun c4 => ?_) (fun c4 => ?_)
  · refine lv_bipush (v := (-4)) hx hb dX5_acknowledged_14 (by decide) ?_
    exact hret dX5_acknowledged_16 (by rfl) hP hD hS
  · exact absurd (ho.symm.trans c4) (by decide)

set_option maxHeartbeats 4000000 in
set_option maxRecDepth 100000 in
theorem c_SL_acknowledgedO {l : Launch} {dC : Nat → ClassId} {dI : Nat → Nat → Nat} {A : Nat → Prop} {a : Nat → Nat} {cB cI cL : ClassId} {h1 h2 s1 s2 : Nat} {op : Bool} {nx wt sf lf dn : Nat} {dg : Nat → Nat} {un : Nat} {ug : Nat → Nat} {qn : Nat} {qt qg : Nat → Nat} {tn : Nat} {tk tv : Nat → Int64} {ts : Nat → Nat} {ef eg ex : Nat} {eF : Nat → Nat} {pf pg px : Nat} {pF : Nat → Nat} (ho : op = true) : Met l yX5_acknowledged (Cond.code yX5_acknowledged cX5_acknowledged 1 (some .int) :: TB) { frames := 0, cells := 0, slots := 0, locals := 0 } (xPre Nst (dC, dI) A (tyS cB cI cL) (wS a cB cI cL h1 h2 s1 s2 op nx wt sf lf dn dg un ug qn qt qg tn tk tv ts ef eg ex eF pf pg px pF) [.ref (a 0)]) (xQi (dC, dI) A (nI sf) (wS a cB cI cL h1 h2 s1 s2 op nx wt sf lf dn dg un ug qn qt qg tn tk tv ts ef eg ex eF pf pg px pF)) 0 0 A := by
  refine x_ofWi (cc := cX5_acknowledged) (maxL := 1) (by decide) rfl (Nat.le_of_ble_eq_true rfl) ?_
  intro p e s m args below meth c Q hx hb hml hts hown hK hN hP hD hS hret ls hl
  have hl : lv_has ls 1 [(0, .ref (a 0))] := hl
  have hown : s.vm.findClass RX5 = some m.cls := hown
  have f49 := hts _ (List.mem_cons_of_mem _ tw_213)
  have in_X5 := (fun q hq => List.mem_cons_of_mem _ (inX5 q hq) : ∀ q ∈ wsX50, q ∈ (Cond.code yX5_acknowledged cX5_acknowledged 1 (some .int) :: TB))
  have f80 := hts _ (List.mem_cons_of_mem _ tw_216)
  refine lv_aload_n hx hb dX5_acknowledged_0 rfl (lv_at hl 0 rfl) ?_
  refine va_get (D := (dC, dI)) (ci := 5) (v := .int (bI op)) (C := RX5) (T := TX5) (N := 11) hx hb hts in_X5 hown hK hP 0 rfl rfl 6 (by decide) f49 (fun _ h9 => h9) rfl dX5_acknowledged_1 ?_
  refine x_if_eq_b (tgt := 14) hx hb dX5_acknowledged_4 (by decide) (fun c4 => ?_) (fun c4 => ?_)
  · exact absurd (ho.symm.trans c4) (by decide)
  · refine lv_aload_n hx hb dX5_acknowledged_7 rfl (lv_at hl 0 rfl) ?_
    refine va_get (D := (dC, dI)) (ci := 5) (v := .int (nI sf)) (C := RX5) (T := TX5) (N := 11) hx hb hts in_X5 hown hK hP 0 rfl rfl 9 (by decide) f80 (fun _ h9 => h9) rfl dX5_acknowledged_8 ?_
    refine lv_goto (tgt := 16) hx hb dX5_acknowledged_11 (by decide) ?_
    exact hret dX5_acknowledged_16 (by rfl) hP hD hS

set_option maxHeartbeats 4000000 in
set_option maxRecDepth 100000 in
theorem c_SL_getC {l : Launch} {dC : Nat → ClassId} {dI : Nat → Nat → Nat} {A : Nat → Prop} {a : Nat → Nat} {cB cI cL : ClassId} {h1 h2 s1 s2 : Nat} {op : Bool} {nx wt sf lf dn : Nat} {dg : Nat → Nat} {un : Nat} {ug : Nat → Nat} {qn : Nat} {qt qg : Nat → Nat} {tn : Nat} {tk tv : Nat → Int64} {ts : Nat → Nat} {ef eg ex : Nat} {eF : Nat → Nat} {pf pg px : Nat} {pF : Nat → Nat} (htn : tn ≤ 192) (k : Int64) (ho : op = false) : Met l yX5_get (Cond.code yX5_get cX5_get 5 (some .long) :: TB) { frames := 2, cells := 0, slots := 0, locals := 42 } (xPre Nst (dC, dI) A (tyS cB cI cL) (wS a cB cI cL h1 h2 s1 s2 op nx wt sf lf dn dg un ug qn qt qg tn tk tv ts ef eg ex eF pf pg px pF) [.ref (a 0), .long (k)]) (xQl (dC, dI) A (lN 0) (wS a cB cI cL h1 h2 s1 s2 op nx wt sf lf dn dg un ug qn qt qg tn tk tv ts ef eg ex eF pf pg px pF)) 0 0 A := by
  refine x_ofWl (cc := cX5_get) (maxL := 5) (by decide) rfl (Nat.le_of_ble_eq_true rfl) ?_
  intro p e s m args below meth c Q hx hb hml hts hown hK hN hP hD hS hret ls hl
  have hl : lv_has ls 5 [(0, .ref (a 0)), (1, .long (k))] := hl
  have hown : s.vm.findClass RX5 = some m.cls := hown
  have f35 := hts _ (List.mem_cons_of_mem _ tw_210)
  have in_X5 := (fun q hq => List.mem_cons_of_mem _ (inX5 q hq) : ∀ q ∈ wsX50, q ∈ (Cond.code yX5_get cX5_get 5 (some .long) :: TB))
  have n133 := hN (.methodLinkNest RX5 133 yX3_upTo "SegmentLog") (by decide +kernel)
  have ini_X3 := hts _ (List.mem_cons_of_mem _ tw_89)
  have im_yX3_upTo := hts _ (List.mem_cons_of_mem _ tw_293)
  have se_yX3_upTo := hts _ (List.mem_cons_of_mem _ tw_13)
  have f49 := hts _ (List.mem_cons_of_mem _ tw_213)
  refine lv_aload_n hx hb dX5_get_0 rfl (lv_at hl 0 rfl) ?_
  refine va_get (D := (dC, dI)) (ci := 5) (v := .ref (a 9)) (C := RX5) (T := TX5) (N := 11) hx hb hts in_X5 hown hK hP 0 rfl rfl 3 (by decide) f35 (fun _ h9 => h9) rfl dX5_get_1 ?_
  refine lv_lload_n hx hb dX5_get_4 rfl (lv_at hl 1 rfl) ?_
  refine x_calli (va_runVN (As := [.long (k)]) (rest := []) ⟨hx, hb, hml, hown, hts⟩ (c_Ta_upTo (by omega) k) ⟨(va_cnB 1 hts (tbG tw_294) rfl rfl rfl n133 ini_X3 (by decide +kernel) ⟨Nat.le_of_ble_eq_true rfl, Nat.le_of_ble_eq_true rfl⟩), im_yX3_upTo, se_yX3_upTo⟩ ⟨x_blind, va_recv hK hP (ci := 3) (q0 := 9) rfl rfl, x_pre hK hP hD hN⟩ rfl rfl hl.1 rfl (lv_room (Nat.le_of_ble_eq_true rfl)) dX5_get_5 ⟨Nat.zero_le _, Nat.zero_le _⟩) hS (fun H locs hP hD hS => ?_)
  have hP : va_P (dC, dI) vwCl (wS a cB cI cL h1 h2 s1 s2 op nx wt sf lf dn dg un ug qn qt qg tn tk tv ts ef eg ex eF pf pg px pF) H := hP
  have hD : va_D A (wS a cB cI cL h1 h2 s1 s2 op nx wt sf lf dn dg un ug qn qt qg tn tk tv ts ef eg ex eF pf pg px pF) := hD
  have hv5 := tup_le tk k tn 0
  refine lv_istore_n (lv' := [(3, .int (nI (tup tk k tn 0))), (0, .ref (a 0)), (1, .long (k))]) hx hb dX5_get_8 rfl hl (by decide) rfl (fun ls hl => ?_)
  refine lv_aload_n hx hb dX5_get_9 rfl (lv_at hl 1 rfl) ?_
  refine va_get (D := (dC, dI)) (ci := 5) (v := .int (bI op)) (C := RX5) (T := TX5) (N := 11) hx hb hts in_X5 hown hK hP 0 rfl rfl 6 (by decide) f49 (fun _ h9 => h9) rfl dX5_get_10 ?_
  refine x_if_eq_b (tgt := 32) hx hb dX5_get_13 (by decide) (fun c13 => ?_) (fun c13 => ?_)
  · refine lv_iconst (v := nI 0) hx hb dX5_get_32 (by decide) ?_
    refine lv_istore (lv' := [(4, .int (nI 0)), (3, .int (nI (tup tk k tn 0))), (0, .ref (a 0)), (1, .long (k))]) hx hb dX5_get_33 hl (by decide) rfl (fun ls hl => ?_)
    refine lv_iload hx hb dX5_get_35 (lv_at hl 0 rfl) ?_
    refine x_if_eq (tgt := 53) hx hb dX5_get_37 (by decide) (by decide) (fun c37 => ?_) (fun c37 => absurd c37 (by decide))
    refine lv_lconst (v := lN 0) hx hb dX5_get_53 rfl ?_
    exact hret dX5_get_54 (by rfl) hP hD hS
  · exact absurd (ho.symm.trans c13) (by decide)

set_option maxHeartbeats 4000000 in
set_option maxRecDepth 100000 in
theorem c_SL_getO {l : Launch} {dC : Nat → ClassId} {dI : Nat → Nat → Nat} {A : Nat → Prop} {a : Nat → Nat} {cB cI cL : ClassId} {h1 h2 s1 s2 : Nat} {op : Bool} {nx wt sf lf dn : Nat} {dg : Nat → Nat} {un : Nat} {ug : Nat → Nat} {qn : Nat} {qt qg : Nat → Nat} {tn : Nat} {tk tv : Nat → Int64} {ts : Nat → Nat} {ef eg ex : Nat} {eF : Nat → Nat} {pf pg px : Nat} {pF : Nat → Nat} (htn : tn ≤ 192) (k : Int64) (ho : op = true) : Met l yX5_get (Cond.code yX5_get cX5_get 5 (some .long) :: TB) { frames := 2, cells := 0, slots := 0, locals := 42 } (xPre Nst (dC, dI) A (tyS cB cI cL) (wS a cB cI cL h1 h2 s1 s2 op nx wt sf lf dn dg un ug qn qt qg tn tk tv ts ef eg ex eF pf pg px pF) [.ref (a 0), .long (k)]) (xQl (dC, dI) A (if tup tk k tn 0 ≤ tbe tk k tn 0 then lN 0 else tv (tup tk k tn 0 - 1)) (wS a cB cI cL h1 h2 s1 s2 op nx wt sf lf dn dg un ug qn qt qg tn tk tv ts ef eg ex eF pf pg px pF)) 0 0 A := by
  refine x_ofWl (cc := cX5_get) (maxL := 5) (by decide) rfl (Nat.le_of_ble_eq_true rfl) ?_
  intro p e s m args below meth c Q hx hb hml hts hown hK hN hP hD hS hret ls hl
  have hl : lv_has ls 5 [(0, .ref (a 0)), (1, .long (k))] := hl
  have hown : s.vm.findClass RX5 = some m.cls := hown
  have f35 := hts _ (List.mem_cons_of_mem _ tw_210)
  have in_X5 := (fun q hq => List.mem_cons_of_mem _ (inX5 q hq) : ∀ q ∈ wsX50, q ∈ (Cond.code yX5_get cX5_get 5 (some .long) :: TB))
  have n133 := hN (.methodLinkNest RX5 133 yX3_upTo "SegmentLog") (by decide +kernel)
  have ini_X3 := hts _ (List.mem_cons_of_mem _ tw_89)
  have im_yX3_upTo := hts _ (List.mem_cons_of_mem _ tw_293)
  have se_yX3_upTo := hts _ (List.mem_cons_of_mem _ tw_13)
  have f49 := hts _ (List.mem_cons_of_mem _ tw_213)
  have n137 := hN (.methodLinkNest RX5 137 yX3_below "SegmentLog") (by decide +kernel)
  have im_yX3_below := hts _ (List.mem_cons_of_mem _ tw_526)
  have se_yX3_below := hts _ (List.mem_cons_of_mem _ tw_54)
  have n140 := hN (.methodLinkNest RX5 140 yX3_value "SegmentLog") (by decide +kernel)
  have im_yX3_value := hts _ (List.mem_cons_of_mem _ tw_328)
  have se_yX3_value := hts _ (List.mem_cons_of_mem _ tw_21)
  refine lv_aload_n hx hb dX5_get_0 rfl (lv_at hl 0 rfl) ?_
  refine va_get (D := (dC, dI)) (ci := 5) (v := .ref (a 9)) (C := RX5) (T := TX5) (N := 11) hx hb hts in_X5 hown hK hP 0 rfl rfl 3 (by decide) f35 (fun _ h9 => h9) rfl dX5_get_1 ?_
  refine lv_lload_n hx hb dX5_get_4 rfl (lv_at hl 1 rfl) ?_
  refine x_calli (va_runVN (As := [.long (k)]) (rest := []) ⟨hx, hb, hml, hown, hts⟩ (c_Ta_upTo (by omega) k) ⟨(va_cnB 1 hts (tbG tw_294) rfl rfl rfl n133 ini_X3 (by decide +kernel) ⟨Nat.le_of_ble_eq_true rfl, Nat.le_of_ble_eq_true rfl⟩), im_yX3_upTo, se_yX3_upTo⟩ ⟨x_blind, va_recv hK hP (ci := 3) (q0 := 9) rfl rfl, x_pre hK hP hD hN⟩ rfl rfl hl.1 rfl (lv_room (Nat.le_of_ble_eq_true rfl)) dX5_get_5 ⟨Nat.zero_le _, Nat.zero_le _⟩) hS (fun H locs hP hD hS => ?_)
  have hP : va_P (dC, dI) vwCl (wS a cB cI cL h1 h2 s1 s2 op nx wt sf lf dn dg un ug qn qt qg tn tk tv ts ef eg ex eF pf pg px pF) H := hP
  have hD : va_D A (wS a cB cI cL h1 h2 s1 s2 op nx wt sf lf dn dg un ug qn qt qg tn tk tv ts ef eg ex eF pf pg px pF) := hD
  have hv5 := tup_le tk k tn 0
  refine lv_istore_n (lv' := [(3, .int (nI (tup tk k tn 0))), (0, .ref (a 0)), (1, .long (k))]) hx hb dX5_get_8 rfl hl (by decide) rfl (fun ls hl => ?_)
  refine lv_aload_n hx hb dX5_get_9 rfl (lv_at hl 1 rfl) ?_
  refine va_get (D := (dC, dI)) (ci := 5) (v := .int (bI op)) (C := RX5) (T := TX5) (N := 11) hx hb hts in_X5 hown hK hP 0 rfl rfl 6 (by decide) f49 (fun _ h9 => h9) rfl dX5_get_10 ?_
  refine x_if_eq_b (tgt := 32) hx hb dX5_get_13 (by decide) (fun c13 => ?_) (fun c13 => ?_)
  · exact absurd (ho.symm.trans c13) (by decide)
  · refine lv_iload_n hx hb dX5_get_16 rfl (lv_at hl 0 rfl) ?_
    refine lv_aload_n hx hb dX5_get_17 rfl (lv_at hl 1 rfl) ?_
    refine va_get (D := (dC, dI)) (ci := 5) (v := .ref (a 9)) (C := RX5) (T := TX5) (N := 11) hx hb hts in_X5 hown hK hP 0 rfl rfl 3 (by decide) f35 (fun _ h9 => h9) rfl dX5_get_18 ?_
    refine lv_lload_n hx hb dX5_get_21 rfl (lv_at hl 2 rfl) ?_
    refine x_calli (va_runVN (As := [.long (k)]) (rest := [.int (nI (tup tk k tn 0))]) ⟨hx, hb, hml, hown, hts⟩ (c_Ta_below (by omega) k) ⟨(va_cnB 1 hts (tbG tw_527) rfl rfl rfl n137 ini_X3 (by decide +kernel) ⟨Nat.le_of_ble_eq_true rfl, Nat.le_of_ble_eq_true rfl⟩), im_yX3_below, se_yX3_below⟩ ⟨x_blind, va_recv hK hP (ci := 3) (q0 := 9) rfl rfl, x_pre hK hP hD hN⟩ rfl rfl hl.1 rfl (lv_room (Nat.le_of_ble_eq_true rfl)) dX5_get_22 ⟨Nat.zero_le _, Nat.zero_le _⟩) hS (fun H locs hP hD hS => ?_)
    have hP : va_P (dC, dI) vwCl (wS a cB cI cL h1 h2 s1 s2 op nx wt sf lf dn dg un ug qn qt qg tn tk tv ts ef eg ex eF pf pg px pF) H := hP
    have hD : va_D A (wS a cB cI cL h1 h2 s1 s2 op nx wt sf lf dn dg un ug qn qt qg tn tk tv ts ef eg ex eF pf pg px pF) := hD
    have hv22 := tbe_le tk k tn 0
    refine x_icmp_le (tgt := 32) hx hb dX5_get_25 (by decide) (by omega) (by omega) (fun c25 => ?_) (fun c25 => ?_)
    · refine lv_iconst (v := nI 0) hx hb dX5_get_32 (by decide) ?_
      refine lv_istore (lv' := [(4, .int (nI 0)), (3, .int (nI (tup tk k tn 0))), (0, .ref (a 0)), (1, .long (k))]) hx hb dX5_get_33 hl (by decide) rfl (fun ls hl => ?_)
      refine lv_iload hx hb dX5_get_35 (lv_at hl 0 rfl) ?_
      refine x_if_eq (tgt := 53) hx hb dX5_get_37 (by decide) (by decide) (fun c37 => ?_) (fun c37 => absurd c37 (by decide))
      refine lv_lconst (v := lN 0) hx hb dX5_get_53 rfl ?_
      exact hret dX5_get_54 (by first | rw [if_pos c25] | rw [if_neg (Nat.not_le.mpr c25)]) hP hD hS
    · refine lv_iconst (v := nI 1) hx hb dX5_get_28 (by decide) ?_
      refine lv_goto (tgt := 33) hx hb dX5_get_29 (by decide) ?_
      refine lv_istore (lv' := [(4, .int (nI 1)), (3, .int (nI (tup tk k tn 0))), (0, .ref (a 0)), (1, .long (k))]) hx hb dX5_get_33 hl (by decide) rfl (fun ls hl => ?_)
      refine lv_iload hx hb dX5_get_35 (lv_at hl 0 rfl) ?_
      refine x_if_eq (tgt := 53) hx hb dX5_get_37 (by decide) (by decide) (fun c37 => absurd c37 (by decide)) (fun c37 => ?_)
      refine lv_aload_n hx hb dX5_get_40 rfl (lv_at hl 2 rfl) ?_
      refine va_get (D := (dC, dI)) (ci := 5) (v := .ref (a 9)) (C := RX5) (T := TX5) (N := 11) hx hb hts in_X5 hown hK hP 0 rfl rfl 3 (by decide) f35 (fun _ h9 => h9) rfl dX5_get_41 ?_
      refine lv_iload_n hx hb dX5_get_44 rfl (lv_at hl 1 rfl) ?_
      refine lv_iconst (v := nI 1) hx hb dX5_get_45 (by decide) ?_
      refine x_isub hx hb dX5_get_46 (by omega) ?_
      refine x_calll (va_runVN (As := [.int (nI ((tup tk k tn 0) - 1))]) (rest := []) ⟨hx, hb, hml, hown, hts⟩ (c_Ta_value (by omega) ((tup tk k tn 0) - 1) (by omega)) ⟨(va_cnB 1 hts (tbG tw_329) rfl rfl rfl n140 ini_X3 (by decide +kernel) ⟨Nat.le_of_ble_eq_true rfl, Nat.le_of_ble_eq_true rfl⟩), im_yX3_value, se_yX3_value⟩ ⟨x_blind, va_recv hK hP (ci := 3) (q0 := 9) rfl rfl, x_pre hK hP hD hN⟩ rfl rfl hl.1 rfl (lv_room (Nat.le_of_ble_eq_true rfl)) dX5_get_47 ⟨Nat.zero_le _, Nat.zero_le _⟩) hS (fun H locs hP hD hS => ?_)
      have hP : va_P (dC, dI) vwCl (wS a cB cI cL h1 h2 s1 s2 op nx wt sf lf dn dg un ug qn qt qg tn tk tv ts ef eg ex eF pf pg px pF) H := hP
      have hD : va_D A (wS a cB cI cL h1 h2 s1 s2 op nx wt sf lf dn dg un ug qn qt qg tn tk tv ts ef eg ex eF pf pg px pF) := hD
      refine lv_goto (tgt := 54) hx hb dX5_get_50 (by decide) ?_
      exact hret dX5_get_54 (by first | rw [if_pos c25] | rw [if_neg (Nat.not_le.mpr c25)]) hP hD hS

set_option maxHeartbeats 4000000 in
set_option maxRecDepth 100000 in
theorem c_SL_timesC {l : Launch} {dC : Nat → ClassId} {dI : Nat → Nat → Nat} {A : Nat → Prop} {a : Nat → Nat} {cB cI cL : ClassId} {h1 h2 s1 s2 : Nat} {op : Bool} {nx wt sf lf dn : Nat} {dg : Nat → Nat} {un : Nat} {ug : Nat → Nat} {qn : Nat} {qt qg : Nat → Nat} {tn : Nat} {tk tv : Nat → Int64} {ts : Nat → Nat} {ef eg ex : Nat} {eF : Nat → Nat} {pf pg px : Nat} {pF : Nat → Nat} (k : Int64) (ho : op = false) : Met l yX5_times (Cond.code yX5_times cX5_times 3 (some .int) :: TB) { frames := 1, cells := 0, slots := 0, locals := 24 } (xPre Nst (dC, dI) A (tyS cB cI cL) (wS a cB cI cL h1 h2 s1 s2 op nx wt sf lf dn dg un ug qn qt qg tn tk tv ts ef eg ex eF pf pg px pF) [.ref (a 0), .long (k)]) (xQi (dC, dI) A ((-4)) (wS a cB cI cL h1 h2 s1 s2 op nx wt sf lf dn dg un ug qn qt qg tn tk tv ts ef eg ex eF pf pg px pF)) 0 0 A := by
  refine x_ofWi (cc := cX5_times) (maxL := 3) (by decide) rfl (Nat.le_of_ble_eq_true rfl) ?_
  intro p e s m args below meth c Q hx hb hml hts hown hK hN hP hD hS hret ls hl
  have hl : lv_has ls 3 [(0, .ref (a 0)), (1, .long (k))] := hl
  have hown : s.vm.findClass RX5 = some m.cls := hown
  have f49 := hts _ (List.mem_cons_of_mem _ tw_213)
  have in_X5 := (fun q hq => List.mem_cons_of_mem _ (inX5 q hq) : ∀ q ∈ wsX50, q ∈ (Cond.code yX5_times cX5_times 3 (some .int) :: TB))
  refine lv_aload_n hx hb dX5_times_0 rfl (lv_at hl 0 rfl) ?_
  refine va_get (D := (dC, dI)) (ci := 5) (v := .int (bI op)) (C := RX5) (T := TX5) (N := 11) hx hb hts in_X5 hown hK hP 0 rfl rfl 6 (by decide) f49 (fun _ h9 => h9) rfl dX5_times_1 ?_
  refine x_if_eq_b (tgt := 27) hx hb dX5_times_4 (by decide) (fun c4 => ?_) (fun c4 => ?_)
  · refine lv_bipush (v := (-4)) hx hb dX5_times_27 (by decide) ?_
    exact hret dX5_times_29 (by rfl) hP hD hS
  · exact absurd (ho.symm.trans c4) (by decide)

set_option maxHeartbeats 4000000 in
set_option maxRecDepth 100000 in
theorem c_SL_timesO {l : Launch} {dC : Nat → ClassId} {dI : Nat → Nat → Nat} {A : Nat → Prop} {a : Nat → Nat} {cB cI cL : ClassId} {h1 h2 s1 s2 : Nat} {op : Bool} {nx wt sf lf dn : Nat} {dg : Nat → Nat} {un : Nat} {ug : Nat → Nat} {qn : Nat} {qt qg : Nat → Nat} {tn : Nat} {tk tv : Nat → Int64} {ts : Nat → Nat} {ef eg ex : Nat} {eF : Nat → Nat} {pf pg px : Nat} {pF : Nat → Nat} (htn : tn ≤ 192) (k : Int64) (ho : op = true) (hle : tbe tk k tn 0 ≤ tup tk k tn 0) : Met l yX5_times (Cond.code yX5_times cX5_times 3 (some .int) :: TB) { frames := 1, cells := 0, slots := 0, locals := 24 } (xPre Nst (dC, dI) A (tyS cB cI cL) (wS a cB cI cL h1 h2 s1 s2 op nx wt sf lf dn dg un ug qn qt qg tn tk tv ts ef eg ex eF pf pg px pF) [.ref (a 0), .long (k)]) (xQi (dC, dI) A (nI (tup tk k tn 0 - tbe tk k tn 0)) (wS a cB cI cL h1 h2 s1 s2 op nx wt sf lf dn dg un ug qn qt qg tn tk tv ts ef eg ex eF pf pg px pF)) 0 0 A := by
  refine x_ofWi (cc := cX5_times) (maxL := 3) (by decide) rfl (Nat.le_of_ble_eq_true rfl) ?_
  intro p e s m args below meth c Q hx hb hml hts hown hK hN hP hD hS hret ls hl
  have hl : lv_has ls 3 [(0, .ref (a 0)), (1, .long (k))] := hl
  have hown : s.vm.findClass RX5 = some m.cls := hown
  have f49 := hts _ (List.mem_cons_of_mem _ tw_213)
  have in_X5 := (fun q hq => List.mem_cons_of_mem _ (inX5 q hq) : ∀ q ∈ wsX50, q ∈ (Cond.code yX5_times cX5_times 3 (some .int) :: TB))
  have f35 := hts _ (List.mem_cons_of_mem _ tw_210)
  have n133 := hN (.methodLinkNest RX5 133 yX3_upTo "SegmentLog") (by decide +kernel)
  have ini_X3 := hts _ (List.mem_cons_of_mem _ tw_89)
  have im_yX3_upTo := hts _ (List.mem_cons_of_mem _ tw_293)
  have se_yX3_upTo := hts _ (List.mem_cons_of_mem _ tw_13)
  have n137 := hN (.methodLinkNest RX5 137 yX3_below "SegmentLog") (by decide +kernel)
  have im_yX3_below := hts _ (List.mem_cons_of_mem _ tw_526)
  have se_yX3_below := hts _ (List.mem_cons_of_mem _ tw_54)
  refine lv_aload_n hx hb dX5_times_0 rfl (lv_at hl 0 rfl) ?_
  refine va_get (D := (dC, dI)) (ci := 5) (v := .int (bI op)) (C := RX5) (T := TX5) (N := 11) hx hb hts in_X5 hown hK hP 0 rfl rfl 6 (by decide) f49 (fun _ h9 => h9) rfl dX5_times_1 ?_
  refine x_if_eq_b (tgt := 27) hx hb dX5_times_4 (by decide) (fun c4 => ?_) (fun c4 => ?_)
  · exact absurd (ho.symm.trans c4) (by decide)
  · refine lv_aload_n hx hb dX5_times_7 rfl (lv_at hl 0 rfl) ?_
    refine va_get (D := (dC, dI)) (ci := 5) (v := .ref (a 9)) (C := RX5) (T := TX5) (N := 11) hx hb hts in_X5 hown hK hP 0 rfl rfl 3 (by decide) f35 (fun _ h9 => h9) rfl dX5_times_8 ?_
    refine lv_lload_n hx hb dX5_times_11 rfl (lv_at hl 1 rfl) ?_
    refine x_calli (va_runVN (As := [.long (k)]) (rest := []) ⟨hx, hb, hml, hown, hts⟩ (c_Ta_upTo (by omega) k) ⟨(va_cnB 1 hts (tbG tw_294) rfl rfl rfl n133 ini_X3 (by decide +kernel) ⟨Nat.le_of_ble_eq_true rfl, Nat.le_of_ble_eq_true rfl⟩), im_yX3_upTo, se_yX3_upTo⟩ ⟨x_blind, va_recv hK hP (ci := 3) (q0 := 9) rfl rfl, x_pre hK hP hD hN⟩ rfl rfl hl.1 rfl (lv_room (Nat.le_of_ble_eq_true rfl)) dX5_times_12 ⟨Nat.zero_le _, Nat.zero_le _⟩) hS (fun H locs hP hD hS => ?_)
    have hP : va_P (dC, dI) vwCl (wS a cB cI cL h1 h2 s1 s2 op nx wt sf lf dn dg un ug qn qt qg tn tk tv ts ef eg ex eF pf pg px pF) H := hP
    have hD : va_D A (wS a cB cI cL h1 h2 s1 s2 op nx wt sf lf dn dg un ug qn qt qg tn tk tv ts ef eg ex eF pf pg px pF) := hD
    have hv12 := tup_le tk k tn 0
    refine lv_aload_n hx hb dX5_times_15 rfl (lv_at hl 0 rfl) ?_
    refine va_get (D := (dC, dI)) (ci := 5) (v := .ref (a 9)) (C := RX5) (T := TX5) (N := 11) hx hb hts in_X5 hown hK hP 0 rfl rfl 3 (by decide) f35 (fun _ h9 => h9) rfl dX5_times_16 ?_
    refine lv_lload_n hx hb dX5_times_19 rfl (lv_at hl 1 rfl) ?_
    refine x_calli (va_runVN (As := [.long (k)]) (rest := [.int (nI (tup tk k tn 0))]) ⟨hx, hb, hml, hown, hts⟩ (c_Ta_below (by omega) k) ⟨(va_cnB 1 hts (tbG tw_527) rfl rfl rfl n137 ini_X3 (by decide +kernel) ⟨Nat.le_of_ble_eq_true rfl, Nat.le_of_ble_eq_true rfl⟩), im_yX3_below, se_yX3_below⟩ ⟨x_blind, va_recv hK hP (ci := 3) (q0 := 9) rfl rfl, x_pre hK hP hD hN⟩ rfl rfl hl.1 rfl (lv_room (Nat.le_of_ble_eq_true rfl)) dX5_times_20 ⟨Nat.zero_le _, Nat.zero_le _⟩) hS (fun H locs hP hD hS => ?_)
    have hP : va_P (dC, dI) vwCl (wS a cB cI cL h1 h2 s1 s2 op nx wt sf lf dn dg un ug qn qt qg tn tk tv ts ef eg ex eF pf pg px pF) H := hP
    have hD : va_D A (wS a cB cI cL h1 h2 s1 s2 op nx wt sf lf dn dg un ug qn qt qg tn tk tv ts ef eg ex eF pf pg px pF) := hD
    have hv20 := tbe_le tk k tn 0
    refine x_isub hx hb dX5_times_23 (by omega) ?_
    refine lv_goto (tgt := 29) hx hb dX5_times_24 (by decide) ?_
    exact hret dX5_times_29 (by rfl) hP hD hS

set_option maxHeartbeats 4000000 in
set_option maxRecDepth 100000 in
theorem c_SL_recordC {l : Launch} {dC : Nat → ClassId} {dI : Nat → Nat → Nat} {A : Nat → Prop} {a : Nat → Nat} {cB cI cL : ClassId} {h1 h2 s1 s2 : Nat} {op : Bool} {nx wt sf lf dn : Nat} {dg : Nat → Nat} {un : Nat} {ug : Nat → Nat} {qn : Nat} {qt qg : Nat → Nat} {tn : Nat} {tk tv : Nat → Int64} {ts : Nat → Nat} {ef eg ex : Nat} {eF : Nat → Nat} {pf pg px : Nat} {pF : Nat → Nat} (htn : tn ≤ 192) (x y : Int32) (ho : op = false) : Met l yX5_record (Cond.code yX5_record cX5_record 3 (some .long) :: TB) { frames := 2, cells := 0, slots := 0, locals := 42 } (xPre Nst (dC, dI) A (tyS cB cI cL) (wS a cB cI cL h1 h2 s1 s2 op nx wt sf lf dn dg un ug qn qt qg tn tk tv ts ef eg ex eF pf pg px pF) [.ref (a 0), .int (x), .int (y)]) (xQl (dC, dI) A (lN 0) (wS a cB cI cL h1 h2 s1 s2 op nx wt sf lf dn dg un ug qn qt qg tn tk tv ts ef eg ex eF pf pg px pF)) 0 0 A := by
  refine x_ofWl (cc := cX5_record) (maxL := 3) (by decide) rfl (Nat.le_of_ble_eq_true rfl) ?_
  intro p e s m args below meth c Q hx hb hml hts hown hK hN hP hD hS hret ls hl
  have hl : lv_has ls 3 [(0, .ref (a 0)), (1, .int (x)), (2, .int (y))] := hl
  have hown : s.vm.findClass RX5 = some m.cls := hown
  have f49 := hts _ (List.mem_cons_of_mem _ tw_213)
  have in_X5 := (fun q hq => List.mem_cons_of_mem _ (inX5 q hq) : ∀ q ∈ wsX50, q ∈ (Cond.code yX5_record cX5_record 3 (some .long) :: TB))
  refine lv_aload_n hx hb dX5_record_0 rfl (lv_at hl 0 rfl) ?_
  refine va_get (D := (dC, dI)) (ci := 5) (v := .int (bI op)) (C := RX5) (T := TX5) (N := 11) hx hb hts in_X5 hown hK hP 0 rfl rfl 6 (by decide) f49 (fun _ h9 => h9) rfl dX5_record_1 ?_
  refine x_if_eq_b (tgt := 18) hx hb dX5_record_4 (by decide) (fun c4 => ?_) (fun c4 => ?_)
  · refine lv_lconst (v := lN 0) hx hb dX5_record_18 rfl ?_
    exact hret dX5_record_19 (by rfl) hP hD hS
  · exact absurd (ho.symm.trans c4) (by decide)

set_option maxHeartbeats 4000000 in
set_option maxRecDepth 100000 in
theorem c_SL_recordB {l : Launch} {dC : Nat → ClassId} {dI : Nat → Nat → Nat} {A : Nat → Prop} {a : Nat → Nat} {cB cI cL : ClassId} {h1 h2 s1 s2 : Nat} {op : Bool} {nx wt sf lf dn : Nat} {dg : Nat → Nat} {un : Nat} {ug : Nat → Nat} {qn : Nat} {qt qg : Nat → Nat} {tn : Nat} {tk tv : Nat → Int64} {ts : Nat → Nat} {ef eg ex : Nat} {eF : Nat → Nat} {pf pg px : Nat} {pF : Nat → Nat} (htn : tn ≤ 192) (x y : Int32) (ho : op = true) (hz : xin tn x = false) : Met l yX5_record (Cond.code yX5_record cX5_record 3 (some .long) :: TB) { frames := 2, cells := 0, slots := 0, locals := 42 } (xPre Nst (dC, dI) A (tyS cB cI cL) (wS a cB cI cL h1 h2 s1 s2 op nx wt sf lf dn dg un ug qn qt qg tn tk tv ts ef eg ex eF pf pg px pF) [.ref (a 0), .int (x), .int (y)]) (xQl (dC, dI) A (lN 0) (wS a cB cI cL h1 h2 s1 s2 op nx wt sf lf dn dg un ug qn qt qg tn tk tv ts ef eg ex eF pf pg px pF)) 0 0 A := by
  refine x_ofWl (cc := cX5_record) (maxL := 3) (by decide) rfl (Nat.le_of_ble_eq_true rfl) ?_
  intro p e s m args below meth c Q hx hb hml hts hown hK hN hP hD hS hret ls hl
  have hl : lv_has ls 3 [(0, .ref (a 0)), (1, .int (x)), (2, .int (y))] := hl
  have hown : s.vm.findClass RX5 = some m.cls := hown
  have f49 := hts _ (List.mem_cons_of_mem _ tw_213)
  have in_X5 := (fun q hq => List.mem_cons_of_mem _ (inX5 q hq) : ∀ q ∈ wsX50, q ∈ (Cond.code yX5_record cX5_record 3 (some .long) :: TB))
  have f35 := hts _ (List.mem_cons_of_mem _ tw_210)
  have n144 := hN (.methodLinkNest RX5 144 yX3_has "SegmentLog") (by decide +kernel)
  have ini_X3 := hts _ (List.mem_cons_of_mem _ tw_89)
  have im_yX3_has := hts _ (List.mem_cons_of_mem _ tw_324)
  have se_yX3_has := hts _ (List.mem_cons_of_mem _ tw_20)
  refine lv_aload_n hx hb dX5_record_0 rfl (lv_at hl 0 rfl) ?_
  refine va_get (D := (dC, dI)) (ci := 5) (v := .int (bI op)) (C := RX5) (T := TX5) (N := 11) hx hb hts in_X5 hown hK hP 0 rfl rfl 6 (by decide) f49 (fun _ h9 => h9) rfl dX5_record_1 ?_
  refine x_if_eq_b (tgt := 18) hx hb dX5_record_4 (by decide) (fun c4 => ?_) (fun c4 => ?_)
  · refine lv_lconst (v := lN 0) hx hb dX5_record_18 rfl ?_
    exact hret dX5_record_19 (by rfl) hP hD hS
  · refine lv_aload_n hx hb dX5_record_7 rfl (lv_at hl 0 rfl) ?_
    refine va_get (D := (dC, dI)) (ci := 5) (v := .ref (a 9)) (C := RX5) (T := TX5) (N := 11) hx hb hts in_X5 hown hK hP 0 rfl rfl 3 (by decide) f35 (fun _ h9 => h9) rfl dX5_record_8 ?_
    refine lv_iload_n hx hb dX5_record_11 rfl (lv_at hl 1 rfl) ?_
    refine x_calli (va_runVN (As := [.int (x)]) (rest := []) ⟨hx, hb, hml, hown, hts⟩ (c_Ta_has (by omega) x) ⟨(va_cnB 1 hts (tbG tw_325) rfl rfl rfl n144 ini_X3 (by decide +kernel) ⟨Nat.le_of_ble_eq_true rfl, Nat.le_of_ble_eq_true rfl⟩), im_yX3_has, se_yX3_has⟩ ⟨x_blind, va_recv hK hP (ci := 3) (q0 := 9) rfl rfl, x_pre hK hP hD hN⟩ rfl rfl hl.1 rfl (lv_room (Nat.le_of_ble_eq_true rfl)) dX5_record_12 ⟨Nat.zero_le _, Nat.zero_le _⟩) hS (fun H locs hP hD hS => ?_)
    have hP : va_P (dC, dI) vwCl (wS a cB cI cL h1 h2 s1 s2 op nx wt sf lf dn dg un ug qn qt qg tn tk tv ts ef eg ex eF pf pg px pF) H := hP
    have hD : va_D A (wS a cB cI cL h1 h2 s1 s2 op nx wt sf lf dn dg un ug qn qt qg tn tk tv ts ef eg ex eF pf pg px pF) := hD
    refine x_if_ne_b (tgt := 20) hx hb dX5_record_15 (by decide) (fun c15 => ?_) (fun c15 => ?_)
    · exact absurd (hz.symm.trans c15) (by decide)
    · refine lv_lconst (v := lN 0) hx hb dX5_record_18 rfl ?_
      exact hret dX5_record_19 (by rfl) hP hD hS

set_option maxHeartbeats 4000000 in
set_option maxRecDepth 100000 in
theorem c_SL_recordD {l : Launch} {dC : Nat → ClassId} {dI : Nat → Nat → Nat} {A : Nat → Prop} {a : Nat → Nat} {cB cI cL : ClassId} {h1 h2 s1 s2 : Nat} {op : Bool} {nx wt sf lf dn : Nat} {dg : Nat → Nat} {un : Nat} {ug : Nat → Nat} {qn : Nat} {qt qg : Nat → Nat} {tn : Nat} {tk tv : Nat → Int64} {ts : Nat → Nat} {ef eg ex : Nat} {eF : Nat → Nat} {pf pg px : Nat} {pF : Nat → Nat} (htn : tn ≤ 192) (i : Nat) (y : Int32) (ho : op = true) (hi1 : i < tn) (hy0 : ¬ y = nI 0) (hy1 : ¬ y = nI 1) (hy2 : ¬ y = nI 2) : Met l yX5_record (Cond.code yX5_record cX5_record 3 (some .long) :: TB) { frames := 2, cells := 0, slots := 0, locals := 42 } (xPre Nst (dC, dI) A (tyS cB cI cL) (wS a cB cI cL h1 h2 s1 s2 op nx wt sf lf dn dg un ug qn qt qg tn tk tv ts ef eg ex eF pf pg px pF) [.ref (a 0), .int (nI i), .int (y)]) (xQl (dC, dI) A (lN 0) (wS a cB cI cL h1 h2 s1 s2 op nx wt sf lf dn dg un ug qn qt qg tn tk tv ts ef eg ex eF pf pg px pF)) 0 0 A := by
  refine x_ofWl (cc := cX5_record) (maxL := 3) (by decide) rfl (Nat.le_of_ble_eq_true rfl) ?_
  intro p e s m args below meth c Q hx hb hml hts hown hK hN hP hD hS hret ls hl
  have hl : lv_has ls 3 [(0, .ref (a 0)), (1, .int (nI i)), (2, .int (y))] := hl
  have hown : s.vm.findClass RX5 = some m.cls := hown
  have f49 := hts _ (List.mem_cons_of_mem _ tw_213)
  have in_X5 := (fun q hq => List.mem_cons_of_mem _ (inX5 q hq) : ∀ q ∈ wsX50, q ∈ (Cond.code yX5_record cX5_record 3 (some .long) :: TB))
  have f35 := hts _ (List.mem_cons_of_mem _ tw_210)
  have n144 := hN (.methodLinkNest RX5 144 yX3_has "SegmentLog") (by decide +kernel)
  have ini_X3 := hts _ (List.mem_cons_of_mem _ tw_89)
  have im_yX3_has := hts _ (List.mem_cons_of_mem _ tw_324)
  have se_yX3_has := hts _ (List.mem_cons_of_mem _ tw_20)
  refine lv_aload_n hx hb dX5_record_0 rfl (lv_at hl 0 rfl) ?_
  refine va_get (D := (dC, dI)) (ci := 5) (v := .int (bI op)) (C := RX5) (T := TX5) (N := 11) hx hb hts in_X5 hown hK hP 0 rfl rfl 6 (by decide) f49 (fun _ h9 => h9) rfl dX5_record_1 ?_
  refine x_if_eq_b (tgt := 18) hx hb dX5_record_4 (by decide) (fun c4 => ?_) (fun c4 => ?_)
  · exact absurd (ho.symm.trans c4) (by decide)
  · refine lv_aload_n hx hb dX5_record_7 rfl (lv_at hl 0 rfl) ?_
    refine va_get (D := (dC, dI)) (ci := 5) (v := .ref (a 9)) (C := RX5) (T := TX5) (N := 11) hx hb hts in_X5 hown hK hP 0 rfl rfl 3 (by decide) f35 (fun _ h9 => h9) rfl dX5_record_8 ?_
    refine lv_iload_n hx hb dX5_record_11 rfl (lv_at hl 1 rfl) ?_
    refine x_calli (va_runVN (As := [.int (nI i)]) (rest := []) ⟨hx, hb, hml, hown, hts⟩ (c_Ta_hasN (by omega) i (by omega)) ⟨(va_cnB 1 hts (tbG tw_325) rfl rfl rfl n144 ini_X3 (by decide +kernel) ⟨Nat.le_of_ble_eq_true rfl, Nat.le_of_ble_eq_true rfl⟩), im_yX3_has, se_yX3_has⟩ ⟨x_blind, va_recv hK hP (ci := 3) (q0 := 9) rfl rfl, x_pre hK hP hD hN⟩ rfl rfl hl.1 rfl (lv_room (Nat.le_of_ble_eq_true rfl)) dX5_record_12 ⟨Nat.zero_le _, Nat.zero_le _⟩) hS (fun H locs hP hD hS => ?_)
    have hP : va_P (dC, dI) vwCl (wS a cB cI cL h1 h2 s1 s2 op nx wt sf lf dn dg un ug qn qt qg tn tk tv ts ef eg ex eF pf pg px pF) H := hP
    have hD : va_D A (wS a cB cI cL h1 h2 s1 s2 op nx wt sf lf dn dg un ug qn qt qg tn tk tv ts ef eg ex eF pf pg px pF) := hD
    refine x_if_ne_b (tgt := 20) hx hb dX5_record_15 (by decide) (fun c15 => ?_) (fun c15 => ?_)
    · refine lv_iload_n hx hb dX5_record_20 rfl (lv_at hl 2 rfl) ?_
      by_cases c21_0 : y = nI 0
      · exact absurd c21_0 hy0
      by_cases c21_1 : y = nI 1
      · exact absurd c21_1 hy1
      by_cases c21_2 : y = nI 2
      · exact absurd c21_2 hy2
      refine x_tabNo (tgt := 80) (lo := 0) (hi := 2) hx hb dX5_record_21 (fun k h1 h2 q => by rcases (show k = 0 ∨ k = 1 ∨ k = 2 by omega) with rfl | rfl | rfl <;> first | exact c21_0 q | exact c21_1 q | exact c21_2 q) (by decide) (by decide) ?_
      refine lv_lconst (v := lN 0) hx hb dX5_record_80 rfl ?_
      exact hret dX5_record_81 (by rfl) hP hD hS
    · exact absurd (of_decide_eq_false c15) (by omega)

set_option maxHeartbeats 4000000 in
set_option maxRecDepth 100000 in
theorem c_SL_recordG {l : Launch} {dC : Nat → ClassId} {dI : Nat → Nat → Nat} {A : Nat → Prop} {a : Nat → Nat} {cB cI cL : ClassId} {h1 h2 s1 s2 : Nat} {op : Bool} {nx wt sf lf dn : Nat} {dg : Nat → Nat} {un : Nat} {ug : Nat → Nat} {qn : Nat} {qt qg : Nat → Nat} {tn : Nat} {tk tv : Nat → Int64} {ts : Nat → Nat} {ef eg ex : Nat} {eF : Nat → Nat} {pf pg px : Nat} {pF : Nat → Nat} (htn : tn ≤ 192) (hs : ∀ j, ts j < 2 ^ 31) (hnx : nx < 2 ^ 30) (hwt : wt ≤ nx) (i w : Nat) (ho : op = true) (hi1 : i < tn) (hw1 : w ≤ 2) : Met l yX5_record (Cond.code yX5_record cX5_record 3 (some .long) :: TB) { frames := 2, cells := 0, slots := 0, locals := 42 } (xPre Nst (dC, dI) A (tyS cB cI cL) (wS a cB cI cL h1 h2 s1 s2 op nx wt sf lf dn dg un ug qn qt qg tn tk tv ts ef eg ex eF pf pg px pF) [.ref (a 0), .int (nI i), .int (nI w)]) (xQl (dC, dI) A (if w = 0 then tk i else if w = 1 then tv i else lN (plc nx wt (ts i))) (wS a cB cI cL h1 h2 s1 s2 op nx wt sf lf dn dg un ug qn qt qg tn tk tv ts ef eg ex eF pf pg px pF)) 0 0 A := by
  refine x_ofWl (cc := cX5_record) (maxL := 3) (by decide) rfl (Nat.le_of_ble_eq_true rfl) ?_
  intro p e s m args below meth c Q hx hb hml hts hown hK hN hP hD hS hret ls hl
  have hl : lv_has ls 3 [(0, .ref (a 0)), (1, .int (nI i)), (2, .int (nI w))] := hl
  have hown : s.vm.findClass RX5 = some m.cls := hown
  have q1 := hs i
  have f49 := hts _ (List.mem_cons_of_mem _ tw_213)
  have in_X5 := (fun q hq => List.mem_cons_of_mem _ (inX5 q hq) : ∀ q ∈ wsX50, q ∈ (Cond.code yX5_record cX5_record 3 (some .long) :: TB))
  have f35 := hts _ (List.mem_cons_of_mem _ tw_210)
  have n144 := hN (.methodLinkNest RX5 144 yX3_has "SegmentLog") (by decide +kernel)
  have ini_X3 := hts _ (List.mem_cons_of_mem _ tw_89)
  have im_yX3_has := hts _ (List.mem_cons_of_mem _ tw_324)
  have se_yX3_has := hts _ (List.mem_cons_of_mem _ tw_20)
  have n148 := hN (.methodLinkNest RX5 148 yX3_key "SegmentLog") (by decide +kernel)
  have im_yX3_key := hts _ (List.mem_cons_of_mem _ tw_320)
  have se_yX3_key := hts _ (List.mem_cons_of_mem _ tw_19)
  have n140 := hN (.methodLinkNest RX5 140 yX3_value "SegmentLog") (by decide +kernel)
  have im_yX3_value := hts _ (List.mem_cons_of_mem _ tw_328)
  have se_yX3_value := hts _ (List.mem_cons_of_mem _ tw_21)
  have n151 := hN (.methodLinkNest RX5 151 yX3_sequence "SegmentLog") (by decide +kernel)
  have im_yX3_sequence := hts _ (List.mem_cons_of_mem _ tw_404)
  have se_yX3_sequence := hts _ (List.mem_cons_of_mem _ tw_33)
  refine lv_aload_n hx hb dX5_record_0 rfl (lv_at hl 0 rfl) ?_
  refine va_get (D := (dC, dI)) (ci := 5) (v := .int (bI op)) (C := RX5) (T := TX5) (N := 11) hx hb hts in_X5 hown hK hP 0 rfl rfl 6 (by decide) f49 (fun _ h9 => h9) rfl dX5_record_1 ?_
  refine x_if_eq_b (tgt := 18) hx hb dX5_record_4 (by decide) (fun c4 => ?_) (fun c4 => ?_)
  · exact absurd (ho.symm.trans c4) (by decide)
  · refine lv_aload_n hx hb dX5_record_7 rfl (lv_at hl 0 rfl) ?_
    refine va_get (D := (dC, dI)) (ci := 5) (v := .ref (a 9)) (C := RX5) (T := TX5) (N := 11) hx hb hts in_X5 hown hK hP 0 rfl rfl 3 (by decide) f35 (fun _ h9 => h9) rfl dX5_record_8 ?_
    refine lv_iload_n hx hb dX5_record_11 rfl (lv_at hl 1 rfl) ?_
    refine x_calli (va_runVN (As := [.int (nI i)]) (rest := []) ⟨hx, hb, hml, hown, hts⟩ (c_Ta_hasN (by omega) i (by omega)) ⟨(va_cnB 1 hts (tbG tw_325) rfl rfl rfl n144 ini_X3 (by decide +kernel) ⟨Nat.le_of_ble_eq_true rfl, Nat.le_of_ble_eq_true rfl⟩), im_yX3_has, se_yX3_has⟩ ⟨x_blind, va_recv hK hP (ci := 3) (q0 := 9) rfl rfl, x_pre hK hP hD hN⟩ rfl rfl hl.1 rfl (lv_room (Nat.le_of_ble_eq_true rfl)) dX5_record_12 ⟨Nat.zero_le _, Nat.zero_le _⟩) hS (fun H locs hP hD hS => ?_)
    have hP : va_P (dC, dI) vwCl (wS a cB cI cL h1 h2 s1 s2 op nx wt sf lf dn dg un ug qn qt qg tn tk tv ts ef eg ex eF pf pg px pF) H := hP
    have hD : va_D A (wS a cB cI cL h1 h2 s1 s2 op nx wt sf lf dn dg un ug qn qt qg tn tk tv ts ef eg ex eF pf pg px pF) := hD
    refine x_if_ne_b (tgt := 20) hx hb dX5_record_15 (by decide) (fun c15 => ?_) (fun c15 => ?_)
    · refine lv_iload_n hx hb dX5_record_20 rfl (lv_at hl 2 rfl) ?_
      rcases (show w = 0 ∨ w = 1 ∨ w = 2 ∨ (w < 0 ∨ 2 < w) by omega) with c21 | c21 | c21 | c21
      · refine x_tabIn (tgt := 48) hx hb dX5_record_21 c21 (by decide) (by decide) (by decide) rfl (by decide) ?_
        refine lv_aload_n hx hb dX5_record_48 rfl (lv_at hl 0 rfl) ?_
        refine va_get (D := (dC, dI)) (ci := 5) (v := .ref (a 9)) (C := RX5) (T := TX5) (N := 11) hx hb hts in_X5 hown hK hP 0 rfl rfl 3 (by decide) f35 (fun _ h9 => h9) rfl dX5_record_49 ?_
        refine lv_iload_n hx hb dX5_record_52 rfl (lv_at hl 1 rfl) ?_
        refine x_calll (va_runVN (As := [.int (nI i)]) (rest := []) ⟨hx, hb, hml, hown, hts⟩ (c_Ta_key (by omega) i (by omega)) ⟨(va_cnB 1 hts (tbG tw_321) rfl rfl rfl n148 ini_X3 (by decide +kernel) ⟨Nat.le_of_ble_eq_true rfl, Nat.le_of_ble_eq_true rfl⟩), im_yX3_key, se_yX3_key⟩ ⟨x_blind, va_recv hK hP (ci := 3) (q0 := 9) rfl rfl, x_pre hK hP hD hN⟩ rfl rfl hl.1 rfl (lv_room (Nat.le_of_ble_eq_true rfl)) dX5_record_53 ⟨Nat.zero_le _, Nat.zero_le _⟩) hS (fun H locs hP hD hS => ?_)
        have hP : va_P (dC, dI) vwCl (wS a cB cI cL h1 h2 s1 s2 op nx wt sf lf dn dg un ug qn qt qg tn tk tv ts ef eg ex eF pf pg px pF) H := hP
        have hD : va_D A (wS a cB cI cL h1 h2 s1 s2 op nx wt sf lf dn dg un ug qn qt qg tn tk tv ts ef eg ex eF pf pg px pF) := hD
        exact hret dX5_record_56 (by rw [c21]; rfl) hP hD hS
      · refine x_tabIn (tgt := 57) hx hb dX5_record_21 c21 (by decide) (by decide) (by decide) rfl (by decide) ?_
        refine lv_aload_n hx hb dX5_record_57 rfl (lv_at hl 0 rfl) ?_
        refine va_get (D := (dC, dI)) (ci := 5) (v := .ref (a 9)) (C := RX5) (T := TX5) (N := 11) hx hb hts in_X5 hown hK hP 0 rfl rfl 3 (by decide) f35 (fun _ h9 => h9) rfl dX5_record_58 ?_
        refine lv_iload_n hx hb dX5_record_61 rfl (lv_at hl 1 rfl) ?_
        refine x_calll (va_runVN (As := [.int (nI i)]) (rest := []) ⟨hx, hb, hml, hown, hts⟩ (c_Ta_value (by omega) i (by omega)) ⟨(va_cnB 1 hts (tbG tw_329) rfl rfl rfl n140 ini_X3 (by decide +kernel) ⟨Nat.le_of_ble_eq_true rfl, Nat.le_of_ble_eq_true rfl⟩), im_yX3_value, se_yX3_value⟩ ⟨x_blind, va_recv hK hP (ci := 3) (q0 := 9) rfl rfl, x_pre hK hP hD hN⟩ rfl rfl hl.1 rfl (lv_room (Nat.le_of_ble_eq_true rfl)) dX5_record_62 ⟨Nat.zero_le _, Nat.zero_le _⟩) hS (fun H locs hP hD hS => ?_)
        have hP : va_P (dC, dI) vwCl (wS a cB cI cL h1 h2 s1 s2 op nx wt sf lf dn dg un ug qn qt qg tn tk tv ts ef eg ex eF pf pg px pF) H := hP
        have hD : va_D A (wS a cB cI cL h1 h2 s1 s2 op nx wt sf lf dn dg un ug qn qt qg tn tk tv ts ef eg ex eF pf pg px pF) := hD
        exact hret dX5_record_65 (by rw [c21]; rfl) hP hD hS
      · refine x_tabIn (tgt := 66) hx hb dX5_record_21 c21 (by decide) (by decide) (by decide) rfl (by decide) ?_
        refine lv_aload_n hx hb dX5_record_66 rfl (lv_at hl 0 rfl) ?_
        refine lv_aload_n hx hb dX5_record_67 rfl (lv_at hl 0 rfl) ?_
        refine va_get (D := (dC, dI)) (ci := 5) (v := .ref (a 9)) (C := RX5) (T := TX5) (N := 11) hx hb hts in_X5 hown hK hP 0 rfl rfl 3 (by decide) f35 (fun _ h9 => h9) rfl dX5_record_68 ?_
        refine lv_iload_n hx hb dX5_record_71 rfl (lv_at hl 1 rfl) ?_
        refine x_calli (va_runVN (As := [.int (nI i)]) (rest := [.ref (a 0)]) ⟨hx, hb, hml, hown, hts⟩ (c_Ta_sequence (by omega) i (by omega)) ⟨(va_cnB 1 hts (tbG tw_405) rfl rfl rfl n151 ini_X3 (by decide +kernel) ⟨Nat.le_of_ble_eq_true rfl, Nat.le_of_ble_eq_true rfl⟩), im_yX3_sequence, se_yX3_sequence⟩ ⟨x_blind, va_recv hK hP (ci := 3) (q0 := 9) rfl rfl, x_pre hK hP hD hN⟩ rfl rfl hl.1 rfl (lv_room (Nat.le_of_ble_eq_true rfl)) dX5_record_72 ⟨Nat.zero_le _, Nat.zero_le _⟩) hS (fun H locs hP hD hS => ?_)
        have hP : va_P (dC, dI) vwCl (wS a cB cI cL h1 h2 s1 s2 op nx wt sf lf dn dg un ug qn qt qg tn tk tv ts ef eg ex eF pf pg px pF) H := hP
        have hD : va_D A (wS a cB cI cL h1 h2 s1 s2 op nx wt sf lf dn dg un ug qn qt qg tn tk tv ts ef eg ex eF pf pg px pF) := hD
        refine x_calli (va_runV (As := [.int (nI (ts i))]) (rest := []) ⟨hx, hb, hml, hown, hts⟩ (c_SL_placeOf (by omega) (by omega) (ts i) (by omega)) (cwV 1 hts (tbV tw_537 tw_539 tw_55 tw_84 tw_540) rfl rfl rfl (by decide +kernel) ⟨Nat.le_of_ble_eq_true rfl, Nat.le_of_ble_eq_true rfl⟩) ⟨x_blind, va_recv hK hP (ci := 5) (q0 := 0) rfl rfl, x_pre hK hP hD hN⟩ rfl rfl hl.1 rfl (lv_room (Nat.le_of_ble_eq_true rfl)) dX5_record_75 ⟨Nat.zero_le _, Nat.zero_le _⟩) hS (fun H locs hP hD hS => ?_)
        have hP : va_P (dC, dI) vwCl (wS a cB cI cL h1 h2 s1 s2 op nx wt sf lf dn dg un ug qn qt qg tn tk tv ts ef eg ex eF pf pg px pF) H := hP
        have hD : va_D A (wS a cB cI cL h1 h2 s1 s2 op nx wt sf lf dn dg un ug qn qt qg tn tk tv ts ef eg ex eF pf pg px pF) := hD
        have hv75 : plc nx wt (ts i) < 3 := plc_lt
        refine lv_i2l (v := lN (plc nx wt (ts i))) hx hb dX5_record_78 (nI_l (by omega)) ?_
        exact hret dX5_record_79 (by rw [c21]; rfl) hP hD hS
      · exact absurd c21 (by omega)
    · exact absurd (of_decide_eq_false c15) (by omega)

set_option maxHeartbeats 4000000 in
set_option maxRecDepth 100000 in
theorem c_SL_fileB {l : Launch} {dC : Nat → ClassId} {dI : Nat → Nat → Nat} {A : Nat → Prop} {a : Nat → Nat} {cB cI cL : ClassId} {h1 h2 s1 s2 : Nat} {op : Bool} {nx wt sf lf dn : Nat} {dg : Nat → Nat} {un : Nat} {ug : Nat → Nat} {qn : Nat} {qt qg : Nat → Nat} {tn : Nat} {tk tv : Nat → Int64} {ts : Nat → Nat} {ef eg ex : Nat} {eF : Nat → Nat} {pf pg px : Nat} {pF : Nat → Nat} (x y : Int32) (hz : x < 0 ∨ nI 5 ≤ x ∨ y < 0 ∨ ¬ y < nI 4) : Met l yX5_file (Cond.code yX5_file cX5_file 3 (some .int) :: TB) { frames := 1, cells := 0, slots := 0, locals := 23 } (xPre Nst (dC, dI) A (tyS cB cI cL) (wS a cB cI cL h1 h2 s1 s2 op nx wt sf lf dn dg un ug qn qt qg tn tk tv ts ef eg ex eF pf pg px pF) [.ref (a 0), .int (x), .int (y)]) (xQi (dC, dI) A ((-1)) (wS a cB cI cL h1 h2 s1 s2 op nx wt sf lf dn dg un ug qn qt qg tn tk tv ts ef eg ex eF pf pg px pF)) 0 0 A := by
  refine x_ofWi (cc := cX5_file) (maxL := 3) (by decide) rfl (Nat.le_of_ble_eq_true rfl) ?_
  intro p e s m args below meth c Q hx hb hml hts hown hK hN hP hD hS hret ls hl
  have hl : lv_has ls 3 [(0, .ref (a 0)), (1, .int (x)), (2, .int (y))] := hl
  have hown : s.vm.findClass RX5 = some m.cls := hown
  refine lv_iload_n hx hb dX5_file_0 rfl (lv_at hl 1 rfl) ?_
  refine lv_if_lt (tgt := 18) hx hb dX5_file_1 (by decide) (fun c1 => ?_) (fun c1 => ?_)
  · refine lv_iconst (v := (-1)) hx hb dX5_file_18 (by decide) ?_
    exact hret dX5_file_19 (by rfl) hP hD hS
  · refine lv_iload_n hx hb dX5_file_4 rfl (lv_at hl 1 rfl) ?_
    refine lv_iconst (v := nI 5) hx hb dX5_file_5 (by decide) ?_
    refine lv_icmp_ge (tgt := 18) hx hb dX5_file_6 (by decide) (fun c6 => ?_) (fun c6 => ?_)
    · refine lv_iconst (v := (-1)) hx hb dX5_file_18 (by decide) ?_
      exact hret dX5_file_19 (by rfl) hP hD hS
    · refine lv_iload_n hx hb dX5_file_9 rfl (lv_at hl 2 rfl) ?_
      refine lv_if_lt (tgt := 18) hx hb dX5_file_10 (by decide) (fun c10 => ?_) (fun c10 => ?_)
      · refine lv_iconst (v := (-1)) hx hb dX5_file_18 (by decide) ?_
        exact hret dX5_file_19 (by rfl) hP hD hS
      · refine lv_iload_n hx hb dX5_file_13 rfl (lv_at hl 2 rfl) ?_
        refine lv_iconst (v := nI 4) hx hb dX5_file_14 (by decide) ?_
        refine lv_icmp_lt (tgt := 20) hx hb dX5_file_15 (by decide) (fun c15 => ?_) (fun c15 => ?_)
        · exact absurd hz (by rintro (q | q | q | q); exact c1 q; exact c6 q; exact c10 q; exact q c15)
        · refine lv_iconst (v := (-1)) hx hb dX5_file_18 (by decide) ?_
          exact hret dX5_file_19 (by rfl) hP hD hS

set_option maxHeartbeats 4000000 in
set_option maxRecDepth 100000 in
theorem c_SL_fileC {l : Launch} {dC : Nat → ClassId} {dI : Nat → Nat → Nat} {A : Nat → Prop} {a : Nat → Nat} {cB cI cL : ClassId} {h1 h2 s1 s2 : Nat} {op : Bool} {nx wt sf lf dn : Nat} {dg : Nat → Nat} {un : Nat} {ug : Nat → Nat} {qn : Nat} {qt qg : Nat → Nat} {tn : Nat} {tk tv : Nat → Int64} {ts : Nat → Nat} {ef eg ex : Nat} {eF : Nat → Nat} {pf pg px : Nat} {pF : Nat → Nat} (i w : Nat) (hi1 : i ≤ 4) (hw1 : w ≤ 3) (ho : op = false) : Met l yX5_file (Cond.code yX5_file cX5_file 3 (some .int) :: TB) { frames := 1, cells := 0, slots := 0, locals := 23 } (xPre Nst (dC, dI) A (tyS cB cI cL) (wS a cB cI cL h1 h2 s1 s2 op nx wt sf lf dn dg un ug qn qt qg tn tk tv ts ef eg ex eF pf pg px pF) [.ref (a 0), .int (nI i), .int (nI w)]) (xQi (dC, dI) A ((-4)) (wS a cB cI cL h1 h2 s1 s2 op nx wt sf lf dn dg un ug qn qt qg tn tk tv ts ef eg ex eF pf pg px pF)) 0 0 A := by
  refine x_ofWi (cc := cX5_file) (maxL := 3) (by decide) rfl (Nat.le_of_ble_eq_true rfl) ?_
  intro p e s m args below meth c Q hx hb hml hts hown hK hN hP hD hS hret ls hl
  have hl : lv_has ls 3 [(0, .ref (a 0)), (1, .int (nI i)), (2, .int (nI w))] := hl
  have hown : s.vm.findClass RX5 = some m.cls := hown
  have f49 := hts _ (List.mem_cons_of_mem _ tw_213)
  have in_X5 := (fun q hq => List.mem_cons_of_mem _ (inX5 q hq) : ∀ q ∈ wsX50, q ∈ (Cond.code yX5_file cX5_file 3 (some .int) :: TB))
  refine lv_iload_n hx hb dX5_file_0 rfl (lv_at hl 1 rfl) ?_
  refine x_if_lt (tgt := 18) hx hb dX5_file_1 (by decide) (by omega) ?_
  refine lv_iload_n hx hb dX5_file_4 rfl (lv_at hl 1 rfl) ?_
  refine lv_iconst (v := nI 5) hx hb dX5_file_5 (by decide) ?_
  refine x_icmp_ge (tgt := 18) hx hb dX5_file_6 (by decide) (by omega) (by omega) (fun c6 => ?_) (fun c6 => ?_)
  · exact absurd c6 (by omega)
  · refine lv_iload_n hx hb dX5_file_9 rfl (lv_at hl 2 rfl) ?_
    refine x_if_lt (tgt := 18) hx hb dX5_file_10 (by decide) (by omega) ?_
    refine lv_iload_n hx hb dX5_file_13 rfl (lv_at hl 2 rfl) ?_
    refine lv_iconst (v := nI 4) hx hb dX5_file_14 (by decide) ?_
    refine x_icmp_lt (tgt := 20) hx hb dX5_file_15 (by decide) (by omega) (by omega) (fun c15 => ?_) (fun c15 => ?_)
    · refine lv_aload_n hx hb dX5_file_20 rfl (lv_at hl 0 rfl) ?_
      refine va_get (D := (dC, dI)) (ci := 5) (v := .int (bI op)) (C := RX5) (T := TX5) (N := 11) hx hb hts in_X5 hown hK hP 0 rfl rfl 6 (by decide) f49 (fun _ h9 => h9) rfl dX5_file_21 ?_
      refine x_if_ne_b (tgt := 30) hx hb dX5_file_24 (by decide) (fun c24 => ?_) (fun c24 => ?_)
      · exact absurd (ho.symm.trans c24) (by decide)
      · refine lv_bipush (v := (-4)) hx hb dX5_file_27 (by decide) ?_
        exact hret dX5_file_29 (by rfl) hP hD hS
    · exact absurd c15 (by omega)

set_option maxHeartbeats 4000000 in
set_option maxRecDepth 100000 in
theorem c_SL_fileN {l : Launch} {dC : Nat → ClassId} {dI : Nat → Nat → Nat} {A : Nat → Prop} {a : Nat → Nat} {cB cI cL : ClassId} {h1 h2 s1 s2 : Nat} {op : Bool} {nx wt sf lf dn : Nat} {dg : Nat → Nat} {un : Nat} {ug : Nat → Nat} {qn : Nat} {qt qg : Nat → Nat} {tn : Nat} {tk tv : Nat → Int64} {ts : Nat → Nat} {ef eg ex : Nat} {eF : Nat → Nat} {pf pg px : Nat} {pF : Nat → Nat} (hef : ef ≤ 5) (i w : Nat) (hi1 : i ≤ 4) (hw1 : w ≤ 3) (ho : op = true) (hf1 : ef ≤ i) : Met l yX5_file (Cond.code yX5_file cX5_file 3 (some .int) :: TB) { frames := 1, cells := 0, slots := 0, locals := 23 } (xPre Nst (dC, dI) A (tyS cB cI cL) (wS a cB cI cL h1 h2 s1 s2 op nx wt sf lf dn dg un ug qn qt qg tn tk tv ts ef eg ex eF pf pg px pF) [.ref (a 0), .int (nI i), .int (nI w)]) (xQi (dC, dI) A ((-1)) (wS a cB cI cL h1 h2 s1 s2 op nx wt sf lf dn dg un ug qn qt qg tn tk tv ts ef eg ex eF pf pg px pF)) 0 0 A := by
  refine x_ofWi (cc := cX5_file) (maxL := 3) (by decide) rfl (Nat.le_of_ble_eq_true rfl) ?_
  intro p e s m args below meth c Q hx hb hml hts hown hK hN hP hD hS hret ls hl
  have hl : lv_has ls 3 [(0, .ref (a 0)), (1, .int (nI i)), (2, .int (nI w))] := hl
  have hown : s.vm.findClass RX5 = some m.cls := hown
  have f49 := hts _ (List.mem_cons_of_mem _ tw_213)
  have in_X5 := (fun q hq => List.mem_cons_of_mem _ (inX5 q hq) : ∀ q ∈ wsX50, q ∈ (Cond.code yX5_file cX5_file 3 (some .int) :: TB))
  have f42 := hts _ (List.mem_cons_of_mem _ tw_211)
  have f91 := hN (.fieldLinkNest RX5 91 "SegmentLog$Head" "files" "I" "SegmentLog") (by decide +kernel)
  have in_X1 := (fun q hq => List.mem_cons_of_mem _ (inX1 q hq) : ∀ q ∈ wsX10, q ∈ (Cond.code yX5_file cX5_file 3 (some .int) :: TB))
  refine lv_iload_n hx hb dX5_file_0 rfl (lv_at hl 1 rfl) ?_
  refine x_if_lt (tgt := 18) hx hb dX5_file_1 (by decide) (by omega) ?_
  refine lv_iload_n hx hb dX5_file_4 rfl (lv_at hl 1 rfl) ?_
  refine lv_iconst (v := nI 5) hx hb dX5_file_5 (by decide) ?_
  refine x_icmp_ge (tgt := 18) hx hb dX5_file_6 (by decide) (by omega) (by omega) (fun c6 => ?_) (fun c6 => ?_)
  · exact absurd c6 (by omega)
  · refine lv_iload_n hx hb dX5_file_9 rfl (lv_at hl 2 rfl) ?_
    refine x_if_lt (tgt := 18) hx hb dX5_file_10 (by decide) (by omega) ?_
    refine lv_iload_n hx hb dX5_file_13 rfl (lv_at hl 2 rfl) ?_
    refine lv_iconst (v := nI 4) hx hb dX5_file_14 (by decide) ?_
    refine x_icmp_lt (tgt := 20) hx hb dX5_file_15 (by decide) (by omega) (by omega) (fun c15 => ?_) (fun c15 => ?_)
    · refine lv_aload_n hx hb dX5_file_20 rfl (lv_at hl 0 rfl) ?_
      refine va_get (D := (dC, dI)) (ci := 5) (v := .int (bI op)) (C := RX5) (T := TX5) (N := 11) hx hb hts in_X5 hown hK hP 0 rfl rfl 6 (by decide) f49 (fun _ h9 => h9) rfl dX5_file_21 ?_
      refine x_if_ne_b (tgt := 30) hx hb dX5_file_24 (by decide) (fun c24 => ?_) (fun c24 => ?_)
      · refine lv_iload_n hx hb dX5_file_30 rfl (lv_at hl 1 rfl) ?_
        refine lv_aload_n hx hb dX5_file_31 rfl (lv_at hl 0 rfl) ?_
        refine va_get (D := (dC, dI)) (ci := 5) (v := .ref h1) (C := RX5) (T := TX5) (N := 11) hx hb hts in_X5 hown hK hP 0 rfl rfl 4 (by decide) f42 (fun _ h9 => h9) rfl dX5_file_32 ?_
        refine va_getN (D := (dC, dI)) (ci := 1) (v := .int (nI ef)) (C := RX1) (T := TX1) (N := 4) hx hb hts in_X1 hown hK hP 13 rfl rfl 1 (by decide) (va_Nw.use (A := args) rfl f91) (fun _ h9 => h9) rfl dX5_file_35 ?_
        refine x_icmp_ge (tgt := 53) hx hb dX5_file_38 (by decide) (by omega) (by omega) (fun c38 => ?_) (fun c38 => ?_)
        · refine lv_iconst (v := (-1)) hx hb dX5_file_53 (by decide) ?_
          exact hret dX5_file_54 (by rfl) hP hD hS
        · exact absurd c38 (by omega)
      · exact absurd (ho.symm.trans c24) (by decide)
    · exact absurd c15 (by omega)

set_option maxHeartbeats 4000000 in
set_option maxRecDepth 100000 in
theorem c_SL_fileO {l : Launch} {dC : Nat → ClassId} {dI : Nat → Nat → Nat} {A : Nat → Prop} {a : Nat → Nat} {cB cI cL : ClassId} {h1 h2 s1 s2 : Nat} {op : Bool} {nx wt sf lf dn : Nat} {dg : Nat → Nat} {un : Nat} {ug : Nat → Nat} {qn : Nat} {qt qg : Nat → Nat} {tn : Nat} {tk tv : Nat → Int64} {ts : Nat → Nat} {ef eg ex : Nat} {eF : Nat → Nat} {pf pg px : Nat} {pF : Nat → Nat} (heF : ∀ j, eF j < 1048576) (hef : ef ≤ 5) (i w : Nat) (hi1 : i ≤ 4) (hw1 : w ≤ 3) (ho : op = true) (hf1 : i < ef) : Met l yX5_file (Cond.code yX5_file cX5_file 3 (some .int) :: TB) { frames := 1, cells := 0, slots := 0, locals := 23 } (xPre Nst (dC, dI) A (tyS cB cI cL) (wS a cB cI cL h1 h2 s1 s2 op nx wt sf lf dn dg un ug qn qt qg tn tk tv ts ef eg ex eF pf pg px pF) [.ref (a 0), .int (nI i), .int (nI w)]) (xQi (dC, dI) A (nI (hfl ef eF i w)) (wS a cB cI cL h1 h2 s1 s2 op nx wt sf lf dn dg un ug qn qt qg tn tk tv ts ef eg ex eF pf pg px pF)) 0 0 A := by
  refine x_ofWi (cc := cX5_file) (maxL := 3) (by decide) rfl (Nat.le_of_ble_eq_true rfl) ?_
  intro p e s m args below meth c Q hx hb hml hts hown hK hN hP hD hS hret ls hl
  have hl : lv_has ls 3 [(0, .ref (a 0)), (1, .int (nI i)), (2, .int (nI w))] := hl
  have hown : s.vm.findClass RX5 = some m.cls := hown
  have f49 := hts _ (List.mem_cons_of_mem _ tw_213)
  have in_X5 := (fun q hq => List.mem_cons_of_mem _ (inX5 q hq) : ∀ q ∈ wsX50, q ∈ (Cond.code yX5_file cX5_file 3 (some .int) :: TB))
  have f42 := hts _ (List.mem_cons_of_mem _ tw_211)
  have f91 := hN (.fieldLinkNest RX5 91 "SegmentLog$Head" "files" "I" "SegmentLog") (by decide +kernel)
  have in_X1 := (fun q hq => List.mem_cons_of_mem _ (inX1 q hq) : ∀ q ∈ wsX10, q ∈ (Cond.code yX5_file cX5_file 3 (some .int) :: TB))
  have n157 := hN (.methodLinkNest RX5 157 yX1_field "SegmentLog") (by decide +kernel)
  have ini_X1 := hts _ (List.mem_cons_of_mem _ tw_90)
  have im_yX1_field := hts _ (List.mem_cons_of_mem _ tw_386)
  have se_yX1_field := hts _ (List.mem_cons_of_mem _ tw_30)
  refine lv_iload_n hx hb dX5_file_0 rfl (lv_at hl 1 rfl) ?_
  refine x_if_lt (tgt := 18) hx hb dX5_file_1 (by decide) (by omega) ?_
  refine lv_iload_n hx hb dX5_file_4 rfl (lv_at hl 1 rfl) ?_
  refine lv_iconst (v := nI 5) hx hb dX5_file_5 (by decide) ?_
  refine x_icmp_ge (tgt := 18) hx hb dX5_file_6 (by decide) (by omega) (by omega) (fun c6 => ?_) (fun c6 => ?_)
  · exact absurd c6 (by omega)
  · refine lv_iload_n hx hb dX5_file_9 rfl (lv_at hl 2 rfl) ?_
    refine x_if_lt (tgt := 18) hx hb dX5_file_10 (by decide) (by omega) ?_
    refine lv_iload_n hx hb dX5_file_13 rfl (lv_at hl 2 rfl) ?_
    refine lv_iconst (v := nI 4) hx hb dX5_file_14 (by decide) ?_
    refine x_icmp_lt (tgt := 20) hx hb dX5_file_15 (by decide) (by omega) (by omega) (fun c15 => ?_) (fun c15 => ?_)
    · refine lv_aload_n hx hb dX5_file_20 rfl (lv_at hl 0 rfl) ?_
      refine va_get (D := (dC, dI)) (ci := 5) (v := .int (bI op)) (C := RX5) (T := TX5) (N := 11) hx hb hts in_X5 hown hK hP 0 rfl rfl 6 (by decide) f49 (fun _ h9 => h9) rfl dX5_file_21 ?_
      refine x_if_ne_b (tgt := 30) hx hb dX5_file_24 (by decide) (fun c24 => ?_) (fun c24 => ?_)
      · refine lv_iload_n hx hb dX5_file_30 rfl (lv_at hl 1 rfl) ?_
        refine lv_aload_n hx hb dX5_file_31 rfl (lv_at hl 0 rfl) ?_
        refine va_get (D := (dC, dI)) (ci := 5) (v := .ref h1) (C := RX5) (T := TX5) (N := 11) hx hb hts in_X5 hown hK hP 0 rfl rfl 4 (by decide) f42 (fun _ h9 => h9) rfl dX5_file_32 ?_
        refine va_getN (D := (dC, dI)) (ci := 1) (v := .int (nI ef)) (C := RX1) (T := TX1) (N := 4) hx hb hts in_X1 hown hK hP 13 rfl rfl 1 (by decide) (va_Nw.use (A := args) rfl f91) (fun _ h9 => h9) rfl dX5_file_35 ?_
        refine x_icmp_ge (tgt := 53) hx hb dX5_file_38 (by decide) (by omega) (by omega) (fun c38 => ?_) (fun c38 => ?_)
        · exact absurd c38 (by omega)
        · refine lv_aload_n hx hb dX5_file_41 rfl (lv_at hl 0 rfl) ?_
          refine va_get (D := (dC, dI)) (ci := 5) (v := .ref h1) (C := RX5) (T := TX5) (N := 11) hx hb hts in_X5 hown hK hP 0 rfl rfl 4 (by decide) f42 (fun _ h9 => h9) rfl dX5_file_42 ?_
          refine lv_iload_n hx hb dX5_file_45 rfl (lv_at hl 1 rfl) ?_
          refine lv_iload_n hx hb dX5_file_46 rfl (lv_at hl 2 rfl) ?_
          refine x_calli (va_runVN (As := [.int (nI i), .int (nI w)]) (rest := []) ⟨hx, hb, hml, hown, hts⟩ (c_He_field (show okH (fun ef' eg' ex' eF' => wS a cB cI cL h1 h2 s1 s2 op nx wt sf lf dn dg un ug qn qt qg tn tk tv ts ef' eg' ex' eF' pf pg px pF) 13 14 h1 h2 cI from ⟨fun _ _ _ _ => rfl, fun _ _ _ _ => rfl, fun _ _ _ _ _ _ _ => rfl, fun _ _ _ _ _ => rfl⟩) (tyS_I cB cI cL) ef eg ex eF i w (by omega) (by omega) (by omega)) ⟨(va_cnB 2 hts (tbG tw_387) rfl rfl rfl n157 ini_X1 (by decide +kernel) ⟨Nat.le_of_ble_eq_true rfl, Nat.le_of_ble_eq_true rfl⟩), im_yX1_field, se_yX1_field⟩ ⟨x_blind, va_recv hK hP (ci := 1) (q0 := 13) rfl rfl, x_pre hK hP hD hN⟩ rfl rfl hl.1 rfl (lv_room (Nat.le_of_ble_eq_true rfl)) dX5_file_47 ⟨Nat.zero_le _, Nat.zero_le _⟩) hS (fun H locs hP hD hS => ?_)
          have hP : va_P (dC, dI) vwCl (wS a cB cI cL h1 h2 s1 s2 op nx wt sf lf dn dg un ug qn qt qg tn tk tv ts ef eg ex eF pf pg px pF) H := hP
          have hD : va_D A (wS a cB cI cL h1 h2 s1 s2 op nx wt sf lf dn dg un ug qn qt qg tn tk tv ts ef eg ex eF pf pg px pF) := hD
          have hv47 : hfl ef eF i w < 1048576 := hfl_lt heF
          refine lv_goto (tgt := 54) hx hb dX5_file_50 (by decide) ?_
          exact hret dX5_file_54 (by rfl) hP hD hS
      · exact absurd (ho.symm.trans c24) (by decide)
    · exact absurd c15 (by omega)

set_option maxHeartbeats 4000000 in
set_option maxRecDepth 100000 in
theorem c_SL_useB {l : Launch} {dC : Nat → ClassId} {dI : Nat → Nat → Nat} {A : Nat → Prop} {a : Nat → Nat} {cB cI cL : ClassId} {h1 h2 s1 s2 : Nat} {op : Bool} {nx wt sf lf dn : Nat} {dg : Nat → Nat} {un : Nat} {ug : Nat → Nat} {qn : Nat} {qt qg : Nat → Nat} {tn : Nat} {tk tv : Nat → Int64} {ts : Nat → Nat} {ef eg ex : Nat} {eF : Nat → Nat} {pf pg px : Nat} {pF : Nat → Nat} (hdn : dn ≤ 64) (hdg : ∀ j, dg j < 256) (x : Int32) (hz : xhas dn x (nI 0) = false) : Met l yX5_use (Cond.code yX5_use cX5_use 2 (some .int) :: TB) { frames := 1, cells := 0, slots := 0, locals := 22 } (xPre Nst (dC, dI) A (tyS cB cI cL) (wS a cB cI cL h1 h2 s1 s2 op nx wt sf lf dn dg un ug qn qt qg tn tk tv ts ef eg ex eF pf pg px pF) [.ref (a 0), .int (x)]) (xQi (dC, dI) A ((-1)) (wS a cB cI cL h1 h2 s1 s2 op nx wt sf lf dn dg un ug qn qt qg tn tk tv ts ef eg ex eF pf pg px pF)) 0 0 A := by
  refine x_ofWi (cc := cX5_use) (maxL := 2) (by decide) rfl (Nat.le_of_ble_eq_true rfl) ?_
  intro p e s m args below meth c Q hx hb hml hts hown hK hN hP hD hS hret ls hl
  have hl : lv_has ls 2 [(0, .ref (a 0)), (1, .int (x))] := hl
  have hown : s.vm.findClass RX5 = some m.cls := hown
  have f14 := hts _ (List.mem_cons_of_mem _ tw_207)
  have in_X5 := (fun q hq => List.mem_cons_of_mem _ (inX5 q hq) : ∀ q ∈ wsX50, q ∈ (Cond.code yX5_use cX5_use 2 (some .int) :: TB))
  have n161 := hN (.methodLinkNest RX5 161 yX0_has "SegmentLog") (by decide +kernel)
  have ini_X0 := hts _ (List.mem_cons_of_mem _ tw_85)
  have im_yX0_has := hts _ (List.mem_cons_of_mem _ tw_259)
  have se_yX0_has := hts _ (List.mem_cons_of_mem _ tw_6)
  refine lv_aload_n hx hb dX5_use_0 rfl (lv_at hl 0 rfl) ?_
  refine va_get (D := (dC, dI)) (ci := 5) (v := .ref (a 1)) (C := RX5) (T := TX5) (N := 11) hx hb hts in_X5 hown hK hP 0 rfl rfl 0 (by decide) f14 (fun _ h9 => h9) rfl dX5_use_1 ?_
  refine lv_iload_n hx hb dX5_use_4 rfl (lv_at hl 1 rfl) ?_
  refine lv_iconst (v := nI 0) hx hb dX5_use_5 (by decide) ?_
  refine x_calli (va_runVN (As := [.int (x), .int (nI 0)]) (rest := []) ⟨hx, hb, hml, hown, hts⟩ (c_Bl_has (show okB (fun dg' => wS a cB cI cL h1 h2 s1 s2 op nx wt sf lf dn dg' un ug qn qt qg tn tk tv ts ef eg ex eF pf pg px pF) 1 2 (a 1) (a 2) cB dn from ⟨fun _ => rfl, fun _ => rfl, fun _ _ => rfl⟩) (tyS_B cB cI cL) (by omega) dg x (nI 0)) ⟨(va_cnB 2 hts (tbG tw_260) rfl rfl rfl n161 ini_X0 (by decide +kernel) ⟨Nat.le_of_ble_eq_true rfl, Nat.le_of_ble_eq_true rfl⟩), im_yX0_has, se_yX0_has⟩ ⟨x_blind, va_recv hK hP (ci := 0) (q0 := 1) rfl rfl, x_pre hK hP hD hN⟩ rfl rfl hl.1 rfl (lv_room (Nat.le_of_ble_eq_true rfl)) dX5_use_6 ⟨Nat.zero_le _, Nat.zero_le _⟩) hS (fun H locs hP hD hS => ?_)
  have hP : va_P (dC, dI) vwCl (wS a cB cI cL h1 h2 s1 s2 op nx wt sf lf dn dg un ug qn qt qg tn tk tv ts ef eg ex eF pf pg px pF) H := hP
  have hD : va_D A (wS a cB cI cL h1 h2 s1 s2 op nx wt sf lf dn dg un ug qn qt qg tn tk tv ts ef eg ex eF pf pg px pF) := hD
  refine x_if_ne_b (tgt := 14) hx hb dX5_use_9 (by decide) (fun c9 => ?_) (fun c9 => ?_)
  · exact absurd (hz.symm.trans c9) (by decide)
  · refine lv_iconst (v := (-1)) hx hb dX5_use_12 (by decide) ?_
    exact hret dX5_use_13 (by rfl) hP hD hS

set_option maxHeartbeats 4000000 in
set_option maxRecDepth 100000 in
theorem c_SL_useC {l : Launch} {dC : Nat → ClassId} {dI : Nat → Nat → Nat} {A : Nat → Prop} {a : Nat → Nat} {cB cI cL : ClassId} {h1 h2 s1 s2 : Nat} {op : Bool} {nx wt sf lf dn : Nat} {dg : Nat → Nat} {un : Nat} {ug : Nat → Nat} {qn : Nat} {qt qg : Nat → Nat} {tn : Nat} {tk tv : Nat → Int64} {ts : Nat → Nat} {ef eg ex : Nat} {eF : Nat → Nat} {pf pg px : Nat} {pF : Nat → Nat} (hdn : dn ≤ 64) (hdg : ∀ j, dg j < 256) (x : Nat) (hx1 : x < dn) (ho : op = false) : Met l yX5_use (Cond.code yX5_use cX5_use 2 (some .int) :: TB) { frames := 1, cells := 0, slots := 0, locals := 22 } (xPre Nst (dC, dI) A (tyS cB cI cL) (wS a cB cI cL h1 h2 s1 s2 op nx wt sf lf dn dg un ug qn qt qg tn tk tv ts ef eg ex eF pf pg px pF) [.ref (a 0), .int (nI x)]) (xQi (dC, dI) A ((-4)) (wS a cB cI cL h1 h2 s1 s2 op nx wt sf lf dn dg un ug qn qt qg tn tk tv ts ef eg ex eF pf pg px pF)) 0 0 A := by
  refine x_ofWi (cc := cX5_use) (maxL := 2) (by decide) rfl (Nat.le_of_ble_eq_true rfl) ?_
  intro p e s m args below meth c Q hx hb hml hts hown hK hN hP hD hS hret ls hl
  have hl : lv_has ls 2 [(0, .ref (a 0)), (1, .int (nI x))] := hl
  have hown : s.vm.findClass RX5 = some m.cls := hown
  have f14 := hts _ (List.mem_cons_of_mem _ tw_207)
  have in_X5 := (fun q hq => List.mem_cons_of_mem _ (inX5 q hq) : ∀ q ∈ wsX50, q ∈ (Cond.code yX5_use cX5_use 2 (some .int) :: TB))
  have n161 := hN (.methodLinkNest RX5 161 yX0_has "SegmentLog") (by decide +kernel)
  have ini_X0 := hts _ (List.mem_cons_of_mem _ tw_85)
  have im_yX0_has := hts _ (List.mem_cons_of_mem _ tw_259)
  have se_yX0_has := hts _ (List.mem_cons_of_mem _ tw_6)
  have f49 := hts _ (List.mem_cons_of_mem _ tw_213)
  refine lv_aload_n hx hb dX5_use_0 rfl (lv_at hl 0 rfl) ?_
  refine va_get (D := (dC, dI)) (ci := 5) (v := .ref (a 1)) (C := RX5) (T := TX5) (N := 11) hx hb hts in_X5 hown hK hP 0 rfl rfl 0 (by decide) f14 (fun _ h9 => h9) rfl dX5_use_1 ?_
  refine lv_iload_n hx hb dX5_use_4 rfl (lv_at hl 1 rfl) ?_
  refine lv_iconst (v := nI 0) hx hb dX5_use_5 (by decide) ?_
  refine x_calli (va_runVN (As := [.int (nI x), .int (nI 0)]) (rest := []) ⟨hx, hb, hml, hown, hts⟩ (c_Bl_hasN (show okB (fun dg' => wS a cB cI cL h1 h2 s1 s2 op nx wt sf lf dn dg' un ug qn qt qg tn tk tv ts ef eg ex eF pf pg px pF) 1 2 (a 1) (a 2) cB dn from ⟨fun _ => rfl, fun _ => rfl, fun _ _ => rfl⟩) (tyS_B cB cI cL) (by omega) dg x 0 (by omega) (by omega)) ⟨(va_cnB 2 hts (tbG tw_260) rfl rfl rfl n161 ini_X0 (by decide +kernel) ⟨Nat.le_of_ble_eq_true rfl, Nat.le_of_ble_eq_true rfl⟩), im_yX0_has, se_yX0_has⟩ ⟨x_blind, va_recv hK hP (ci := 0) (q0 := 1) rfl rfl, x_pre hK hP hD hN⟩ rfl rfl hl.1 rfl (lv_room (Nat.le_of_ble_eq_true rfl)) dX5_use_6 ⟨Nat.zero_le _, Nat.zero_le _⟩) hS (fun H locs hP hD hS => ?_)
  have hP : va_P (dC, dI) vwCl (wS a cB cI cL h1 h2 s1 s2 op nx wt sf lf dn dg un ug qn qt qg tn tk tv ts ef eg ex eF pf pg px pF) H := hP
  have hD : va_D A (wS a cB cI cL h1 h2 s1 s2 op nx wt sf lf dn dg un ug qn qt qg tn tk tv ts ef eg ex eF pf pg px pF) := hD
  refine x_if_ne_b (tgt := 14) hx hb dX5_use_9 (by decide) (fun c9 => ?_) (fun c9 => ?_)
  · refine lv_aload_n hx hb dX5_use_14 rfl (lv_at hl 0 rfl) ?_
    refine va_get (D := (dC, dI)) (ci := 5) (v := .int (bI op)) (C := RX5) (T := TX5) (N := 11) hx hb hts in_X5 hown hK hP 0 rfl rfl 6 (by decide) f49 (fun _ h9 => h9) rfl dX5_use_15 ?_
    refine x_if_eq_b (tgt := 32) hx hb dX5_use_18 (by decide) (fun c18 => ?_) (fun c18 => ?_)
    · refine lv_bipush (v := (-4)) hx hb dX5_use_32 (by decide) ?_
      exact hret dX5_use_34 (by rfl) hP hD hS
    · exact absurd (ho.symm.trans c18) (by decide)
  · exact absurd (of_decide_eq_false c9) (by omega)

set_option maxHeartbeats 4000000 in
set_option maxRecDepth 100000 in
theorem c_SL_useO {l : Launch} {dC : Nat → ClassId} {dI : Nat → Nat → Nat} {A : Nat → Prop} {a : Nat → Nat} {cB cI cL : ClassId} {h1 h2 s1 s2 : Nat} {op : Bool} {nx wt sf lf dn : Nat} {dg : Nat → Nat} {un : Nat} {ug : Nat → Nat} {qn : Nat} {qt qg : Nat → Nat} {tn : Nat} {tk tv : Nat → Int64} {ts : Nat → Nat} {ef eg ex : Nat} {eF : Nat → Nat} {pf pg px : Nat} {pF : Nat → Nat} (hdn : dn ≤ 64) (hun : un ≤ 64) (hdg : ∀ j, dg j < 256) (hug : ∀ j, ug j < 8) (x : Nat) (hx1 : x < dn) (ho : op = true) : Met l yX5_use (Cond.code yX5_use cX5_use 2 (some .int) :: TB) { frames := 1, cells := 0, slots := 0, locals := 22 } (xPre Nst (dC, dI) A (tyS cB cI cL) (wS a cB cI cL h1 h2 s1 s2 op nx wt sf lf dn dg un ug qn qt qg tn tk tv ts ef eg ex eF pf pg px pF) [.ref (a 0), .int (nI x)]) (xQi (dC, dI) A (nI (uof un ug x)) (wS a cB cI cL h1 h2 s1 s2 op nx wt sf lf dn dg un ug qn qt qg tn tk tv ts ef eg ex eF pf pg px pF)) 0 0 A := by
  refine x_ofWi (cc := cX5_use) (maxL := 2) (by decide) rfl (Nat.le_of_ble_eq_true rfl) ?_
  intro p e s m args below meth c Q hx hb hml hts hown hK hN hP hD hS hret ls hl
  have hl : lv_has ls 2 [(0, .ref (a 0)), (1, .int (nI x))] := hl
  have hown : s.vm.findClass RX5 = some m.cls := hown
  have f14 := hts _ (List.mem_cons_of_mem _ tw_207)
  have in_X5 := (fun q hq => List.mem_cons_of_mem _ (inX5 q hq) : ∀ q ∈ wsX50, q ∈ (Cond.code yX5_use cX5_use 2 (some .int) :: TB))
  have n161 := hN (.methodLinkNest RX5 161 yX0_has "SegmentLog") (by decide +kernel)
  have ini_X0 := hts _ (List.mem_cons_of_mem _ tw_85)
  have im_yX0_has := hts _ (List.mem_cons_of_mem _ tw_259)
  have se_yX0_has := hts _ (List.mem_cons_of_mem _ tw_6)
  have f49 := hts _ (List.mem_cons_of_mem _ tw_213)
  have f21 := hts _ (List.mem_cons_of_mem _ tw_208)
  have n164 := hN (.methodLinkNest RX5 164 yX4_of "SegmentLog") (by decide +kernel)
  have ini_X4 := hts _ (List.mem_cons_of_mem _ tw_86)
  have im_yX4_of := hts _ (List.mem_cons_of_mem _ tw_500)
  have se_yX4_of := hts _ (List.mem_cons_of_mem _ tw_50)
  refine lv_aload_n hx hb dX5_use_0 rfl (lv_at hl 0 rfl) ?_
  refine va_get (D := (dC, dI)) (ci := 5) (v := .ref (a 1)) (C := RX5) (T := TX5) (N := 11) hx hb hts in_X5 hown hK hP 0 rfl rfl 0 (by decide) f14 (fun _ h9 => h9) rfl dX5_use_1 ?_
  refine lv_iload_n hx hb dX5_use_4 rfl (lv_at hl 1 rfl) ?_
  refine lv_iconst (v := nI 0) hx hb dX5_use_5 (by decide) ?_
  refine x_calli (va_runVN (As := [.int (nI x), .int (nI 0)]) (rest := []) ⟨hx, hb, hml, hown, hts⟩ (c_Bl_hasN (show okB (fun dg' => wS a cB cI cL h1 h2 s1 s2 op nx wt sf lf dn dg' un ug qn qt qg tn tk tv ts ef eg ex eF pf pg px pF) 1 2 (a 1) (a 2) cB dn from ⟨fun _ => rfl, fun _ => rfl, fun _ _ => rfl⟩) (tyS_B cB cI cL) (by omega) dg x 0 (by omega) (by omega)) ⟨(va_cnB 2 hts (tbG tw_260) rfl rfl rfl n161 ini_X0 (by decide +kernel) ⟨Nat.le_of_ble_eq_true rfl, Nat.le_of_ble_eq_true rfl⟩), im_yX0_has, se_yX0_has⟩ ⟨x_blind, va_recv hK hP (ci := 0) (q0 := 1) rfl rfl, x_pre hK hP hD hN⟩ rfl rfl hl.1 rfl (lv_room (Nat.le_of_ble_eq_true rfl)) dX5_use_6 ⟨Nat.zero_le _, Nat.zero_le _⟩) hS (fun H locs hP hD hS => ?_)
  have hP : va_P (dC, dI) vwCl (wS a cB cI cL h1 h2 s1 s2 op nx wt sf lf dn dg un ug qn qt qg tn tk tv ts ef eg ex eF pf pg px pF) H := hP
  have hD : va_D A (wS a cB cI cL h1 h2 s1 s2 op nx wt sf lf dn dg un ug qn qt qg tn tk tv ts ef eg ex eF pf pg px pF) := hD
  refine x_if_ne_b (tgt := 14) hx hb dX5_use_9 (by decide) (fun c9 => ?_) (fun c9 => ?_)
  · refine lv_aload_n hx hb dX5_use_14 rfl (lv_at hl 0 rfl) ?_
    refine va_get (D := (dC, dI)) (ci := 5) (v := .int (bI op)) (C := RX5) (T := TX5) (N := 11) hx hb hts in_X5 hown hK hP 0 rfl rfl 6 (by decide) f49 (fun _ h9 => h9) rfl dX5_use_15 ?_
    refine x_if_eq_b (tgt := 32) hx hb dX5_use_18 (by decide) (fun c18 => ?_) (fun c18 => ?_)
    · exact absurd (ho.symm.trans c18) (by decide)
    · refine lv_aload_n hx hb dX5_use_21 rfl (lv_at hl 0 rfl) ?_
      refine va_get (D := (dC, dI)) (ci := 5) (v := .ref (a 3)) (C := RX5) (T := TX5) (N := 11) hx hb hts in_X5 hown hK hP 0 rfl rfl 1 (by decide) f21 (fun _ h9 => h9) rfl dX5_use_22 ?_
      refine lv_iload_n hx hb dX5_use_25 rfl (lv_at hl 1 rfl) ?_
      refine x_calli (va_runVN (As := [.int (nI x)]) (rest := []) ⟨hx, hb, hml, hown, hts⟩ (c_Us_of (show okU (fun ug' => wS a cB cI cL h1 h2 s1 s2 op nx wt sf lf dn dg un ug' qn qt qg tn tk tv ts ef eg ex eF pf pg px pF) 3 4 (a 3) (a 4) cI un from ⟨fun _ => rfl, fun _ => rfl, fun _ _ => rfl⟩) (tyS_I cB cI cL) (by omega) ug hug x (by omega)) ⟨(va_cnB 1 hts (tbG tw_501) rfl rfl rfl n164 ini_X4 (by decide +kernel) ⟨Nat.le_of_ble_eq_true rfl, Nat.le_of_ble_eq_true rfl⟩), im_yX4_of, se_yX4_of⟩ ⟨x_blind, va_recv hK hP (ci := 4) (q0 := 3) rfl rfl, x_pre hK hP hD hN⟩ rfl rfl hl.1 rfl (lv_room (Nat.le_of_ble_eq_true rfl)) dX5_use_26 ⟨Nat.zero_le _, Nat.zero_le _⟩) hS (fun H locs hP hD hS => ?_)
      have hP : va_P (dC, dI) vwCl (wS a cB cI cL h1 h2 s1 s2 op nx wt sf lf dn dg un ug qn qt qg tn tk tv ts ef eg ex eF pf pg px pF) H := hP
      have hD : va_D A (wS a cB cI cL h1 h2 s1 s2 op nx wt sf lf dn dg un ug qn qt qg tn tk tv ts ef eg ex eF pf pg px pF) := hD
      have hv26 : uof un ug x < 8 := uof_lt hug
      refine lv_goto (tgt := 34) hx hb dX5_use_29 (by decide) ?_
      exact hret dX5_use_34 (by rfl) hP hD hS
  · exact absurd (of_decide_eq_false c9) (by omega)

set_option maxHeartbeats 4000000 in
set_option maxRecDepth 100000 in
theorem c_SL_octetB {l : Launch} {dC : Nat → ClassId} {dI : Nat → Nat → Nat} {A : Nat → Prop} {a : Nat → Nat} {cB cI cL : ClassId} {h1 h2 s1 s2 : Nat} {op : Bool} {nx wt sf lf dn : Nat} {dg : Nat → Nat} {un : Nat} {ug : Nat → Nat} {qn : Nat} {qt qg : Nat → Nat} {tn : Nat} {tk tv : Nat → Int64} {ts : Nat → Nat} {ef eg ex : Nat} {eF : Nat → Nat} {pf pg px : Nat} {pF : Nat → Nat} (hdn : dn ≤ 64) (hdg : ∀ j, dg j < 256) (x y : Int32) (hz : xhas dn x y = false) : Met l yX5_octet (Cond.code yX5_octet cX5_octet 3 (some .int) :: TB) { frames := 2, cells := 0, slots := 0, locals := 44 } (xPre Nst (dC, dI) A (tyS cB cI cL) (wS a cB cI cL h1 h2 s1 s2 op nx wt sf lf dn dg un ug qn qt qg tn tk tv ts ef eg ex eF pf pg px pF) [.ref (a 0), .int (x), .int (y)]) (xQi (dC, dI) A ((-1)) (wS a cB cI cL h1 h2 s1 s2 op nx wt sf lf dn dg un ug qn qt qg tn tk tv ts ef eg ex eF pf pg px pF)) 0 0 A := by
  refine x_ofWi (cc := cX5_octet) (maxL := 3) (by decide) rfl (Nat.le_of_ble_eq_true rfl) ?_
  intro p e s m args below meth c Q hx hb hml hts hown hK hN hP hD hS hret ls hl
  have hl : lv_has ls 3 [(0, .ref (a 0)), (1, .int (x)), (2, .int (y))] := hl
  have hown : s.vm.findClass RX5 = some m.cls := hown
  have f14 := hts _ (List.mem_cons_of_mem _ tw_207)
  have in_X5 := (fun q hq => List.mem_cons_of_mem _ (inX5 q hq) : ∀ q ∈ wsX50, q ∈ (Cond.code yX5_octet cX5_octet 3 (some .int) :: TB))
  have n161 := hN (.methodLinkNest RX5 161 yX0_has "SegmentLog") (by decide +kernel)
  have ini_X0 := hts _ (List.mem_cons_of_mem _ tw_85)
  have im_yX0_has := hts _ (List.mem_cons_of_mem _ tw_259)
  have se_yX0_has := hts _ (List.mem_cons_of_mem _ tw_6)
  refine lv_aload_n hx hb dX5_octet_0 rfl (lv_at hl 0 rfl) ?_
  refine va_get (D := (dC, dI)) (ci := 5) (v := .ref (a 1)) (C := RX5) (T := TX5) (N := 11) hx hb hts in_X5 hown hK hP 0 rfl rfl 0 (by decide) f14 (fun _ h9 => h9) rfl dX5_octet_1 ?_
  refine lv_iload_n hx hb dX5_octet_4 rfl (lv_at hl 1 rfl) ?_
  refine lv_iload_n hx hb dX5_octet_5 rfl (lv_at hl 2 rfl) ?_
  refine x_calli (va_runVN (As := [.int (x), .int (y)]) (rest := []) ⟨hx, hb, hml, hown, hts⟩ (c_Bl_has (show okB (fun dg' => wS a cB cI cL h1 h2 s1 s2 op nx wt sf lf dn dg' un ug qn qt qg tn tk tv ts ef eg ex eF pf pg px pF) 1 2 (a 1) (a 2) cB dn from ⟨fun _ => rfl, fun _ => rfl, fun _ _ => rfl⟩) (tyS_B cB cI cL) (by omega) dg x y) ⟨(va_cnB 2 hts (tbG tw_260) rfl rfl rfl n161 ini_X0 (by decide +kernel) ⟨Nat.le_of_ble_eq_true rfl, Nat.le_of_ble_eq_true rfl⟩), im_yX0_has, se_yX0_has⟩ ⟨x_blind, va_recv hK hP (ci := 0) (q0 := 1) rfl rfl, x_pre hK hP hD hN⟩ rfl rfl hl.1 rfl (lv_room (Nat.le_of_ble_eq_true rfl)) dX5_octet_6 ⟨Nat.zero_le _, Nat.zero_le _⟩) hS (fun H locs hP hD hS => ?_)
  have hP : va_P (dC, dI) vwCl (wS a cB cI cL h1 h2 s1 s2 op nx wt sf lf dn dg un ug qn qt qg tn tk tv ts ef eg ex eF pf pg px pF) H := hP
  have hD : va_D A (wS a cB cI cL h1 h2 s1 s2 op nx wt sf lf dn dg un ug qn qt qg tn tk tv ts ef eg ex eF pf pg px pF) := hD
  refine x_if_eq_b (tgt := 24) hx hb dX5_octet_9 (by decide) (fun c9 => ?_) (fun c9 => ?_)
  · refine lv_iconst (v := (-1)) hx hb dX5_octet_24 (by decide) ?_
    exact hret dX5_octet_25 (by rfl) hP hD hS
  · exact absurd (hz.symm.trans c9) (by decide)

set_option maxHeartbeats 4000000 in
set_option maxRecDepth 100000 in
theorem c_SL_octetG {l : Launch} {dC : Nat → ClassId} {dI : Nat → Nat → Nat} {A : Nat → Prop} {a : Nat → Nat} {cB cI cL : ClassId} {h1 h2 s1 s2 : Nat} {op : Bool} {nx wt sf lf dn : Nat} {dg : Nat → Nat} {un : Nat} {ug : Nat → Nat} {qn : Nat} {qt qg : Nat → Nat} {tn : Nat} {tk tv : Nat → Int64} {ts : Nat → Nat} {ef eg ex : Nat} {eF : Nat → Nat} {pf pg px : Nat} {pF : Nat → Nat} (hdn : dn ≤ 64) (hdg : ∀ j, dg j < 256) (x i : Nat) (hx1 : x < dn) (hi1 : i < 64) : Met l yX5_octet (Cond.code yX5_octet cX5_octet 3 (some .int) :: TB) { frames := 2, cells := 0, slots := 0, locals := 44 } (xPre Nst (dC, dI) A (tyS cB cI cL) (wS a cB cI cL h1 h2 s1 s2 op nx wt sf lf dn dg un ug qn qt qg tn tk tv ts ef eg ex eF pf pg px pF) [.ref (a 0), .int (nI x), .int (nI i)]) (xQi (dC, dI) A (nI (bv dn dg x i)) (wS a cB cI cL h1 h2 s1 s2 op nx wt sf lf dn dg un ug qn qt qg tn tk tv ts ef eg ex eF pf pg px pF)) 0 0 A := by
  refine x_ofWi (cc := cX5_octet) (maxL := 3) (by decide) rfl (Nat.le_of_ble_eq_true rfl) ?_
  intro p e s m args below meth c Q hx hb hml hts hown hK hN hP hD hS hret ls hl
  have hl : lv_has ls 3 [(0, .ref (a 0)), (1, .int (nI x)), (2, .int (nI i))] := hl
  have hown : s.vm.findClass RX5 = some m.cls := hown
  have f14 := hts _ (List.mem_cons_of_mem _ tw_207)
  have in_X5 := (fun q hq => List.mem_cons_of_mem _ (inX5 q hq) : ∀ q ∈ wsX50, q ∈ (Cond.code yX5_octet cX5_octet 3 (some .int) :: TB))
  have n161 := hN (.methodLinkNest RX5 161 yX0_has "SegmentLog") (by decide +kernel)
  have ini_X0 := hts _ (List.mem_cons_of_mem _ tw_85)
  have im_yX0_has := hts _ (List.mem_cons_of_mem _ tw_259)
  have se_yX0_has := hts _ (List.mem_cons_of_mem _ tw_6)
  have n167 := hN (.methodLinkNest RX5 167 yX0_value "SegmentLog") (by decide +kernel)
  have im_yX0_value := hts _ (List.mem_cons_of_mem _ tw_344)
  have se_yX0_value := hts _ (List.mem_cons_of_mem _ tw_25)
  refine lv_aload_n hx hb dX5_octet_0 rfl (lv_at hl 0 rfl) ?_
  refine va_get (D := (dC, dI)) (ci := 5) (v := .ref (a 1)) (C := RX5) (T := TX5) (N := 11) hx hb hts in_X5 hown hK hP 0 rfl rfl 0 (by decide) f14 (fun _ h9 => h9) rfl dX5_octet_1 ?_
  refine lv_iload_n hx hb dX5_octet_4 rfl (lv_at hl 1 rfl) ?_
  refine lv_iload_n hx hb dX5_octet_5 rfl (lv_at hl 2 rfl) ?_
  refine x_calli (va_runVN (As := [.int (nI x), .int (nI i)]) (rest := []) ⟨hx, hb, hml, hown, hts⟩ (c_Bl_hasN (show okB (fun dg' => wS a cB cI cL h1 h2 s1 s2 op nx wt sf lf dn dg' un ug qn qt qg tn tk tv ts ef eg ex eF pf pg px pF) 1 2 (a 1) (a 2) cB dn from ⟨fun _ => rfl, fun _ => rfl, fun _ _ => rfl⟩) (tyS_B cB cI cL) (by omega) dg x i (by omega) (by omega)) ⟨(va_cnB 2 hts (tbG tw_260) rfl rfl rfl n161 ini_X0 (by decide +kernel) ⟨Nat.le_of_ble_eq_true rfl, Nat.le_of_ble_eq_true rfl⟩), im_yX0_has, se_yX0_has⟩ ⟨x_blind, va_recv hK hP (ci := 0) (q0 := 1) rfl rfl, x_pre hK hP hD hN⟩ rfl rfl hl.1 rfl (lv_room (Nat.le_of_ble_eq_true rfl)) dX5_octet_6 ⟨Nat.zero_le _, Nat.zero_le _⟩) hS (fun H locs hP hD hS => ?_)
  have hP : va_P (dC, dI) vwCl (wS a cB cI cL h1 h2 s1 s2 op nx wt sf lf dn dg un ug qn qt qg tn tk tv ts ef eg ex eF pf pg px pF) H := hP
  have hD : va_D A (wS a cB cI cL h1 h2 s1 s2 op nx wt sf lf dn dg un ug qn qt qg tn tk tv ts ef eg ex eF pf pg px pF) := hD
  refine x_if_eq_b (tgt := 24) hx hb dX5_octet_9 (by decide) (fun c9 => ?_) (fun c9 => ?_)
  · exact absurd (of_decide_eq_false c9) (by omega)
  · refine lv_aload_n hx hb dX5_octet_12 rfl (lv_at hl 0 rfl) ?_
    refine va_get (D := (dC, dI)) (ci := 5) (v := .ref (a 1)) (C := RX5) (T := TX5) (N := 11) hx hb hts in_X5 hown hK hP 0 rfl rfl 0 (by decide) f14 (fun _ h9 => h9) rfl dX5_octet_13 ?_
    refine lv_iload_n hx hb dX5_octet_16 rfl (lv_at hl 1 rfl) ?_
    refine lv_iload_n hx hb dX5_octet_17 rfl (lv_at hl 2 rfl) ?_
    refine x_calli (va_runVN (As := [.int (nI x), .int (nI i)]) (rest := []) ⟨hx, hb, hml, hown, hts⟩ (c_Bl_value (show okB (fun dg' => wS a cB cI cL h1 h2 s1 s2 op nx wt sf lf dn dg' un ug qn qt qg tn tk tv ts ef eg ex eF pf pg px pF) 1 2 (a 1) (a 2) cB dn from ⟨fun _ => rfl, fun _ => rfl, fun _ _ => rfl⟩) (tyS_B cB cI cL) (by omega) dg hdg x i (by omega) (by omega)) ⟨(va_cnB 2 hts (tbG tw_345) rfl rfl rfl n167 ini_X0 (by decide +kernel) ⟨Nat.le_of_ble_eq_true rfl, Nat.le_of_ble_eq_true rfl⟩), im_yX0_value, se_yX0_value⟩ ⟨x_blind, va_recv hK hP (ci := 0) (q0 := 1) rfl rfl, x_pre hK hP hD hN⟩ rfl rfl hl.1 rfl (lv_room (Nat.le_of_ble_eq_true rfl)) dX5_octet_18 ⟨Nat.zero_le _, Nat.zero_le _⟩) hS (fun H locs hP hD hS => ?_)
    have hP : va_P (dC, dI) vwCl (wS a cB cI cL h1 h2 s1 s2 op nx wt sf lf dn dg un ug qn qt qg tn tk tv ts ef eg ex eF pf pg px pF) H := hP
    have hD : va_D A (wS a cB cI cL h1 h2 s1 s2 op nx wt sf lf dn dg un ug qn qt qg tn tk tv ts ef eg ex eF pf pg px pF) := hD
    have hv18 : bv dn dg x i < 256 := bv_lt hdg
    refine lv_goto (tgt := 25) hx hb dX5_octet_21 (by decide) ?_
    exact hret dX5_octet_25 (by rfl) hP hD hS

set_option maxHeartbeats 4000000 in
set_option maxRecDepth 100000 in
theorem c_SL_pokeB {l : Launch} {dC : Nat → ClassId} {dI : Nat → Nat → Nat} {A : Nat → Prop} {a : Nat → Nat} {cB cI cL : ClassId} {h1 h2 s1 s2 : Nat} {op : Bool} {nx wt sf lf dn : Nat} {dg : Nat → Nat} {un : Nat} {ug : Nat → Nat} {qn : Nat} {qt qg : Nat → Nat} {tn : Nat} {tk tv : Nat → Int64} {ts : Nat → Nat} {ef eg ex : Nat} {eF : Nat → Nat} {pf pg px : Nat} {pF : Nat → Nat} (hdn : dn ≤ 64) (hdg : ∀ j, dg j < 256) (x y w : Int32) (hz : xhas dn x y = false ∨ w < nI 1 ∨ ¬ w ≤ nI 255) : Met l yX5_poke (Cond.code yX5_poke cX5_poke 4 (some .int) :: TB) { frames := 2, cells := 0, slots := 0, locals := 45 } (xPre Nst (dC, dI) A (tyS cB cI cL) (wS a cB cI cL h1 h2 s1 s2 op nx wt sf lf dn dg un ug qn qt qg tn tk tv ts ef eg ex eF pf pg px pF) [.ref (a 0), .int (x), .int (y), .int (w)]) (xQi (dC, dI) A ((-1)) (wS a cB cI cL h1 h2 s1 s2 op nx wt sf lf dn dg un ug qn qt qg tn tk tv ts ef eg ex eF pf pg px pF)) 0 0 A := by
  refine x_ofWi (cc := cX5_poke) (maxL := 4) (by decide) rfl (Nat.le_of_ble_eq_true rfl) ?_
  intro p e s m args below meth c Q hx hb hml hts hown hK hN hP hD hS hret ls hl
  have hl : lv_has ls 4 [(0, .ref (a 0)), (1, .int (x)), (2, .int (y)), (3, .int (w))] := hl
  have hown : s.vm.findClass RX5 = some m.cls := hown
  have f14 := hts _ (List.mem_cons_of_mem _ tw_207)
  have in_X5 := (fun q hq => List.mem_cons_of_mem _ (inX5 q hq) : ∀ q ∈ wsX50, q ∈ (Cond.code yX5_poke cX5_poke 4 (some .int) :: TB))
  have n161 := hN (.methodLinkNest RX5 161 yX0_has "SegmentLog") (by decide +kernel)
  have ini_X0 := hts _ (List.mem_cons_of_mem _ tw_85)
  have im_yX0_has := hts _ (List.mem_cons_of_mem _ tw_259)
  have se_yX0_has := hts _ (List.mem_cons_of_mem _ tw_6)
  refine lv_aload_n hx hb dX5_poke_0 rfl (lv_at hl 0 rfl) ?_
  refine va_get (D := (dC, dI)) (ci := 5) (v := .ref (a 1)) (C := RX5) (T := TX5) (N := 11) hx hb hts in_X5 hown hK hP 0 rfl rfl 0 (by decide) f14 (fun _ h9 => h9) rfl dX5_poke_1 ?_
  refine lv_iload_n hx hb dX5_poke_4 rfl (lv_at hl 1 rfl) ?_
  refine lv_iload_n hx hb dX5_poke_5 rfl (lv_at hl 2 rfl) ?_
  refine x_calli (va_runVN (As := [.int (x), .int (y)]) (rest := []) ⟨hx, hb, hml, hown, hts⟩ (c_Bl_has (show okB (fun dg' => wS a cB cI cL h1 h2 s1 s2 op nx wt sf lf dn dg' un ug qn qt qg tn tk tv ts ef eg ex eF pf pg px pF) 1 2 (a 1) (a 2) cB dn from ⟨fun _ => rfl, fun _ => rfl, fun _ _ => rfl⟩) (tyS_B cB cI cL) (by omega) dg x y) ⟨(va_cnB 2 hts (tbG tw_260) rfl rfl rfl n161 ini_X0 (by decide +kernel) ⟨Nat.le_of_ble_eq_true rfl, Nat.le_of_ble_eq_true rfl⟩), im_yX0_has, se_yX0_has⟩ ⟨x_blind, va_recv hK hP (ci := 0) (q0 := 1) rfl rfl, x_pre hK hP hD hN⟩ rfl rfl hl.1 rfl (lv_room (Nat.le_of_ble_eq_true rfl)) dX5_poke_6 ⟨Nat.zero_le _, Nat.zero_le _⟩) hS (fun H locs hP hD hS => ?_)
  have hP : va_P (dC, dI) vwCl (wS a cB cI cL h1 h2 s1 s2 op nx wt sf lf dn dg un ug qn qt qg tn tk tv ts ef eg ex eF pf pg px pF) H := hP
  have hD : va_D A (wS a cB cI cL h1 h2 s1 s2 op nx wt sf lf dn dg un ug qn qt qg tn tk tv ts ef eg ex eF pf pg px pF) := hD
  refine x_if_eq_b (tgt := 24) hx hb dX5_poke_9 (by decide) (fun c9 => ?_) (fun c9 => ?_)
  · refine lv_iconst (v := (-1)) hx hb dX5_poke_24 (by decide) ?_
    exact hret dX5_poke_25 (by rfl) hP hD hS
  · refine lv_iload_n hx hb dX5_poke_12 rfl (lv_at hl 3 rfl) ?_
    refine lv_iconst (v := nI 1) hx hb dX5_poke_13 (by decide) ?_
    refine lv_icmp_lt (tgt := 24) hx hb dX5_poke_14 (by decide) (fun c14 => ?_) (fun c14 => ?_)
    · refine lv_iconst (v := (-1)) hx hb dX5_poke_24 (by decide) ?_
      exact hret dX5_poke_25 (by rfl) hP hD hS
    · refine lv_iload_n hx hb dX5_poke_17 rfl (lv_at hl 3 rfl) ?_
      refine lv_sipush (v := nI 255) hx hb dX5_poke_18 (by decide) ?_
      refine lv_icmp_le (tgt := 26) hx hb dX5_poke_21 (by decide) (fun c21 => ?_) (fun c21 => ?_)
      · exact absurd hz (by rintro (q | q | q); exact absurd (q.symm.trans c9) (by decide); exact c14 q; exact q c21)
      · refine lv_iconst (v := (-1)) hx hb dX5_poke_24 (by decide) ?_
        exact hret dX5_poke_25 (by rfl) hP hD hS

set_option maxHeartbeats 4000000 in
set_option maxRecDepth 100000 in
theorem c_SL_pokeG {l : Launch} {dC : Nat → ClassId} {dI : Nat → Nat → Nat} {A : Nat → Prop} {a : Nat → Nat} {cB cI cL : ClassId} {h1 h2 s1 s2 : Nat} {op : Bool} {nx wt sf lf dn : Nat} {dg : Nat → Nat} {un : Nat} {ug : Nat → Nat} {qn : Nat} {qt qg : Nat → Nat} {tn : Nat} {tk tv : Nat → Int64} {ts : Nat → Nat} {ef eg ex : Nat} {eF : Nat → Nat} {pf pg px : Nat} {pF : Nat → Nat} (hdn : dn ≤ 64) (hdg : ∀ j, dg j < 256) (x i : Nat) (hx1 : x < dn) (hi1 : i < 64) (w : Nat) (hw0 : 1 ≤ w) (hw1 : w ≤ 255) : Met l yX5_poke (Cond.code yX5_poke cX5_poke 4 (some .int) :: TB) { frames := 2, cells := 0, slots := 0, locals := 45 } (xPre Nst (dC, dI) A (tyS cB cI cL) (wS a cB cI cL h1 h2 s1 s2 op nx wt sf lf dn dg un ug qn qt qg tn tk tv ts ef eg ex eF pf pg px pF) [.ref (a 0), .int (nI x), .int (nI i), .int (nI w)]) (xQi (dC, dI) A (nI (bv dn (bput dn dg x i (bv dn dg x i ^^^ w)) x i)) (wS a cB cI cL h1 h2 s1 s2 op nx wt sf lf dn (bput dn dg x i (bv dn dg x i ^^^ w)) un ug qn qt qg tn tk tv ts ef eg ex eF pf pg px pF)) 0 0 A := by
  refine x_ofWi (cc := cX5_poke) (maxL := 4) (by decide) rfl (Nat.le_of_ble_eq_true rfl) ?_
  intro p e s m args below meth c Q hx hb hml hts hown hK hN hP hD hS hret ls hl
  have hl : lv_has ls 4 [(0, .ref (a 0)), (1, .int (nI x)), (2, .int (nI i)), (3, .int (nI w))] := hl
  have hown : s.vm.findClass RX5 = some m.cls := hown
  have q1 : bv dn dg x i < 256 := bv_lt hdg
  have q2 : bv dn dg x i ^^^ w < 256 := Nat.xor_lt_two_pow (n := 8) q1 (by omega)
  have f14 := hts _ (List.mem_cons_of_mem _ tw_207)
  have in_X5 := (fun q hq => List.mem_cons_of_mem _ (inX5 q hq) : ∀ q ∈ wsX50, q ∈ (Cond.code yX5_poke cX5_poke 4 (some .int) :: TB))
  have n161 := hN (.methodLinkNest RX5 161 yX0_has "SegmentLog") (by decide +kernel)
  have ini_X0 := hts _ (List.mem_cons_of_mem _ tw_85)
  have im_yX0_has := hts _ (List.mem_cons_of_mem _ tw_259)
  have se_yX0_has := hts _ (List.mem_cons_of_mem _ tw_6)
  have n167 := hN (.methodLinkNest RX5 167 yX0_value "SegmentLog") (by decide +kernel)
  have im_yX0_value := hts _ (List.mem_cons_of_mem _ tw_344)
  have se_yX0_value := hts _ (List.mem_cons_of_mem _ tw_25)
  have n169 := hN (.methodLinkNest RX5 169 yX0_put "SegmentLog") (by decide +kernel)
  have im_yX0_put := hts _ (List.mem_cons_of_mem _ tw_255)
  have se_yX0_put := hts _ (List.mem_cons_of_mem _ tw_5)
  refine lv_aload_n hx hb dX5_poke_0 rfl (lv_at hl 0 rfl) ?_
  refine va_get (D := (dC, dI)) (ci := 5) (v := .ref (a 1)) (C := RX5) (T := TX5) (N := 11) hx hb hts in_X5 hown hK hP 0 rfl rfl 0 (by decide) f14 (fun _ h9 => h9) rfl dX5_poke_1 ?_
  refine lv_iload_n hx hb dX5_poke_4 rfl (lv_at hl 1 rfl) ?_
  refine lv_iload_n hx hb dX5_poke_5 rfl (lv_at hl 2 rfl) ?_
  refine x_calli (va_runVN (As := [.int (nI x), .int (nI i)]) (rest := []) ⟨hx, hb, hml, hown, hts⟩ (c_Bl_hasN (show okB (fun dg' => wS a cB cI cL h1 h2 s1 s2 op nx wt sf lf dn dg' un ug qn qt qg tn tk tv ts ef eg ex eF pf pg px pF) 1 2 (a 1) (a 2) cB dn from ⟨fun _ => rfl, fun _ => rfl, fun _ _ => rfl⟩) (tyS_B cB cI cL) (by omega) dg x i (by omega) (by omega)) ⟨(va_cnB 2 hts (tbG tw_260) rfl rfl rfl n161 ini_X0 (by decide +kernel) ⟨Nat.le_of_ble_eq_true rfl, Nat.le_of_ble_eq_true rfl⟩), im_yX0_has, se_yX0_has⟩ ⟨x_blind, va_recv hK hP (ci := 0) (q0 := 1) rfl rfl, x_pre hK hP hD hN⟩ rfl rfl hl.1 rfl (lv_room (Nat.le_of_ble_eq_true rfl)) dX5_poke_6 ⟨Nat.zero_le _, Nat.zero_le _⟩) hS (fun H locs hP hD hS => ?_)
  have hP : va_P (dC, dI) vwCl (wS a cB cI cL h1 h2 s1 s2 op nx wt sf lf dn dg un ug qn qt qg tn tk tv ts ef eg ex eF pf pg px pF) H := hP
  have hD : va_D A (wS a cB cI cL h1 h2 s1 s2 op nx wt sf lf dn dg un ug qn qt qg tn tk tv ts ef eg ex eF pf pg px pF) := hD
  refine x_if_eq_b (tgt := 24) hx hb dX5_poke_9 (by decide) (fun c9 => ?_) (fun c9 => ?_)
  · exact absurd (of_decide_eq_false c9) (by omega)
  · refine lv_iload_n hx hb dX5_poke_12 rfl (lv_at hl 3 rfl) ?_
    refine lv_iconst (v := nI 1) hx hb dX5_poke_13 (by decide) ?_
    refine x_icmp_lt (tgt := 24) hx hb dX5_poke_14 (by decide) (by omega) (by omega) (fun c14 => ?_) (fun c14 => ?_)
    · exact absurd c14 (by omega)
    · refine lv_iload_n hx hb dX5_poke_17 rfl (lv_at hl 3 rfl) ?_
      refine lv_sipush (v := nI 255) hx hb dX5_poke_18 (by decide) ?_
      refine x_icmp_le (tgt := 26) hx hb dX5_poke_21 (by decide) (by omega) (by omega) (fun c21 => ?_) (fun c21 => ?_)
      · refine lv_aload_n hx hb dX5_poke_26 rfl (lv_at hl 0 rfl) ?_
        refine va_get (D := (dC, dI)) (ci := 5) (v := .ref (a 1)) (C := RX5) (T := TX5) (N := 11) hx hb hts in_X5 hown hK hP 0 rfl rfl 0 (by decide) f14 (fun _ h9 => h9) rfl dX5_poke_27 ?_
        refine lv_iload_n hx hb dX5_poke_30 rfl (lv_at hl 1 rfl) ?_
        refine lv_iload_n hx hb dX5_poke_31 rfl (lv_at hl 2 rfl) ?_
        refine lv_aload_n hx hb dX5_poke_32 rfl (lv_at hl 0 rfl) ?_
        refine va_get (D := (dC, dI)) (ci := 5) (v := .ref (a 1)) (C := RX5) (T := TX5) (N := 11) hx hb hts in_X5 hown hK hP 0 rfl rfl 0 (by decide) f14 (fun _ h9 => h9) rfl dX5_poke_33 ?_
        refine lv_iload_n hx hb dX5_poke_36 rfl (lv_at hl 1 rfl) ?_
        refine lv_iload_n hx hb dX5_poke_37 rfl (lv_at hl 2 rfl) ?_
        refine x_calli (va_runVN (As := [.int (nI x), .int (nI i)]) (rest := [.int (nI i), .int (nI x), .ref (a 1)]) ⟨hx, hb, hml, hown, hts⟩ (c_Bl_value (show okB (fun dg' => wS a cB cI cL h1 h2 s1 s2 op nx wt sf lf dn dg' un ug qn qt qg tn tk tv ts ef eg ex eF pf pg px pF) 1 2 (a 1) (a 2) cB dn from ⟨fun _ => rfl, fun _ => rfl, fun _ _ => rfl⟩) (tyS_B cB cI cL) (by omega) dg hdg x i (by omega) (by omega)) ⟨(va_cnB 2 hts (tbG tw_345) rfl rfl rfl n167 ini_X0 (by decide +kernel) ⟨Nat.le_of_ble_eq_true rfl, Nat.le_of_ble_eq_true rfl⟩), im_yX0_value, se_yX0_value⟩ ⟨x_blind, va_recv hK hP (ci := 0) (q0 := 1) rfl rfl, x_pre hK hP hD hN⟩ rfl rfl hl.1 rfl (lv_room (Nat.le_of_ble_eq_true rfl)) dX5_poke_38 ⟨Nat.zero_le _, Nat.zero_le _⟩) hS (fun H locs hP hD hS => ?_)
        have hP : va_P (dC, dI) vwCl (wS a cB cI cL h1 h2 s1 s2 op nx wt sf lf dn dg un ug qn qt qg tn tk tv ts ef eg ex eF pf pg px pF) H := hP
        have hD : va_D A (wS a cB cI cL h1 h2 s1 s2 op nx wt sf lf dn dg un ug qn qt qg tn tk tv ts ef eg ex eF pf pg px pF) := hD
        have hv38 : bv dn dg x i < 256 := bv_lt hdg
        refine lv_iload_n hx hb dX5_poke_41 rfl (lv_at hl 3 rfl) ?_
        refine lv_ixor hx hb dX5_poke_42 ?_
        refine x_top (y := nI (bv dn dg x i ^^^ w)) (nI_xor q1 (by omega)) ?_
        refine x_callv (va_runVN (As := [.int (nI x), .int (nI i), .int (nI (bv dn dg x i ^^^ w))]) (rest := []) ⟨hx, hb, hml, hown, hts⟩ (c_Bl_put (show okB (fun dg' => wS a cB cI cL h1 h2 s1 s2 op nx wt sf lf dn dg' un ug qn qt qg tn tk tv ts ef eg ex eF pf pg px pF) 1 2 (a 1) (a 2) cB dn from ⟨fun _ => rfl, fun _ => rfl, fun _ _ => rfl⟩) (tyS_B cB cI cL) (by omega) dg x i (bv dn dg x i ^^^ w) (by omega) (by omega) (by omega)) ⟨(va_cnB 3 hts (tbG tw_256) rfl rfl rfl n169 ini_X0 (by decide +kernel) ⟨Nat.le_of_ble_eq_true rfl, Nat.le_of_ble_eq_true rfl⟩), im_yX0_put, se_yX0_put⟩ ⟨x_blind, va_recv hK hP (ci := 0) (q0 := 1) rfl rfl, x_pre hK hP hD hN⟩ rfl rfl hl.1 rfl (lv_room (Nat.le_of_ble_eq_true rfl)) dX5_poke_43 ⟨Nat.zero_le _, Nat.zero_le _⟩) hS (fun H locs hP hD hS => ?_)
        have hP : va_P (dC, dI) vwCl (wS a cB cI cL h1 h2 s1 s2 op nx wt sf lf dn (bput dn dg x i (bv dn dg x i ^^^ w)) un ug qn qt qg tn tk tv ts ef eg ex eF pf pg px pF) H := hP
        have hD : va_D A (wS a cB cI cL h1 h2 s1 s2 op nx wt sf lf dn (bput dn dg x i (bv dn dg x i ^^^ w)) un ug qn qt qg tn tk tv ts ef eg ex eF pf pg px pF) := hD
        refine lv_aload_n hx hb dX5_poke_46 rfl (lv_at hl 0 rfl) ?_
        refine va_get (D := (dC, dI)) (ci := 5) (v := .ref (a 1)) (C := RX5) (T := TX5) (N := 11) hx hb hts in_X5 hown hK hP 0 rfl rfl 0 (by decide) f14 (fun _ h9 => h9) rfl dX5_poke_47 ?_
        refine lv_iload_n hx hb dX5_poke_50 rfl (lv_at hl 1 rfl) ?_
        refine lv_iload_n hx hb dX5_poke_51 rfl (lv_at hl 2 rfl) ?_
        refine x_calli (va_runVN (As := [.int (nI x), .int (nI i)]) (rest := []) ⟨hx, hb, hml, hown, hts⟩ (c_Bl_value (show okB (fun dg' => wS a cB cI cL h1 h2 s1 s2 op nx wt sf lf dn dg' un ug qn qt qg tn tk tv ts ef eg ex eF pf pg px pF) 1 2 (a 1) (a 2) cB dn from ⟨fun _ => rfl, fun _ => rfl, fun _ _ => rfl⟩) (tyS_B cB cI cL) (by omega) (bput dn dg x i (bv dn dg x i ^^^ w)) (bput_lt hdg) x i (by omega) (by omega)) ⟨(va_cnB 2 hts (tbG tw_345) rfl rfl rfl n167 ini_X0 (by decide +kernel) ⟨Nat.le_of_ble_eq_true rfl, Nat.le_of_ble_eq_true rfl⟩), im_yX0_value, se_yX0_value⟩ ⟨x_blind, va_recv hK hP (ci := 0) (q0 := 1) rfl rfl, x_pre hK hP hD hN⟩ rfl rfl hl.1 rfl (lv_room (Nat.le_of_ble_eq_true rfl)) dX5_poke_52 ⟨Nat.zero_le _, Nat.zero_le _⟩) hS (fun H locs hP hD hS => ?_)
        have hP : va_P (dC, dI) vwCl (wS a cB cI cL h1 h2 s1 s2 op nx wt sf lf dn (bput dn dg x i (bv dn dg x i ^^^ w)) un ug qn qt qg tn tk tv ts ef eg ex eF pf pg px pF) H := hP
        have hD : va_D A (wS a cB cI cL h1 h2 s1 s2 op nx wt sf lf dn (bput dn dg x i (bv dn dg x i ^^^ w)) un ug qn qt qg tn tk tv ts ef eg ex eF pf pg px pF) := hD
        have hv52 : bv dn (bput dn dg x i (bv dn dg x i ^^^ w)) x i < 256 := bv_lt (bput_lt hdg)
        exact hret dX5_poke_55 (by rfl) hP hD hS
      · exact absurd c21 (by omega)

set_option maxHeartbeats 4000000 in
set_option maxRecDepth 100000 in
theorem c_SL_badC {l : Launch} {dC : Nat → ClassId} {dI : Nat → Nat → Nat} {A : Nat → Prop} {a : Nat → Nat} {cB cI cL : ClassId} {h1 h2 s1 s2 : Nat} {op : Bool} {nx wt sf lf dn : Nat} {dg : Nat → Nat} {un : Nat} {ug : Nat → Nat} {qn : Nat} {qt qg : Nat → Nat} {tn : Nat} {tk tv : Nat → Int64} {ts : Nat → Nat} {ef eg ex : Nat} {eF : Nat → Nat} {pf pg px : Nat} {pF : Nat → Nat} (ho : op = false) : Met l yX5_bad (Cond.code yX5_bad cX5_bad 2 (some .int) :: TB) { frames := 4, cells := 0, slots := 0, locals := 92 } (xPre Nst (dC, dI) A (tyS cB cI cL) (wS a cB cI cL h1 h2 s1 s2 op nx wt sf lf dn dg un ug qn qt qg tn tk tv ts ef eg ex eF pf pg px pF) [.ref (a 0)]) (xQi (dC, dI) A ((-4)) (wS a cB cI cL h1 h2 s1 s2 op nx wt sf lf dn dg un ug qn qt qg tn tk tv ts ef eg ex eF pf pg px pF)) 0 0 A := by
  refine x_ofWi (cc := cX5_bad) (maxL := 2) (by decide) rfl (Nat.le_of_ble_eq_true rfl) ?_
  intro p e s m args below meth c Q hx hb hml hts hown hK hN hP hD hS hret ls hl
  have hl : lv_has ls 2 [(0, .ref (a 0))] := hl
  have hown : s.vm.findClass RX5 = some m.cls := hown
  have f49 := hts _ (List.mem_cons_of_mem _ tw_213)
  have in_X5 := (fun q hq => List.mem_cons_of_mem _ (inX5 q hq) : ∀ q ∈ wsX50, q ∈ (Cond.code yX5_bad cX5_bad 2 (some .int) :: TB))
  refine lv_aload_n hx hb dX5_bad_0 rfl (lv_at hl 0 rfl) ?_
  refine va_get (D := (dC, dI)) (ci := 5) (v := .int (bI op)) (C := RX5) (T := TX5) (N := 11) hx hb hts in_X5 hown hK hP 0 rfl rfl 6 (by decide) f49 (fun _ h9 => h9) rfl dX5_bad_1 ?_
  refine x_if_ne_b (tgt := 10) hx hb dX5_bad_4 (by decide) (fun c4 => ?_) (fun c4 => ?_)
  · exact absurd (ho.symm.trans c4) (by decide)
  · refine lv_bipush (v := (-4)) hx hb dX5_bad_7 (by decide) ?_
    exact hret dX5_bad_9 (by rfl) hP hD hS

set_option maxHeartbeats 4000000 in
set_option maxRecDepth 100000 in
theorem c_SL_badO {l : Launch} {dC : Nat → ClassId} {dI : Nat → Nat → Nat} {A : Nat → Prop} {a : Nat → Nat} {cB cI cL : ClassId} {h1 h2 s1 s2 : Nat} {op : Bool} {nx wt sf lf dn : Nat} {dg : Nat → Nat} {un : Nat} {ug : Nat → Nat} {qn : Nat} {qt qg : Nat → Nat} {tn : Nat} {tk tv : Nat → Int64} {ts : Nat → Nat} {ef eg ex : Nat} {eF : Nat → Nat} {pf pg px : Nat} {pF : Nat → Nat} (hdn : dn ≤ 64) (hun : un ≤ 64) (hqn : qn ≤ 64) (hdg : ∀ j, dg j < 256) (hug : ∀ j, ug j < 8) (hqt : ∀ j, qt j < 64) (heg : eg < 2 ^ 30) (ho : op = true) : Met l yX5_bad (Cond.code yX5_bad cX5_bad 2 (some .int) :: TB) { frames := 4, cells := 0, slots := 0, locals := 92 } (xPre Nst (dC, dI) A (tyS cB cI cL) (wS a cB cI cL h1 h2 s1 s2 op nx wt sf lf dn dg un ug qn qt qg tn tk tv ts ef eg ex eF pf pg px pF) [.ref (a 0)]) (xQi (dC, dI) A (oI (bdX dn dg un ug qt qn eg dn 0)) (wS a cB cI cL h1 h2 s1 s2 op nx wt sf lf dn dg un ug qn qt qg tn tk tv ts ef eg ex eF pf pg px pF)) 0 0 A := by
  refine x_ofWi (cc := cX5_bad) (maxL := 2) (by decide) rfl (Nat.le_of_ble_eq_true rfl) ?_
  intro p e s m args below meth c Q hx hb hml hts hown hK hN hP hD hS hret ls hl
  have hl : lv_has ls 2 [(0, .ref (a 0))] := hl
  have hown : s.vm.findClass RX5 = some m.cls := hown
  have f49 := hts _ (List.mem_cons_of_mem _ tw_213)
  have in_X5 := (fun q hq => List.mem_cons_of_mem _ (inX5 q hq) : ∀ q ∈ wsX50, q ∈ (Cond.code yX5_bad cX5_bad 2 (some .int) :: TB))
  have f14 := hts _ (List.mem_cons_of_mem _ tw_207)
  have f173 := hN (.fieldLinkNest RX5 173 "SegmentLog$Blocks" "size" "I" "SegmentLog") (by decide +kernel)
  have in_X0 := (fun q hq => List.mem_cons_of_mem _ (inX0 q hq) : ∀ q ∈ wsX00, q ∈ (Cond.code yX5_bad cX5_bad 2 (some .int) :: TB))
  have n177 := hN (.methodLinkNest RX5 177 yX0_isWhole "SegmentLog") (by decide +kernel)
  have ini_X0 := hts _ (List.mem_cons_of_mem _ tw_85)
  have im_yX0_isWhole := hts _ (List.mem_cons_of_mem _ tw_447)
  have se_yX0_isWhole := hts _ (List.mem_cons_of_mem _ tw_41)
  refine lv_aload_n hx hb dX5_bad_0 rfl (lv_at hl 0 rfl) ?_
  refine va_get (D := (dC, dI)) (ci := 5) (v := .int (bI op)) (C := RX5) (T := TX5) (N := 11) hx hb hts in_X5 hown hK hP 0 rfl rfl 6 (by decide) f49 (fun _ h9 => h9) rfl dX5_bad_1 ?_
  refine x_if_ne_b (tgt := 10) hx hb dX5_bad_4 (by decide) (fun c4 => ?_) (fun c4 => ?_)
  · refine lv_iconst (v := nI 0) hx hb dX5_bad_10 (by decide) ?_
    refine lv_istore_n (lv' := [(1, .int (nI 0)), (0, .ref (a 0))]) hx hb dX5_bad_11 rfl hl (by decide) rfl (fun ls hl => ?_)
    have L12 : ∀ (fu12 : Nat) (y : Nat), (dn - y < fu12) → (y ≤ dn) → (bdX dn dg un ug qt qn eg (dn - y) y = bdX dn dg un ug qt qn eg dn 0) → ∀ (H : Heap) (locs : List Loc), va_P (dC, dI) vwCl (wS a cB cI cL h1 h2 s1 s2 op nx wt sf lf dn dg un ug qn qt qg tn tk tv ts ef eg ex eF pf pg px pF) H → va_D A (wS a cB cI cL h1 h2 s1 s2 op nx wt sf lf dn dg un ug qn qt qg tn tk tv ts ef eg ex eF pf pg px pF) → va_S A s.heap H locs → ∀ (ls : Array Slot), lv_has ls 2 [(0, .ref (a 0)), (1, .int (nI y))] → W p l e { frames := 4, cells := 0, slots := 0, locals := 92 } s m args below meth c H locs 0 0 Q (F0 m 12 ls []) := by
      intro fu12
      induction fu12 with
      | zero => intro y hm; exact absurd hm (Nat.not_lt_zero _)
      | succ fu12 ih12 =>
        intro y hm i12_0 i12_1 H locs hP hD hS ls hl
        refine lv_iload_n hx hb dX5_bad_12 rfl (lv_at hl 1 rfl) ?_
        refine lv_aload_n hx hb dX5_bad_13 rfl (lv_at hl 0 rfl) ?_
        refine va_get (D := (dC, dI)) (ci := 5) (v := .ref (a 1)) (C := RX5) (T := TX5) (N := 11) hx hb hts in_X5 hown hK hP 0 rfl rfl 0 (by decide) f14 (fun _ h9 => h9) rfl dX5_bad_14 ?_
        refine va_getN (D := (dC, dI)) (ci := 0) (v := .int (nI dn)) (C := RX0) (T := TX0) (N := 2) hx hb hts in_X0 hown hK hP 1 rfl rfl 1 (by decide) (va_Nw.use (A := args) rfl f173) (fun _ h9 => h9) rfl dX5_bad_17 ?_
        refine x_icmp_ge (tgt := 50) hx hb dX5_bad_20 (by decide) (by omega) (by omega) (fun c20 => ?_) (fun c20 => ?_)
        · refine lv_bipush (v := (-2)) hx hb dX5_bad_50 (by decide) ?_
          exact hret dX5_bad_52 (by have h := i12_1; rw [show dn - y = 0 by omega, bdX] at h; rw [← h]; rfl) hP hD hS
        · refine lv_aload_n hx hb dX5_bad_23 rfl (lv_at hl 0 rfl) ?_
          refine lv_iload_n hx hb dX5_bad_24 rfl (lv_at hl 1 rfl) ?_
          refine x_calli (va_runV (As := [.int (nI y)]) (rest := []) ⟨hx, hb, hml, hown, hts⟩ (c_SL_shouldBeWhole (by omega) (by omega) hug hqt (by omega) y (by omega)) (cwV 1 hts (tbV tw_562 tw_564 tw_56 tw_84 tw_565) rfl rfl rfl (by decide +kernel) ⟨Nat.le_of_ble_eq_true rfl, Nat.le_of_ble_eq_true rfl⟩) ⟨x_blind, va_recv hK hP (ci := 5) (q0 := 0) rfl rfl, x_pre hK hP hD hN⟩ rfl rfl hl.1 rfl (lv_room (Nat.le_of_ble_eq_true rfl)) dX5_bad_25 ⟨Nat.zero_le _, Nat.zero_le _⟩) hS (fun H locs hP hD hS => ?_)
          have hP : va_P (dC, dI) vwCl (wS a cB cI cL h1 h2 s1 s2 op nx wt sf lf dn dg un ug qn qt qg tn tk tv ts ef eg ex eF pf pg px pF) H := hP
          have hD : va_D A (wS a cB cI cL h1 h2 s1 s2 op nx wt sf lf dn dg un ug qn qt qg tn tk tv ts ef eg ex eF pf pg px pF) := hD
          refine x_if_eq_b (tgt := 44) hx hb dX5_bad_28 (by decide) (fun c28 => ?_) (fun c28 => ?_)
          · refine lv_iinc (v := nI (y + 1)) (lv' := [(1, .int (nI (y + 1))), (0, .ref (a 0))]) hx hb dX5_bad_44 hl (k := 1) rfl (x_inc _) (by decide) rfl (fun ls hl => ?_)
            refine lv_goto (tgt := 12) hx hb dX5_bad_47 (by decide) ?_
            exact ih12 (y + 1) (by omega) (by omega) (by have h := i12_1; rw [show dn - y = (dn - (y + 1)) + 1 by omega, bdX] at h; first | (have hh : ¬ (sbw un ug qt qn eg y = true ∧ whole dn dg y = false) := (fun q => absurd (c28.symm.trans q.1) (by decide)); rw [if_neg hh] at h; exact h) | (have hh : ¬ (sbw un ug qt qn eg y = true ∧ whole dn dg y = false) := (fun q => absurd (c39.symm.trans q.2) (by decide)); rw [if_neg hh] at h; exact h)) _ _ hP hD hS ls (lv_sub hl [1, 0] rfl)
          · refine lv_aload_n hx hb dX5_bad_31 rfl (lv_at hl 0 rfl) ?_
            refine va_get (D := (dC, dI)) (ci := 5) (v := .ref (a 1)) (C := RX5) (T := TX5) (N := 11) hx hb hts in_X5 hown hK hP 0 rfl rfl 0 (by decide) f14 (fun _ h9 => h9) rfl dX5_bad_32 ?_
            refine lv_iload_n hx hb dX5_bad_35 rfl (lv_at hl 1 rfl) ?_
            refine x_calli (va_runVN (As := [.int (nI y)]) (rest := []) ⟨hx, hb, hml, hown, hts⟩ (c_Bl_isWhole (show okB (fun dg' => wS a cB cI cL h1 h2 s1 s2 op nx wt sf lf dn dg' un ug qn qt qg tn tk tv ts ef eg ex eF pf pg px pF) 1 2 (a 1) (a 2) cB dn from ⟨fun _ => rfl, fun _ => rfl, fun _ _ => rfl⟩) (tyS_B cB cI cL) (by omega) dg hdg y (by omega)) ⟨(va_cnB 1 hts (tbG tw_448) rfl rfl rfl n177 ini_X0 (by decide +kernel) ⟨Nat.le_of_ble_eq_true rfl, Nat.le_of_ble_eq_true rfl⟩), im_yX0_isWhole, se_yX0_isWhole⟩ ⟨x_blind, va_recv hK hP (ci := 0) (q0 := 1) rfl rfl, x_pre hK hP hD hN⟩ rfl rfl hl.1 rfl (lv_room (Nat.le_of_ble_eq_true rfl)) dX5_bad_36 ⟨Nat.zero_le _, Nat.zero_le _⟩) hS (fun H locs hP hD hS => ?_)
            have hP : va_P (dC, dI) vwCl (wS a cB cI cL h1 h2 s1 s2 op nx wt sf lf dn dg un ug qn qt qg tn tk tv ts ef eg ex eF pf pg px pF) H := hP
            have hD : va_D A (wS a cB cI cL h1 h2 s1 s2 op nx wt sf lf dn dg un ug qn qt qg tn tk tv ts ef eg ex eF pf pg px pF) := hD
            refine x_if_ne_b (tgt := 44) hx hb dX5_bad_39 (by decide) (fun c39 => ?_) (fun c39 => ?_)
            · refine lv_iinc (v := nI (y + 1)) (lv' := [(1, .int (nI (y + 1))), (0, .ref (a 0))]) hx hb dX5_bad_44 hl (k := 1) rfl (x_inc _) (by decide) rfl (fun ls hl => ?_)
              refine lv_goto (tgt := 12) hx hb dX5_bad_47 (by decide) ?_
              exact ih12 (y + 1) (by omega) (by omega) (by have h := i12_1; rw [show dn - y = (dn - (y + 1)) + 1 by omega, bdX] at h; first | (have hh : ¬ (sbw un ug qt qn eg y = true ∧ whole dn dg y = false) := (fun q => absurd (c28.symm.trans q.1) (by decide)); rw [if_neg hh] at h; exact h) | (have hh : ¬ (sbw un ug qt qn eg y = true ∧ whole dn dg y = false) := (fun q => absurd (c39.symm.trans q.2) (by decide)); rw [if_neg hh] at h; exact h)) _ _ hP hD hS ls (lv_sub hl [1, 0] rfl)
            · refine lv_iload_n hx hb dX5_bad_42 rfl (lv_at hl 1 rfl) ?_
              exact hret dX5_bad_43 (by have h := i12_1; have hh : sbw un ug qt qn eg y = true ∧ whole dn dg y = false := ⟨c28, c39⟩; rw [show dn - y = (dn - (y + 1)) + 1 by omega, bdX, if_pos hh] at h; rw [← h]; rfl) hP hD hS
    exact L12 (dn - 0 + 1) 0 (by omega) (by omega) (by rfl) _ _ hP hD hS ls (lv_sub hl [1, 0] rfl)
  · exact absurd (ho.symm.trans c4) (by decide)

set_option maxHeartbeats 4000000 in
set_option maxRecDepth 100000 in
theorem c_SL_queuedC {l : Launch} {dC : Nat → ClassId} {dI : Nat → Nat → Nat} {A : Nat → Prop} {a : Nat → Nat} {cB cI cL : ClassId} {h1 h2 s1 s2 : Nat} {op : Bool} {nx wt sf lf dn : Nat} {dg : Nat → Nat} {un : Nat} {ug : Nat → Nat} {qn : Nat} {qt qg : Nat → Nat} {tn : Nat} {tk tv : Nat → Int64} {ts : Nat → Nat} {ef eg ex : Nat} {eF : Nat → Nat} {pf pg px : Nat} {pF : Nat → Nat} (x : Int32) (ho : op = false) : Met l yX5_queued (Cond.code yX5_queued cX5_queued 2 (some .int) :: TB) { frames := 1, cells := 0, slots := 0, locals := 21 } (xPre Nst (dC, dI) A (tyS cB cI cL) (wS a cB cI cL h1 h2 s1 s2 op nx wt sf lf dn dg un ug qn qt qg tn tk tv ts ef eg ex eF pf pg px pF) [.ref (a 0), .int (x)]) (xQi (dC, dI) A ((-4)) (wS a cB cI cL h1 h2 s1 s2 op nx wt sf lf dn dg un ug qn qt qg tn tk tv ts ef eg ex eF pf pg px pF)) 0 0 A := by
  refine x_ofWi (cc := cX5_queued) (maxL := 2) (by decide) rfl (Nat.le_of_ble_eq_true rfl) ?_
  intro p e s m args below meth c Q hx hb hml hts hown hK hN hP hD hS hret ls hl
  have hl : lv_has ls 2 [(0, .ref (a 0)), (1, .int (x))] := hl
  have hown : s.vm.findClass RX5 = some m.cls := hown
  have f49 := hts _ (List.mem_cons_of_mem _ tw_213)
  have in_X5 := (fun q hq => List.mem_cons_of_mem _ (inX5 q hq) : ∀ q ∈ wsX50, q ∈ (Cond.code yX5_queued cX5_queued 2 (some .int) :: TB))
  refine lv_aload_n hx hb dX5_queued_0 rfl (lv_at hl 0 rfl) ?_
  refine va_get (D := (dC, dI)) (ci := 5) (v := .int (bI op)) (C := RX5) (T := TX5) (N := 11) hx hb hts in_X5 hown hK hP 0 rfl rfl 6 (by decide) f49 (fun _ h9 => h9) rfl dX5_queued_1 ?_
  refine x_if_eq_b (tgt := 18) hx hb dX5_queued_4 (by decide) (fun c4 => ?_) (fun c4 => ?_)
  · refine lv_bipush (v := (-4)) hx hb dX5_queued_18 (by decide) ?_
    exact hret dX5_queued_20 (by rfl) hP hD hS
  · exact absurd (ho.symm.trans c4) (by decide)

set_option maxHeartbeats 4000000 in
set_option maxRecDepth 100000 in
theorem c_SL_queuedO {l : Launch} {dC : Nat → ClassId} {dI : Nat → Nat → Nat} {A : Nat → Prop} {a : Nat → Nat} {cB cI cL : ClassId} {h1 h2 s1 s2 : Nat} {op : Bool} {nx wt sf lf dn : Nat} {dg : Nat → Nat} {un : Nat} {ug : Nat → Nat} {qn : Nat} {qt qg : Nat → Nat} {tn : Nat} {tk tv : Nat → Int64} {ts : Nat → Nat} {ef eg ex : Nat} {eF : Nat → Nat} {pf pg px : Nat} {pF : Nat → Nat} (hqn : qn ≤ 64) (x : Int32) (ho : op = true) : Met l yX5_queued (Cond.code yX5_queued cX5_queued 2 (some .int) :: TB) { frames := 1, cells := 0, slots := 0, locals := 21 } (xPre Nst (dC, dI) A (tyS cB cI cL) (wS a cB cI cL h1 h2 s1 s2 op nx wt sf lf dn dg un ug qn qt qg tn tk tv ts ef eg ex eF pf pg px pF) [.ref (a 0), .int (x)]) (xQi (dC, dI) A (qtr qn qt x) (wS a cB cI cL h1 h2 s1 s2 op nx wt sf lf dn dg un ug qn qt qg tn tk tv ts ef eg ex eF pf pg px pF)) 0 0 A := by
  refine x_ofWi (cc := cX5_queued) (maxL := 2) (by decide) rfl (Nat.le_of_ble_eq_true rfl) ?_
  intro p e s m args below meth c Q hx hb hml hts hown hK hN hP hD hS hret ls hl
  have hl : lv_has ls 2 [(0, .ref (a 0)), (1, .int (x))] := hl
  have hown : s.vm.findClass RX5 = some m.cls := hown
  have f49 := hts _ (List.mem_cons_of_mem _ tw_213)
  have in_X5 := (fun q hq => List.mem_cons_of_mem _ (inX5 q hq) : ∀ q ∈ wsX50, q ∈ (Cond.code yX5_queued cX5_queued 2 (some .int) :: TB))
  have f28 := hts _ (List.mem_cons_of_mem _ tw_209)
  have n180 := hN (.methodLinkNest RX5 180 yX2_target "SegmentLog") (by decide +kernel)
  have ini_X2 := hts _ (List.mem_cons_of_mem _ tw_88)
  have im_yX2_target := hts _ (List.mem_cons_of_mem _ tw_336)
  have se_yX2_target := hts _ (List.mem_cons_of_mem _ tw_23)
  refine lv_aload_n hx hb dX5_queued_0 rfl (lv_at hl 0 rfl) ?_
  refine va_get (D := (dC, dI)) (ci := 5) (v := .int (bI op)) (C := RX5) (T := TX5) (N := 11) hx hb hts in_X5 hown hK hP 0 rfl rfl 6 (by decide) f49 (fun _ h9 => h9) rfl dX5_queued_1 ?_
  refine x_if_eq_b (tgt := 18) hx hb dX5_queued_4 (by decide) (fun c4 => ?_) (fun c4 => ?_)
  · exact absurd (ho.symm.trans c4) (by decide)
  · refine lv_aload_n hx hb dX5_queued_7 rfl (lv_at hl 0 rfl) ?_
    refine va_get (D := (dC, dI)) (ci := 5) (v := .ref (a 5)) (C := RX5) (T := TX5) (N := 11) hx hb hts in_X5 hown hK hP 0 rfl rfl 2 (by decide) f28 (fun _ h9 => h9) rfl dX5_queued_8 ?_
    refine lv_iload_n hx hb dX5_queued_11 rfl (lv_at hl 1 rfl) ?_
    refine x_calli (va_runVN (As := [.int (x)]) (rest := []) ⟨hx, hb, hml, hown, hts⟩ (c_Qu_target (by omega) x) ⟨(va_cnB 1 hts (tbG tw_337) rfl rfl rfl n180 ini_X2 (by decide +kernel) ⟨Nat.le_of_ble_eq_true rfl, Nat.le_of_ble_eq_true rfl⟩), im_yX2_target, se_yX2_target⟩ ⟨x_blind, va_recv hK hP (ci := 2) (q0 := 5) rfl rfl, x_pre hK hP hD hN⟩ rfl rfl hl.1 rfl (lv_room (Nat.le_of_ble_eq_true rfl)) dX5_queued_12 ⟨Nat.zero_le _, Nat.zero_le _⟩) hS (fun H locs hP hD hS => ?_)
    have hP : va_P (dC, dI) vwCl (wS a cB cI cL h1 h2 s1 s2 op nx wt sf lf dn dg un ug qn qt qg tn tk tv ts ef eg ex eF pf pg px pF) H := hP
    have hD : va_D A (wS a cB cI cL h1 h2 s1 s2 op nx wt sf lf dn dg un ug qn qt qg tn tk tv ts ef eg ex eF pf pg px pF) := hD
    refine lv_goto (tgt := 20) hx hb dX5_queued_15 (by decide) ?_
    exact hret dX5_queued_20 (by rfl) hP hD hS

set_option maxHeartbeats 4000000 in
set_option maxRecDepth 100000 in
theorem c_SL_countB {l : Launch} {dC : Nat → ClassId} {dI : Nat → Nat → Nat} {A : Nat → Prop} {a : Nat → Nat} {cB cI cL : ClassId} {h1 h2 s1 s2 : Nat} {op : Bool} {nx wt sf lf dn : Nat} {dg : Nat → Nat} {un : Nat} {ug : Nat → Nat} {qn : Nat} {qt qg : Nat → Nat} {tn : Nat} {tk tv : Nat → Int64} {ts : Nat → Nat} {ef eg ex : Nat} {eF : Nat → Nat} {pf pg px : Nat} {pF : Nat → Nat} (x : Int32) (hz : x < 0 ∨ ¬ x ≤ nI 10) : Met l yX5_count (Cond.code yX5_count cX5_count 2 (some .int) :: TB) { frames := 2, cells := 0, slots := 0, locals := 44 } (xPre Nst (dC, dI) A (tyS cB cI cL) (wS a cB cI cL h1 h2 s1 s2 op nx wt sf lf dn dg un ug qn qt qg tn tk tv ts ef eg ex eF pf pg px pF) [.ref (a 0), .int (x)]) (xQi (dC, dI) A ((-1)) (wS a cB cI cL h1 h2 s1 s2 op nx wt sf lf dn dg un ug qn qt qg tn tk tv ts ef eg ex eF pf pg px pF)) 0 0 A := by
  refine x_ofWi (cc := cX5_count) (maxL := 2) (by decide) rfl (Nat.le_of_ble_eq_true rfl) ?_
  intro p e s m args below meth c Q hx hb hml hts hown hK hN hP hD hS hret ls hl
  have hl : lv_has ls 2 [(0, .ref (a 0)), (1, .int (x))] := hl
  have hown : s.vm.findClass RX5 = some m.cls := hown
  refine lv_iload_n hx hb dX5_count_0 rfl (lv_at hl 1 rfl) ?_
  refine lv_if_lt (tgt := 10) hx hb dX5_count_1 (by decide) (fun c1 => ?_) (fun c1 => ?_)
  · refine lv_iconst (v := (-1)) hx hb dX5_count_10 (by decide) ?_
    exact hret dX5_count_11 (by rfl) hP hD hS
  · refine lv_iload_n hx hb dX5_count_4 rfl (lv_at hl 1 rfl) ?_
    refine lv_bipush (v := nI 10) hx hb dX5_count_5 (by decide) ?_
    refine lv_icmp_le (tgt := 12) hx hb dX5_count_7 (by decide) (fun c7 => ?_) (fun c7 => ?_)
    · exact absurd hz (by rintro (q | q); exact c1 q; exact q c7)
    · refine lv_iconst (v := (-1)) hx hb dX5_count_10 (by decide) ?_
      exact hret dX5_count_11 (by rfl) hP hD hS

set_option maxHeartbeats 4000000 in
set_option maxRecDepth 100000 in
theorem c_SL_countZ {l : Launch} {dC : Nat → ClassId} {dI : Nat → Nat → Nat} {A : Nat → Prop} {a : Nat → Nat} {cB cI cL : ClassId} {h1 h2 s1 s2 : Nat} {op : Bool} {nx wt sf lf dn : Nat} {dg : Nat → Nat} {un : Nat} {ug : Nat → Nat} {qn : Nat} {qt qg : Nat → Nat} {tn : Nat} {tk tv : Nat → Int64} {ts : Nat → Nat} {ef eg ex : Nat} {eF : Nat → Nat} {pf pg px : Nat} {pF : Nat → Nat} (w : Nat) (hw1 : w = 0) : Met l yX5_count (Cond.code yX5_count cX5_count 2 (some .int) :: TB) { frames := 2, cells := 0, slots := 0, locals := 44 } (xPre Nst (dC, dI) A (tyS cB cI cL) (wS a cB cI cL h1 h2 s1 s2 op nx wt sf lf dn dg un ug qn qt qg tn tk tv ts ef eg ex eF pf pg px pF) [.ref (a 0), .int (nI w)]) (xQi (dC, dI) A (nI dn) (wS a cB cI cL h1 h2 s1 s2 op nx wt sf lf dn dg un ug qn qt qg tn tk tv ts ef eg ex eF pf pg px pF)) 0 0 A := by
  refine x_ofWi (cc := cX5_count) (maxL := 2) (by decide) rfl (Nat.le_of_ble_eq_true rfl) ?_
  intro p e s m args below meth c Q hx hb hml hts hown hK hN hP hD hS hret ls hl
  have hl : lv_has ls 2 [(0, .ref (a 0)), (1, .int (nI w))] := hl
  have hown : s.vm.findClass RX5 = some m.cls := hown
  have f14 := hts _ (List.mem_cons_of_mem _ tw_207)
  have in_X5 := (fun q hq => List.mem_cons_of_mem _ (inX5 q hq) : ∀ q ∈ wsX50, q ∈ (Cond.code yX5_count cX5_count 2 (some .int) :: TB))
  have f173 := hN (.fieldLinkNest RX5 173 "SegmentLog$Blocks" "size" "I" "SegmentLog") (by decide +kernel)
  have in_X0 := (fun q hq => List.mem_cons_of_mem _ (inX0 q hq) : ∀ q ∈ wsX00, q ∈ (Cond.code yX5_count cX5_count 2 (some .int) :: TB))
  refine lv_iload_n hx hb dX5_count_0 rfl (lv_at hl 1 rfl) ?_
  refine x_if_lt (tgt := 10) hx hb dX5_count_1 (by decide) (by omega) ?_
  refine lv_iload_n hx hb dX5_count_4 rfl (lv_at hl 1 rfl) ?_
  refine lv_bipush (v := nI 10) hx hb dX5_count_5 (by decide) ?_
  refine x_icmp_le (tgt := 12) hx hb dX5_count_7 (by decide) (by omega) (by omega) (fun c7 => ?_) (fun c7 => ?_)
  · refine lv_iload_n hx hb dX5_count_12 rfl (lv_at hl 1 rfl) ?_
    refine x_if_ne (tgt := 24) hx hb dX5_count_13 (by decide) (by omega) (fun c13 => ?_) (fun c13 => ?_)
    · exact absurd hw1 c13
    · refine lv_aload_n hx hb dX5_count_16 rfl (lv_at hl 0 rfl) ?_
      refine va_get (D := (dC, dI)) (ci := 5) (v := .ref (a 1)) (C := RX5) (T := TX5) (N := 11) hx hb hts in_X5 hown hK hP 0 rfl rfl 0 (by decide) f14 (fun _ h9 => h9) rfl dX5_count_17 ?_
      refine va_getN (D := (dC, dI)) (ci := 0) (v := .int (nI dn)) (C := RX0) (T := TX0) (N := 2) hx hb hts in_X0 hown hK hP 1 rfl rfl 1 (by decide) (va_Nw.use (A := args) rfl f173) (fun _ h9 => h9) rfl dX5_count_20 ?_
      exact hret dX5_count_23 (by rfl) hP hD hS
  · exact absurd c7 (by omega)

set_option maxHeartbeats 4000000 in
set_option maxRecDepth 100000 in
theorem c_SL_countC {l : Launch} {dC : Nat → ClassId} {dI : Nat → Nat → Nat} {A : Nat → Prop} {a : Nat → Nat} {cB cI cL : ClassId} {h1 h2 s1 s2 : Nat} {op : Bool} {nx wt sf lf dn : Nat} {dg : Nat → Nat} {un : Nat} {ug : Nat → Nat} {qn : Nat} {qt qg : Nat → Nat} {tn : Nat} {tk tv : Nat → Int64} {ts : Nat → Nat} {ef eg ex : Nat} {eF : Nat → Nat} {pf pg px : Nat} {pF : Nat → Nat} (w : Nat) (hw1 : w ≤ 10) (ho : op = false) (hw0 : w ≠ 0) : Met l yX5_count (Cond.code yX5_count cX5_count 2 (some .int) :: TB) { frames := 2, cells := 0, slots := 0, locals := 44 } (xPre Nst (dC, dI) A (tyS cB cI cL) (wS a cB cI cL h1 h2 s1 s2 op nx wt sf lf dn dg un ug qn qt qg tn tk tv ts ef eg ex eF pf pg px pF) [.ref (a 0), .int (nI w)]) (xQi (dC, dI) A (nI 0) (wS a cB cI cL h1 h2 s1 s2 op nx wt sf lf dn dg un ug qn qt qg tn tk tv ts ef eg ex eF pf pg px pF)) 0 0 A := by
  refine x_ofWi (cc := cX5_count) (maxL := 2) (by decide) rfl (Nat.le_of_ble_eq_true rfl) ?_
  intro p e s m args below meth c Q hx hb hml hts hown hK hN hP hD hS hret ls hl
  have hl : lv_has ls 2 [(0, .ref (a 0)), (1, .int (nI w))] := hl
  have hown : s.vm.findClass RX5 = some m.cls := hown
  have f49 := hts _ (List.mem_cons_of_mem _ tw_213)
  have in_X5 := (fun q hq => List.mem_cons_of_mem _ (inX5 q hq) : ∀ q ∈ wsX50, q ∈ (Cond.code yX5_count cX5_count 2 (some .int) :: TB))
  refine lv_iload_n hx hb dX5_count_0 rfl (lv_at hl 1 rfl) ?_
  refine x_if_lt (tgt := 10) hx hb dX5_count_1 (by decide) (by omega) ?_
  refine lv_iload_n hx hb dX5_count_4 rfl (lv_at hl 1 rfl) ?_
  refine lv_bipush (v := nI 10) hx hb dX5_count_5 (by decide) ?_
  refine x_icmp_le (tgt := 12) hx hb dX5_count_7 (by decide) (by omega) (by omega) (fun c7 => ?_) (fun c7 => ?_)
  · refine lv_iload_n hx hb dX5_count_12 rfl (lv_at hl 1 rfl) ?_
    refine x_if_ne (tgt := 24) hx hb dX5_count_13 (by decide) (by omega) (fun c13 => ?_) (fun c13 => ?_)
    · refine lv_aload_n hx hb dX5_count_24 rfl (lv_at hl 0 rfl) ?_
      refine va_get (D := (dC, dI)) (ci := 5) (v := .int (bI op)) (C := RX5) (T := TX5) (N := 11) hx hb hts in_X5 hown hK hP 0 rfl rfl 6 (by decide) f49 (fun _ h9 => h9) rfl dX5_count_25 ?_
      refine x_if_eq_b (tgt := 39) hx hb dX5_count_28 (by decide) (fun c28 => ?_) (fun c28 => ?_)
      · refine lv_iconst (v := nI 0) hx hb dX5_count_39 (by decide) ?_
        exact hret dX5_count_40 (by rfl) hP hD hS
      · exact absurd (ho.symm.trans c28) (by decide)
    · exact absurd c13 hw0
  · exact absurd c7 (by omega)

set_option maxHeartbeats 4000000 in
set_option maxRecDepth 100000 in
theorem c_SL_countO {l : Launch} {dC : Nat → ClassId} {dI : Nat → Nat → Nat} {A : Nat → Prop} {a : Nat → Nat} {cB cI cL : ClassId} {h1 h2 s1 s2 : Nat} {op : Bool} {nx wt sf lf dn : Nat} {dg : Nat → Nat} {un : Nat} {ug : Nat → Nat} {qn : Nat} {qt qg : Nat → Nat} {tn : Nat} {tk tv : Nat → Int64} {ts : Nat → Nat} {ef eg ex : Nat} {eF : Nat → Nat} {pf pg px : Nat} {pF : Nat → Nat} (hun : un ≤ 64) (hug : ∀ j, ug j < 8) (w : Nat) (hw1 : w ≤ 10) (ho : op = true) (hw0 : w ≠ 0) : Met l yX5_count (Cond.code yX5_count cX5_count 2 (some .int) :: TB) { frames := 2, cells := 0, slots := 0, locals := 44 } (xPre Nst (dC, dI) A (tyS cB cI cL) (wS a cB cI cL h1 h2 s1 s2 op nx wt sf lf dn dg un ug qn qt qg tn tk tv ts ef eg ex eF pf pg px pF) [.ref (a 0), .int (nI w)]) (xQi (dC, dI) A (nI (cnO un ug ef tn wt qn eg nx lf w)) (wS a cB cI cL h1 h2 s1 s2 op nx wt sf lf dn dg un ug qn qt qg tn tk tv ts ef eg ex eF pf pg px pF)) 0 0 A := by
  refine x_ofWi (cc := cX5_count) (maxL := 2) (by decide) rfl (Nat.le_of_ble_eq_true rfl) ?_
  intro p e s m args below meth c Q hx hb hml hts hown hK hN hP hD hS hret ls hl
  have hl : lv_has ls 2 [(0, .ref (a 0)), (1, .int (nI w))] := hl
  have hown : s.vm.findClass RX5 = some m.cls := hown
  have f49 := hts _ (List.mem_cons_of_mem _ tw_213)
  have in_X5 := (fun q hq => List.mem_cons_of_mem _ (inX5 q hq) : ∀ q ∈ wsX50, q ∈ (Cond.code yX5_count cX5_count 2 (some .int) :: TB))
  refine lv_iload_n hx hb dX5_count_0 rfl (lv_at hl 1 rfl) ?_
  refine x_if_lt (tgt := 10) hx hb dX5_count_1 (by decide) (by omega) ?_
  refine lv_iload_n hx hb dX5_count_4 rfl (lv_at hl 1 rfl) ?_
  refine lv_bipush (v := nI 10) hx hb dX5_count_5 (by decide) ?_
  refine x_icmp_le (tgt := 12) hx hb dX5_count_7 (by decide) (by omega) (by omega) (fun c7 => ?_) (fun c7 => ?_)
  · refine lv_iload_n hx hb dX5_count_12 rfl (lv_at hl 1 rfl) ?_
    refine x_if_ne (tgt := 24) hx hb dX5_count_13 (by decide) (by omega) (fun c13 => ?_) (fun c13 => ?_)
    · refine lv_aload_n hx hb dX5_count_24 rfl (lv_at hl 0 rfl) ?_
      refine va_get (D := (dC, dI)) (ci := 5) (v := .int (bI op)) (C := RX5) (T := TX5) (N := 11) hx hb hts in_X5 hown hK hP 0 rfl rfl 6 (by decide) f49 (fun _ h9 => h9) rfl dX5_count_25 ?_
      refine x_if_eq_b (tgt := 39) hx hb dX5_count_28 (by decide) (fun c28 => ?_) (fun c28 => ?_)
      · exact absurd (ho.symm.trans c28) (by decide)
      · refine lv_aload_n hx hb dX5_count_31 rfl (lv_at hl 0 rfl) ?_
        refine lv_iload_n hx hb dX5_count_32 rfl (lv_at hl 1 rfl) ?_
        refine x_calli (va_runV (As := [.int (nI w)]) (rest := []) ⟨hx, hb, hml, hown, hts⟩ (c_SL_countOpen (by omega) hug w (by omega)) (cwV 1 hts (tbV tw_579 tw_581 tw_58 tw_84 tw_582) rfl rfl rfl (by decide +kernel) ⟨Nat.le_of_ble_eq_true rfl, Nat.le_of_ble_eq_true rfl⟩) ⟨x_blind, va_recv hK hP (ci := 5) (q0 := 0) rfl rfl, x_pre hK hP hD hN⟩ rfl rfl hl.1 rfl (lv_room (Nat.le_of_ble_eq_true rfl)) dX5_count_33 ⟨Nat.zero_le _, Nat.zero_le _⟩) hS (fun H locs hP hD hS => ?_)
        have hP : va_P (dC, dI) vwCl (wS a cB cI cL h1 h2 s1 s2 op nx wt sf lf dn dg un ug qn qt qg tn tk tv ts ef eg ex eF pf pg px pF) H := hP
        have hD : va_D A (wS a cB cI cL h1 h2 s1 s2 op nx wt sf lf dn dg un ug qn qt qg tn tk tv ts ef eg ex eF pf pg px pF) := hD
        refine lv_goto (tgt := 40) hx hb dX5_count_36 (by decide) ?_
        exact hret dX5_count_40 (by rfl) hP hD hS
    · exact absurd c13 hw0
  · exact absurd c7 (by omega)
