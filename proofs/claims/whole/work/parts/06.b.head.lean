set_option maxHeartbeats 4000000 in
set_option maxRecDepth 100000 in
theorem c_He_fieldAt {l : Launch} {dC : Nat → ClassId} {dI : Nat → Nat → Nat} {A : Nat → Prop} {tys : List (ClassId × FieldType)} {ws : va_W} (i w : Nat) : Met l yX1_fieldAt (Cond.code yX1_fieldAt cX1_fieldAt 2 (some .int) :: TB) { frames := 0, cells := 0, slots := 0, locals := 0 } (xPre Nst (dC, dI) A tys (ws) [.int (nI i), .int (nI w)]) (xQi (dC, dI) A (nI (8 + 2 * (i * 4 + w))) (ws)) 0 0 A := by
  refine x_ofWi (cc := cX1_fieldAt) (maxL := 2) (by decide) rfl (Nat.le_of_ble_eq_true rfl) ?_
  intro p e s m args below meth c Q hx hb hml hts hown hK hN hP hD hS hret ls hl
  have hl : lv_has ls 2 [(0, .int (nI i)), (1, .int (nI w))] := hl
  have hown : s.vm.findClass RX1 = some m.cls := hown
  refine lv_bipush (v := nI 8) hx hb dX1_fieldAt_0 (by decide) ?_
  refine lv_iconst (v := nI 2) hx hb dX1_fieldAt_2 (by decide) ?_
  refine lv_iload_n hx hb dX1_fieldAt_3 rfl (lv_at hl 0 rfl) ?_
  refine lv_iconst (v := nI 4) hx hb dX1_fieldAt_4 (by decide) ?_
  refine x_imul hx hb dX1_fieldAt_5 ?_
  refine lv_iload_n hx hb dX1_fieldAt_6 rfl (lv_at hl 1 rfl) ?_
  refine x_iadd hx hb dX1_fieldAt_7 ?_
  refine x_imul hx hb dX1_fieldAt_8 ?_
  refine x_iadd hx hb dX1_fieldAt_9 ?_
  exact hret dX1_fieldAt_10 (by rfl) hP hD hS

set_option maxHeartbeats 4000000 in
set_option maxRecDepth 100000 in
theorem c_He_inRange {l : Launch} {dC : Nat → ClassId} {dI : Nat → Nat → Nat} {A : Nat → Prop} {tys : List (ClassId × FieldType)} {ws : va_W} (v : Nat) (hv : v < 2 ^ 64) : Met l yX1_inRange (Cond.code yX1_inRange cX1_inRange 2 (some .boolean) :: TB) { frames := 0, cells := 0, slots := 0, locals := 0 } (xPre Nst (dC, dI) A tys (ws) [.long (lN v)]) (xQi (dC, dI) A (bI (decide (1 ≤ v ∧ v ≤ 1000000000))) (ws)) 0 0 A := by
  refine x_ofWz (cc := cX1_inRange) (maxL := 2) (by decide) rfl (Nat.le_of_ble_eq_true rfl) (x_narZ _) ?_
  intro p e s m args below meth c Q hx hb hml hts hown hK hN hP hD hS hret ls hl
  have hl : lv_has ls 2 [(0, .long (lN v))] := hl
  have hown : s.vm.findClass RX1 = some m.cls := hown
  refine lv_lload_n hx hb dX1_inRange_0 rfl (lv_at hl 0 rfl) ?_
  refine lv_lconst (v := lN 1) hx hb dX1_inRange_1 rfl ?_
  refine W.lcmp hx hb dX1_inRange_2 ?_
  refine x_lif_lt (tgt := 18) hx hb dX1_inRange_3 (by decide) (fun c3 => ?_) (fun c3 => ?_)
  · refine lv_iconst (v := nI 0) hx hb dX1_inRange_18 (by decide) ?_
    exact hret dX1_inRange_19 (by first | exact inr_t hv c3 c11 | exact inr_f hv (by first | exact Or.inl c3 | exact Or.inr c11)) hP hD hS
  · refine lv_lload_n hx hb dX1_inRange_6 rfl (lv_at hl 0 rfl) ?_
    refine lv_ldc2 (v := lN 1000000000) hx hb hown (hts _ (List.mem_cons_of_mem _ tw_459)) dX1_inRange_7 ?_
    refine W.lcmp hx hb dX1_inRange_10 ?_
    refine x_lif_gt (tgt := 18) hx hb dX1_inRange_11 (by decide) (fun c11 => ?_) (fun c11 => ?_)
    · refine lv_iconst (v := nI 0) hx hb dX1_inRange_18 (by decide) ?_
      exact hret dX1_inRange_19 (by first | exact inr_t hv c3 c11 | exact inr_f hv (by first | exact Or.inl c3 | exact Or.inr c11)) hP hD hS
    · refine lv_iconst (v := nI 1) hx hb dX1_inRange_14 (by decide) ?_
      refine lv_goto (tgt := 19) hx hb dX1_inRange_15 (by decide) ?_
      exact hret dX1_inRange_19 (by first | exact inr_t hv c3 c11 | exact inr_f hv (by first | exact Or.inl c3 | exact Or.inr c11)) hP hD hS

set_option maxHeartbeats 4000000 in
set_option maxRecDepth 100000 in
theorem c_SL_blocksFor {l : Launch} {dC : Nat → ClassId} {dI : Nat → Nat → Nat} {A : Nat → Prop} {tys : List (ClassId × FieldType)} {ws : va_W} (r : Nat) (hr1 : r < 2 ^ 30) : Met l yX5_blocksFor (Cond.code yX5_blocksFor cX5_blocksFor 1 (some .int) :: TB) { frames := 0, cells := 0, slots := 0, locals := 0 } (xPre Nst (dC, dI) A tys (ws) [.int (nI r)]) (xQi (dC, dI) A (nI ((r + 2) / 3)) (ws)) 0 0 A := by
  refine x_ofWi (cc := cX5_blocksFor) (maxL := 1) (by decide) rfl (Nat.le_of_ble_eq_true rfl) ?_
  intro p e s m args below meth c Q hx hb hml hts hown hK hN hP hD hS hret ls hl
  have hl : lv_has ls 1 [(0, .int (nI r))] := hl
  have hown : s.vm.findClass RX5 = some m.cls := hown
  refine lv_iload_n hx hb dX5_blocksFor_0 rfl (lv_at hl 0 rfl) ?_
  refine lv_iconst (v := nI 3) hx hb dX5_blocksFor_1 (by decide) ?_
  refine x_iadd hx hb dX5_blocksFor_2 ?_
  refine lv_iconst (v := nI 1) hx hb dX5_blocksFor_3 (by decide) ?_
  refine x_isub hx hb dX5_blocksFor_4 (by omega) ?_
  refine lv_iconst (v := nI 3) hx hb dX5_blocksFor_5 (by decide) ?_
  refine x_idiv hx hb dX5_blocksFor_6 (by omega) (by omega) (by omega) ?_
  exact hret dX5_blocksFor_7 (by rfl) hP hD hS

set_option maxHeartbeats 4000000 in
set_option maxRecDepth 100000 in
theorem c_SL_recordsAt {l : Launch} {dC : Nat → ClassId} {dI : Nat → Nat → Nat} {A : Nat → Prop} {tys : List (ClassId × FieldType)} {ws : va_W} (p1 r : Nat) (hp1 : p1 * 3 ≤ r) (hr1 : r < 2 ^ 30) : Met l yX5_recordsAt (Cond.code yX5_recordsAt cX5_recordsAt 2 (some .int) :: TB) { frames := 1, cells := 0, slots := 0, locals := 21 } (xPre Nst (dC, dI) A tys (ws) [.int (nI p1), .int (nI r)]) (xQi (dC, dI) A (nI (min 3 (r - p1 * 3))) (ws)) 0 0 A := by
  refine x_ofWi (cc := cX5_recordsAt) (maxL := 2) (by decide) rfl (Nat.le_of_ble_eq_true rfl) ?_
  intro p e s m args below meth c Q hx hb hml hts hown hK hN hP hD hS hret ls hl
  have hl : lv_has ls 2 [(0, .int (nI p1)), (1, .int (nI r))] := hl
  have hown : s.vm.findClass RX5 = some m.cls := hown
  have m200a := hts _ (List.mem_cons_of_mem _ tw_401)
  have mminb := hts _ (List.mem_cons_of_mem _ tw_126)
  have mMath := hts _ (List.mem_cons_of_mem _ tw_87)
  have mminc := hts _ (List.mem_cons_of_mem _ tw_127)
  refine lv_iconst (v := nI 3) hx hb dX5_recordsAt_0 (by decide) ?_
  refine lv_iload_n hx hb dX5_recordsAt_1 rfl (lv_at hl 1 rfl) ?_
  refine lv_iload_n hx hb dX5_recordsAt_2 rfl (lv_at hl 0 rfl) ?_
  refine lv_iconst (v := nI 3) hx hb dX5_recordsAt_3 (by decide) ?_
  refine x_imul hx hb dX5_recordsAt_4 ?_
  refine x_isub hx hb dX5_recordsAt_5 (by omega) ?_
  refine x_mmin hx hb (by rw [hml]; exact hl.1.symm) hown m200a mminb mMath mminc (by decide) (Nat.le_of_ble_eq_true rfl) (by decide) (by decide) (by omega) (by omega) dX5_recordsAt_6 ?_
  exact hret dX5_recordsAt_9 (by rfl) hP hD hS

set_option maxHeartbeats 4000000 in
set_option maxRecDepth 100000 in
theorem c_He_clear {l : Launch} {dC : Nat → ClassId} {dI : Nat → Nat → Nat} {A : Nat → Prop} {tys : List (ClassId × FieldType)} {Wh : Nat → Nat → Nat → (Nat → Nat) → va_W} {k0 k1 t1 a0 a1 : Nat} {cI : ClassId} (hW : okH Wh k0 k1 a0 a1 cI) (ht : tys[t1]? = some (cI, .int)) (f g x : Nat) (F : Nat → Nat) : Met l yX1_clear (Cond.code yX1_clear cX1_clear 1 none :: TB) { frames := 0, cells := 0, slots := 0, locals := 0 } (xPre Nst (dC, dI) A tys (Wh f g x F) [.ref a0]) (xQv (dC, dI) A (Wh 0 0 1 F)) 0 0 A := by
  refine x_ofWv (cc := cX1_clear) (maxL := 1) (by decide) rfl (Nat.le_of_ble_eq_true rfl) ?_
  intro p e s m args below meth c Q hx hb hml hts hown hK hN hP hD hS hret ls hl
  have hl : lv_has ls 1 [(0, .ref a0)] := hl
  have hown : s.vm.findClass RX1 = some m.cls := hown
  have f18 := hts _ (List.mem_cons_of_mem _ tw_192)
  have in_X1 := (fun q hq => List.mem_cons_of_mem _ (inX1 q hq) : ∀ q ∈ wsX10, q ∈ (Cond.code yX1_clear cX1_clear 1 none :: TB))
  have f22 := hts _ (List.mem_cons_of_mem _ tw_194)
  have f25 := hts _ (List.mem_cons_of_mem _ tw_196)
  refine lv_aload_n hx hb dX1_clear_0 rfl (lv_at hl 0 rfl) ?_
  refine lv_iconst (v := nI 0) hx hb dX1_clear_1 (by decide) ?_
  refine va_put (D := (dC, dI)) (ci := 1) (v := .int (nI 0)) (ty := .int) (C := RX1) (T := TX1) (N := 4) hx hb hts in_X1 tyX1 tyX1_ok nmX1 hown hK hP hD hS k0 (hW.1 _ _ _ _) rfl 1 (by decide) f18 (fun _ h9 => h9) rfl (by decide +kernel) rfl rfl (Nat.le_of_ble_eq_true rfl) dX1_clear_2 (fun H locs hP hD hS => ?_)
  have hP := x_wP (hW.2.2.1 _ _ _ _ 0 g x) hP
  have hD := x_wD (hW.2.2.1 _ _ _ _ 0 g x) hD
  have hP : va_P (dC, dI) vwCl (Wh 0 g x F) H := hP
  have hD : va_D A (Wh 0 g x F) := hD
  refine lv_aload_n hx hb dX1_clear_5 rfl (lv_at hl 0 rfl) ?_
  refine lv_iconst (v := nI 0) hx hb dX1_clear_6 (by decide) ?_
  refine va_put (D := (dC, dI)) (ci := 1) (v := .int (nI 0)) (ty := .int) (C := RX1) (T := TX1) (N := 4) hx hb hts in_X1 tyX1 tyX1_ok nmX1 hown hK hP hD hS k0 (hW.1 _ _ _ _) rfl 2 (by decide) f22 (fun _ h9 => h9) rfl (by decide +kernel) rfl rfl (Nat.le_of_ble_eq_true rfl) dX1_clear_7 (fun H locs hP hD hS => ?_)
  have hP := x_wP (hW.2.2.1 _ _ _ _ 0 0 x) hP
  have hD := x_wD (hW.2.2.1 _ _ _ _ 0 0 x) hD
  have hP : va_P (dC, dI) vwCl (Wh 0 0 x F) H := hP
  have hD : va_D A (Wh 0 0 x F) := hD
  refine lv_aload_n hx hb dX1_clear_10 rfl (lv_at hl 0 rfl) ?_
  refine lv_iconst (v := nI 1) hx hb dX1_clear_11 (by decide) ?_
  refine va_put (D := (dC, dI)) (ci := 1) (v := .int (nI 1)) (ty := .int) (C := RX1) (T := TX1) (N := 4) hx hb hts in_X1 tyX1 tyX1_ok nmX1 hown hK hP hD hS k0 (hW.1 _ _ _ _) rfl 3 (by decide) f25 (fun _ h9 => h9) rfl (by decide +kernel) rfl rfl (Nat.le_of_ble_eq_true rfl) dX1_clear_12 (fun H locs hP hD hS => ?_)
  have hP := x_wP (hW.2.2.1 _ _ _ _ 0 0 1) hP
  have hD := x_wD (hW.2.2.1 _ _ _ _ 0 0 1) hD
  have hP : va_P (dC, dI) vwCl (Wh 0 0 1 F) H := hP
  have hD : va_D A (Wh 0 0 1 F) := hD
  exact hret dX1_clear_15 hP hD hS

set_option maxHeartbeats 4000000 in
set_option maxRecDepth 100000 in
theorem c_He_field {l : Launch} {dC : Nat → ClassId} {dI : Nat → Nat → Nat} {A : Nat → Prop} {tys : List (ClassId × FieldType)} {Wh : Nat → Nat → Nat → (Nat → Nat) → va_W} {k0 k1 t1 a0 a1 : Nat} {cI : ClassId} (hW : okH Wh k0 k1 a0 a1 cI) (ht : tys[t1]? = some (cI, .int)) (f g x : Nat) (F : Nat → Nat) (i w : Nat) (hf1 : f < 2 ^ 31) (hi1 : i < 2 ^ 31) (hw1 : w < 2 ^ 31) : Met l yX1_field (Cond.code yX1_field cX1_field 4 (some .int) :: TB) { frames := 0, cells := 0, slots := 0, locals := 0 } (xPre Nst (dC, dI) A tys (Wh f g x F) [.ref a0, .int (nI i), .int (nI w)]) (xQi (dC, dI) A (nI (hfl f F i w)) (Wh f g x F)) 0 0 A := by
  refine x_ofWi (cc := cX1_field) (maxL := 4) (by decide) rfl (Nat.le_of_ble_eq_true rfl) ?_
  intro p e s m args below meth c Q hx hb hml hts hown hK hN hP hD hS hret ls hl
  have hl : lv_has ls 4 [(0, .ref a0), (1, .int (nI i)), (2, .int (nI w))] := hl
  have hown : s.vm.findClass RX1 = some m.cls := hown
  have f18 := hts _ (List.mem_cons_of_mem _ tw_192)
  have in_X1 := (fun q hq => List.mem_cons_of_mem _ (inX1 q hq) : ∀ q ∈ wsX10, q ∈ (Cond.code yX1_field cX1_field 4 (some .int) :: TB))
  have f9 := hts _ (List.mem_cons_of_mem _ tw_191)
  refine lv_iload_n hx hb dX1_field_0 rfl (lv_at hl 1 rfl) ?_
  refine x_if_lt (tgt := 30) hx hb dX1_field_1 (by decide) (by omega) ?_
  refine lv_iload_n hx hb dX1_field_4 rfl (lv_at hl 1 rfl) ?_
  refine lv_aload_n hx hb dX1_field_5 rfl (lv_at hl 0 rfl) ?_
  refine va_get (D := (dC, dI)) (ci := 1) (v := .int (nI f)) (C := RX1) (T := TX1) (N := 4) hx hb hts in_X1 hown hK hP k0 (hW.1 _ _ _ _) rfl 1 (by decide) f18 (fun _ h9 => h9) rfl dX1_field_6 ?_
  refine x_icmp_ge (tgt := 30) hx hb dX1_field_9 (by decide) (by omega) (by omega) (fun c9 => ?_) (fun c9 => ?_)
  · refine lv_iconst (v := nI 0) hx hb dX1_field_30 (by decide) ?_
    refine lv_istore_n (lv' := [(3, .int (nI 0)), (0, .ref a0), (1, .int (nI i)), (2, .int (nI w))]) hx hb dX1_field_31 rfl hl (by decide) rfl (fun ls hl => ?_)
    refine lv_iload_n hx hb dX1_field_32 rfl (lv_at hl 0 rfl) ?_
    refine x_if_eq (tgt := 49) hx hb dX1_field_33 (by decide) (by decide) (fun c33 => ?_) (fun c33 => absurd c33 (by decide))
    refine lv_iconst (v := nI 0) hx hb dX1_field_49 (by decide) ?_
    exact hret dX1_field_50 (by first | (have hh : i < f ∧ i < 5 ∧ w < 4 := (by omega); rw [hfl, if_pos hh]) | (have hh : ¬ (i < f ∧ i < 5 ∧ w < 4) := (by omega); rw [hfl, if_neg hh])) hP hD hS
  · refine lv_iload_n hx hb dX1_field_12 rfl (lv_at hl 1 rfl) ?_
    refine lv_iconst (v := nI 5) hx hb dX1_field_13 (by decide) ?_
    refine x_icmp_ge (tgt := 30) hx hb dX1_field_14 (by decide) (by omega) (by omega) (fun c14 => ?_) (fun c14 => ?_)
    · refine lv_iconst (v := nI 0) hx hb dX1_field_30 (by decide) ?_
      refine lv_istore_n (lv' := [(3, .int (nI 0)), (0, .ref a0), (1, .int (nI i)), (2, .int (nI w))]) hx hb dX1_field_31 rfl hl (by decide) rfl (fun ls hl => ?_)
      refine lv_iload_n hx hb dX1_field_32 rfl (lv_at hl 0 rfl) ?_
      refine x_if_eq (tgt := 49) hx hb dX1_field_33 (by decide) (by decide) (fun c33 => ?_) (fun c33 => absurd c33 (by decide))
      refine lv_iconst (v := nI 0) hx hb dX1_field_49 (by decide) ?_
      exact hret dX1_field_50 (by first | (have hh : i < f ∧ i < 5 ∧ w < 4 := (by omega); rw [hfl, if_pos hh]) | (have hh : ¬ (i < f ∧ i < 5 ∧ w < 4) := (by omega); rw [hfl, if_neg hh])) hP hD hS
    · refine lv_iload_n hx hb dX1_field_17 rfl (lv_at hl 2 rfl) ?_
      refine x_if_lt (tgt := 30) hx hb dX1_field_18 (by decide) (by omega) ?_
      refine lv_iload_n hx hb dX1_field_21 rfl (lv_at hl 2 rfl) ?_
      refine lv_iconst (v := nI 4) hx hb dX1_field_22 (by decide) ?_
      refine x_icmp_ge (tgt := 30) hx hb dX1_field_23 (by decide) (by omega) (by omega) (fun c23 => ?_) (fun c23 => ?_)
      · refine lv_iconst (v := nI 0) hx hb dX1_field_30 (by decide) ?_
        refine lv_istore_n (lv' := [(3, .int (nI 0)), (0, .ref a0), (1, .int (nI i)), (2, .int (nI w))]) hx hb dX1_field_31 rfl hl (by decide) rfl (fun ls hl => ?_)
        refine lv_iload_n hx hb dX1_field_32 rfl (lv_at hl 0 rfl) ?_
        refine x_if_eq (tgt := 49) hx hb dX1_field_33 (by decide) (by decide) (fun c33 => ?_) (fun c33 => absurd c33 (by decide))
        refine lv_iconst (v := nI 0) hx hb dX1_field_49 (by decide) ?_
        exact hret dX1_field_50 (by first | (have hh : i < f ∧ i < 5 ∧ w < 4 := (by omega); rw [hfl, if_pos hh]) | (have hh : ¬ (i < f ∧ i < 5 ∧ w < 4) := (by omega); rw [hfl, if_neg hh])) hP hD hS
      · refine lv_iconst (v := nI 1) hx hb dX1_field_26 (by decide) ?_
        refine lv_goto (tgt := 31) hx hb dX1_field_27 (by decide) ?_
        refine lv_istore_n (lv' := [(3, .int (nI 1)), (0, .ref a0), (1, .int (nI i)), (2, .int (nI w))]) hx hb dX1_field_31 rfl hl (by decide) rfl (fun ls hl => ?_)
        refine lv_iload_n hx hb dX1_field_32 rfl (lv_at hl 0 rfl) ?_
        refine x_if_eq (tgt := 49) hx hb dX1_field_33 (by decide) (by decide) (fun c33 => absurd c33 (by decide)) (fun c33 => ?_)
        refine lv_aload_n hx hb dX1_field_36 rfl (lv_at hl 1 rfl) ?_
        refine va_get (D := (dC, dI)) (ci := 1) (v := .ref a1) (C := RX1) (T := TX1) (N := 4) hx hb hts in_X1 hown hK hP k0 (hW.1 _ _ _ _) rfl 0 (by decide) f9 (fun _ h9 => h9) rfl dX1_field_37 ?_
        refine lv_iload_n hx hb dX1_field_40 rfl (lv_at hl 2 rfl) ?_
        refine lv_iconst (v := nI 4) hx hb dX1_field_41 (by decide) ?_
        refine x_imul hx hb dX1_field_42 ?_
        refine lv_iload_n hx hb dX1_field_43 rfl (lv_at hl 3 rfl) ?_
        refine x_iadd hx hb dX1_field_44 ?_
        refine x_iald hx hb hK hP k1 t1 (hW.2.1 _ _ _ _) ht (by omega) (by decide) dX1_field_45 ?_
        refine lv_goto (tgt := 50) hx hb dX1_field_46 (by decide) ?_
        exact hret dX1_field_50 (by first | (have hh : i < f ∧ i < 5 ∧ w < 4 := (by omega); rw [hfl, if_pos hh]) | (have hh : ¬ (i < f ∧ i < 5 ∧ w < 4) := (by omega); rw [hfl, if_neg hh])) hP hD hS

set_option maxHeartbeats 4000000 in
set_option maxRecDepth 100000 in
theorem c_He_append {l : Launch} {dC : Nat → ClassId} {dI : Nat → Nat → Nat} {A : Nat → Prop} {tys : List (ClassId × FieldType)} {Wh : Nat → Nat → Nat → (Nat → Nat) → va_W} {k0 k1 t1 a0 a1 : Nat} {cI : ClassId} (hW : okH Wh k0 k1 a0 a1 cI) (ht : tys[t1]? = some (cI, .int)) (f g x : Nat) (F : Nat → Nat) (z1 z2 z3 z4 : Nat) (hf1 : f < 5) : Met l yX1_append (Cond.code yX1_append cX1_append 6 none :: TB) { frames := 0, cells := 0, slots := 0, locals := 0 } (xPre Nst (dC, dI) A tys (Wh f g x F) [.ref a0, .int (nI z1), .int (nI z2), .int (nI z3), .int (nI z4)]) (xQv (dC, dI) A (Wh (f + 1) g x (hap f F z1 z2 z3 z4))) 0 0 A := by
  refine x_ofWv (cc := cX1_append) (maxL := 6) (by decide) rfl (Nat.le_of_ble_eq_true rfl) ?_
  intro p e s m args below meth c Q hx hb hml hts hown hK hN hP hD hS hret ls hl
  have hl : lv_has ls 6 [(0, .ref a0), (1, .int (nI z1)), (2, .int (nI z2)), (3, .int (nI z3)), (4, .int (nI z4))] := hl
  have hown : s.vm.findClass RX1 = some m.cls := hown
  have f18 := hts _ (List.mem_cons_of_mem _ tw_192)
  have in_X1 := (fun q hq => List.mem_cons_of_mem _ (inX1 q hq) : ∀ q ∈ wsX10, q ∈ (Cond.code yX1_append cX1_append 6 none :: TB))
  have f9 := hts _ (List.mem_cons_of_mem _ tw_191)
  refine lv_aload_n hx hb dX1_append_0 rfl (lv_at hl 0 rfl) ?_
  refine va_get (D := (dC, dI)) (ci := 1) (v := .int (nI f)) (C := RX1) (T := TX1) (N := 4) hx hb hts in_X1 hown hK hP k0 (hW.1 _ _ _ _) rfl 1 (by decide) f18 (fun _ h9 => h9) rfl dX1_append_1 ?_
  refine lv_iconst (v := nI 5) hx hb dX1_append_4 (by decide) ?_
  refine x_icmp_lt (tgt := 9) hx hb dX1_append_5 (by decide) (by omega) (by omega) (fun c5 => ?_) (fun c5 => ?_)
  · refine lv_aload_n hx hb dX1_append_9 rfl (lv_at hl 0 rfl) ?_
    refine va_get (D := (dC, dI)) (ci := 1) (v := .int (nI f)) (C := RX1) (T := TX1) (N := 4) hx hb hts in_X1 hown hK hP k0 (hW.1 _ _ _ _) rfl 1 (by decide) f18 (fun _ h9 => h9) rfl dX1_append_10 ?_
    refine lv_iconst (v := nI 4) hx hb dX1_append_13 (by decide) ?_
    refine x_imul hx hb dX1_append_14 ?_
    refine lv_istore (lv' := [(5, .int (nI (f * 4))), (0, .ref a0), (1, .int (nI z1)), (2, .int (nI z2)), (3, .int (nI z3)), (4, .int (nI z4))]) hx hb dX1_append_15 hl (by decide) rfl (fun ls hl => ?_)
    refine lv_aload_n hx hb dX1_append_17 rfl (lv_at hl 1 rfl) ?_
    refine va_get (D := (dC, dI)) (ci := 1) (v := .ref a1) (C := RX1) (T := TX1) (N := 4) hx hb hts in_X1 hown hK hP k0 (hW.1 _ _ _ _) rfl 0 (by decide) f9 (fun _ h9 => h9) rfl dX1_append_18 ?_
    refine lv_iload hx hb dX1_append_21 (lv_at hl 0 rfl) ?_
    refine lv_iconst (v := nI 0) hx hb dX1_append_23 (by decide) ?_
    refine x_iadd hx hb dX1_append_24 ?_
    refine lv_iload_n hx hb dX1_append_25 rfl (lv_at hl 2 rfl) ?_
    refine x_iast hx hb hK hP hD hS k1 t1 (hW.2.1 _ _ _ _) ht (by omega) (by decide) dX1_append_26 (fun H locs hP hD hS => ?_)
    have hP := x_wP (hW.2.2.2 _ _ _ _ (va_up F ((f * 4) + 0) z1)) hP
    have hD := x_wD (hW.2.2.2 _ _ _ _ (va_up F ((f * 4) + 0) z1)) hD
    have hP : va_P (dC, dI) vwCl (Wh f g x (va_up F ((f * 4) + 0) z1)) H := hP
    have hD : va_D A (Wh f g x (va_up F ((f * 4) + 0) z1)) := hD
    refine lv_aload_n hx hb dX1_append_27 rfl (lv_at hl 1 rfl) ?_
    refine va_get (D := (dC, dI)) (ci := 1) (v := .ref a1) (C := RX1) (T := TX1) (N := 4) hx hb hts in_X1 hown hK hP k0 (hW.1 _ _ _ _) rfl 0 (by decide) f9 (fun _ h9 => h9) rfl dX1_append_28 ?_
    refine lv_iload hx hb dX1_append_31 (lv_at hl 0 rfl) ?_
    refine lv_iconst (v := nI 1) hx hb dX1_append_33 (by decide) ?_
    refine x_iadd hx hb dX1_append_34 ?_
    refine lv_iload_n hx hb dX1_append_35 rfl (lv_at hl 3 rfl) ?_
    refine x_iast hx hb hK hP hD hS k1 t1 (hW.2.1 _ _ _ _) ht (by omega) (by decide) dX1_append_36 (fun H locs hP hD hS => ?_)
    have hP := x_wP (hW.2.2.2 _ _ _ _ (va_up (va_up F ((f * 4) + 0) z1) ((f * 4) + 1) z2)) hP
    have hD := x_wD (hW.2.2.2 _ _ _ _ (va_up (va_up F ((f * 4) + 0) z1) ((f * 4) + 1) z2)) hD
    have hP : va_P (dC, dI) vwCl (Wh f g x (va_up (va_up F ((f * 4) + 0) z1) ((f * 4) + 1) z2)) H := hP
    have hD : va_D A (Wh f g x (va_up (va_up F ((f * 4) + 0) z1) ((f * 4) + 1) z2)) := hD
    refine lv_aload_n hx hb dX1_append_37 rfl (lv_at hl 1 rfl) ?_
    refine va_get (D := (dC, dI)) (ci := 1) (v := .ref a1) (C := RX1) (T := TX1) (N := 4) hx hb hts in_X1 hown hK hP k0 (hW.1 _ _ _ _) rfl 0 (by decide) f9 (fun _ h9 => h9) rfl dX1_append_38 ?_
    refine lv_iload hx hb dX1_append_41 (lv_at hl 0 rfl) ?_
    refine lv_iconst (v := nI 2) hx hb dX1_append_43 (by decide) ?_
    refine x_iadd hx hb dX1_append_44 ?_
    refine lv_iload_n hx hb dX1_append_45 rfl (lv_at hl 4 rfl) ?_
    refine x_iast hx hb hK hP hD hS k1 t1 (hW.2.1 _ _ _ _) ht (by omega) (by decide) dX1_append_46 (fun H locs hP hD hS => ?_)
    have hP := x_wP (hW.2.2.2 _ _ _ _ (va_up (va_up (va_up F ((f * 4) + 0) z1) ((f * 4) + 1) z2) ((f * 4) + 2) z3)) hP
    have hD := x_wD (hW.2.2.2 _ _ _ _ (va_up (va_up (va_up F ((f * 4) + 0) z1) ((f * 4) + 1) z2) ((f * 4) + 2) z3)) hD
    have hP : va_P (dC, dI) vwCl (Wh f g x (va_up (va_up (va_up F ((f * 4) + 0) z1) ((f * 4) + 1) z2) ((f * 4) + 2) z3)) H := hP
    have hD : va_D A (Wh f g x (va_up (va_up (va_up F ((f * 4) + 0) z1) ((f * 4) + 1) z2) ((f * 4) + 2) z3)) := hD
    refine lv_aload_n hx hb dX1_append_47 rfl (lv_at hl 1 rfl) ?_
    refine va_get (D := (dC, dI)) (ci := 1) (v := .ref a1) (C := RX1) (T := TX1) (N := 4) hx hb hts in_X1 hown hK hP k0 (hW.1 _ _ _ _) rfl 0 (by decide) f9 (fun _ h9 => h9) rfl dX1_append_48 ?_
    refine lv_iload hx hb dX1_append_51 (lv_at hl 0 rfl) ?_
    refine lv_iconst (v := nI 3) hx hb dX1_append_53 (by decide) ?_
    refine x_iadd hx hb dX1_append_54 ?_
    refine lv_iload hx hb dX1_append_55 (lv_at hl 5 rfl) ?_
    refine x_iast hx hb hK hP hD hS k1 t1 (hW.2.1 _ _ _ _) ht (by omega) (by decide) dX1_append_57 (fun H locs hP hD hS => ?_)
    have hP := x_wP (hW.2.2.2 _ _ _ _ (va_up (va_up (va_up (va_up F ((f * 4) + 0) z1) ((f * 4) + 1) z2) ((f * 4) + 2) z3) ((f * 4) + 3) z4)) hP
    have hD := x_wD (hW.2.2.2 _ _ _ _ (va_up (va_up (va_up (va_up F ((f * 4) + 0) z1) ((f * 4) + 1) z2) ((f * 4) + 2) z3) ((f * 4) + 3) z4)) hD
    have hP : va_P (dC, dI) vwCl (Wh f g x (va_up (va_up (va_up (va_up F ((f * 4) + 0) z1) ((f * 4) + 1) z2) ((f * 4) + 2) z3) ((f * 4) + 3) z4)) H := hP
    have hD : va_D A (Wh f g x (va_up (va_up (va_up (va_up F ((f * 4) + 0) z1) ((f * 4) + 1) z2) ((f * 4) + 2) z3) ((f * 4) + 3) z4)) := hD
    refine lv_aload_n hx hb dX1_append_58 rfl (lv_at hl 1 rfl) ?_
    refine lv_dup hx hb dX1_append_59 rfl ?_
    refine va_get (D := (dC, dI)) (ci := 1) (v := .int (nI f)) (C := RX1) (T := TX1) (N := 4) hx hb hts in_X1 hown hK hP k0 (hW.1 _ _ _ _) rfl 1 (by decide) f18 (fun _ h9 => h9) rfl dX1_append_60 ?_
    refine lv_iconst (v := nI 1) hx hb dX1_append_63 (by decide) ?_
    refine x_iadd hx hb dX1_append_64 ?_
    refine va_put (D := (dC, dI)) (ci := 1) (v := .int (nI (f + 1))) (ty := .int) (C := RX1) (T := TX1) (N := 4) hx hb hts in_X1 tyX1 tyX1_ok nmX1 hown hK hP hD hS k0 (hW.1 _ _ _ _) rfl 1 (by decide) f18 (fun _ h9 => h9) rfl (by decide +kernel) rfl rfl (Nat.le_of_ble_eq_true rfl) dX1_append_65 (fun H locs hP hD hS => ?_)
    have hP := x_wP (hW.2.2.1 _ _ _ _ (f + 1) g x) hP
    have hD := x_wD (hW.2.2.1 _ _ _ _ (f + 1) g x) hD
    have hP : va_P (dC, dI) vwCl (Wh (f + 1) g x (va_up (va_up (va_up (va_up F ((f * 4) + 0) z1) ((f * 4) + 1) z2) ((f * 4) + 2) z3) ((f * 4) + 3) z4)) H := hP
    have hD : va_D A (Wh (f + 1) g x (va_up (va_up (va_up (va_up F ((f * 4) + 0) z1) ((f * 4) + 1) z2) ((f * 4) + 2) z3) ((f * 4) + 3) z4)) := hD
    have e1 : (va_up (va_up (va_up (va_up F ((f * 4) + 0) z1) ((f * 4) + 1) z2) ((f * 4) + 2) z3) ((f * 4) + 3) z4) = (hap f F z1 z2 z3 z4) := by rfl
    have h9 : Wh (f + 1) g x (va_up (va_up (va_up (va_up F ((f * 4) + 0) z1) ((f * 4) + 1) z2) ((f * 4) + 2) z3) ((f * 4) + 3) z4) = Wh (f + 1) g x (hap f F z1 z2 z3 z4) := by rw [e1]
    have hP := x_wP h9 hP
    have hD := x_wD h9 hD
    exact hret dX1_append_68 hP hD hS
  · exact absurd c5 (by omega)

set_option maxHeartbeats 4000000 in
set_option maxRecDepth 100000 in
theorem c_He_overlaps {l : Launch} {dC : Nat → ClassId} {dI : Nat → Nat → Nat} {A : Nat → Prop} {tys : List (ClassId × FieldType)} {Wh : Nat → Nat → Nat → (Nat → Nat) → va_W} {k0 k1 t1 a0 a1 : Nat} {cI : ClassId} (hW : okH Wh k0 k1 a0 a1 cI) (ht : tys[t1]? = some (cI, .int)) (f g x : Nat) (F : Nat → Nat) (hF : ∀ j, F j < 1048576) (y z : Nat) (hf1 : f ≤ 5) (hy1 : y < 1048576) (hz1 : z < 1048576) : Met l yX1_overlaps (Cond.code yX1_overlaps cX1_overlaps 4 (some .boolean) :: TB) { frames := 1, cells := 0, slots := 0, locals := 23 } (xPre Nst (dC, dI) A tys (Wh f g x F) [.ref a0, .int (nI y), .int (nI z)]) (xQi (dC, dI) A (bI (hov f F y z f 0)) (Wh f g x F)) 0 0 A := by
  refine x_ofWz (cc := cX1_overlaps) (maxL := 4) (by decide) rfl (Nat.le_of_ble_eq_true rfl) (x_narZ _) ?_
  intro p e s m args below meth c Q hx hb hml hts hown hK hN hP hD hS hret ls hl
  have hl : lv_has ls 4 [(0, .ref a0), (1, .int (nI y)), (2, .int (nI z))] := hl
  have hown : s.vm.findClass RX1 = some m.cls := hown
  have f18 := hts _ (List.mem_cons_of_mem _ tw_192)
  have in_X1 := (fun q hq => List.mem_cons_of_mem _ (inX1 q hq) : ∀ q ∈ wsX10, q ∈ (Cond.code yX1_overlaps cX1_overlaps 4 (some .boolean) :: TB))
  refine lv_iconst (v := nI 0) hx hb dX1_overlaps_0 (by decide) ?_
  refine lv_istore_n (lv' := [(3, .int (nI 0)), (0, .ref a0), (1, .int (nI y)), (2, .int (nI z))]) hx hb dX1_overlaps_1 rfl hl (by decide) rfl (fun ls hl => ?_)
  have L2 : ∀ (fu2 : Nat) (i : Nat), (f - i < fu2) → (i ≤ f) → (hov f F y z (f - i) i = hov f F y z f 0) → ∀ (H : Heap) (locs : List Loc), va_P (dC, dI) vwCl (Wh f g x F) H → va_D A (Wh f g x F) → va_S A s.heap H locs → ∀ (ls : Array Slot), lv_has ls 4 [(0, .ref a0), (1, .int (nI y)), (2, .int (nI z)), (3, .int (nI i))] → W p l e { frames := 1, cells := 0, slots := 0, locals := 23 } s m args below meth c H locs 0 0 Q (F0 m 2 ls []) := by
    intro fu2
    induction fu2 with
    | zero => intro i hm; exact absurd hm (Nat.not_lt_zero _)
    | succ fu2 ih2 =>
      intro i hm i2_0 i2_1 H locs hP hD hS ls hl
      refine lv_iload_n hx hb dX1_overlaps_2 rfl (lv_at hl 3 rfl) ?_
      refine lv_aload_n hx hb dX1_overlaps_3 rfl (lv_at hl 0 rfl) ?_
      refine va_get (D := (dC, dI)) (ci := 1) (v := .int (nI f)) (C := RX1) (T := TX1) (N := 4) hx hb hts in_X1 hown hK hP k0 (hW.1 _ _ _ _) rfl 1 (by decide) f18 (fun _ h9 => h9) rfl dX1_overlaps_4 ?_
      refine x_icmp_ge (tgt := 47) hx hb dX1_overlaps_7 (by decide) (by omega) (by omega) (fun c7 => ?_) (fun c7 => ?_)
      · refine lv_iconst (v := nI 0) hx hb dX1_overlaps_47 (by decide) ?_
        exact hret dX1_overlaps_48 (by have h := i2_1; rw [show f - i = 0 by omega, hov] at h; rw [← h]; rfl) hP hD hS
      · refine lv_iload_n hx hb dX1_overlaps_10 rfl (lv_at hl 1 rfl) ?_
        refine lv_aload_n hx hb dX1_overlaps_11 rfl (lv_at hl 0 rfl) ?_
        refine lv_iload_n hx hb dX1_overlaps_12 rfl (lv_at hl 3 rfl) ?_
        refine lv_iconst (v := nI 1) hx hb dX1_overlaps_13 (by decide) ?_
        refine x_calli (va_runV (As := [.int (nI i), .int (nI 1)]) (rest := [.int (nI y)]) ⟨hx, hb, hml, hown, hts⟩ (c_He_field hW ht f g x F i 1 (by omega) (by omega) (by omega)) (cwV 2 hts (tbV tw_384 tw_386 tw_30 tw_90 tw_387) rfl rfl rfl (by decide +kernel) ⟨Nat.le_of_ble_eq_true rfl, Nat.le_of_ble_eq_true rfl⟩) ⟨x_blind, va_recv hK hP (ci := 1) (q0 := k0) rfl (hW.1 _ _ _ _), x_pre hK hP hD hN⟩ rfl rfl hl.1 rfl (lv_room (Nat.le_of_ble_eq_true rfl)) dX1_overlaps_14 ⟨Nat.zero_le _, Nat.zero_le _⟩) hS (fun H locs hP hD hS => ?_)
        have hP : va_P (dC, dI) vwCl (Wh f g x F) H := hP
        have hD : va_D A (Wh f g x F) := hD
        have hv14 : hfl f F i 1 < 1048576 := hfl_lt hF
        refine lv_aload_n hx hb dX1_overlaps_17 rfl (lv_at hl 0 rfl) ?_
        refine lv_iload_n hx hb dX1_overlaps_18 rfl (lv_at hl 3 rfl) ?_
        refine lv_iconst (v := nI 2) hx hb dX1_overlaps_19 (by decide) ?_
        refine x_calli (va_runV (As := [.int (nI i), .int (nI 2)]) (rest := [.int (nI (hfl f F i 1)), .int (nI y)]) ⟨hx, hb, hml, hown, hts⟩ (c_He_field hW ht f g x F i 2 (by omega) (by omega) (by omega)) (cwV 2 hts (tbV tw_384 tw_386 tw_30 tw_90 tw_387) rfl rfl rfl (by decide +kernel) ⟨Nat.le_of_ble_eq_true rfl, Nat.le_of_ble_eq_true rfl⟩) ⟨x_blind, va_recv hK hP (ci := 1) (q0 := k0) rfl (hW.1 _ _ _ _), x_pre hK hP hD hN⟩ rfl rfl hl.1 rfl (lv_room (Nat.le_of_ble_eq_true rfl)) dX1_overlaps_20 ⟨Nat.zero_le _, Nat.zero_le _⟩) hS (fun H locs hP hD hS => ?_)
        have hP : va_P (dC, dI) vwCl (Wh f g x F) H := hP
        have hD : va_D A (Wh f g x F) := hD
        have hv20 : hfl f F i 2 < 1048576 := hfl_lt hF
        refine x_iadd hx hb dX1_overlaps_23 ?_
        refine x_icmp_ge (tgt := 41) hx hb dX1_overlaps_24 (by decide) (by omega) (by omega) (fun c24 => ?_) (fun c24 => ?_)
        · refine lv_iinc (v := nI (i + 1)) (lv' := [(3, .int (nI (i + 1))), (0, .ref a0), (1, .int (nI y)), (2, .int (nI z))]) hx hb dX1_overlaps_41 hl (k := 3) rfl (x_inc _) (by decide) rfl (fun ls hl => ?_)
          refine lv_goto (tgt := 2) hx hb dX1_overlaps_44 (by decide) ?_
          exact ih2 (i + 1) (by omega) (by omega) (by have h := i2_1; rw [show f - i = (f - (i + 1)) + 1 by omega, hov, if_neg (by omega)] at h; exact h) _ _ hP hD hS ls (lv_sub hl [1, 2, 3, 0] rfl)
        · refine lv_aload_n hx hb dX1_overlaps_27 rfl (lv_at hl 0 rfl) ?_
          refine lv_iload_n hx hb dX1_overlaps_28 rfl (lv_at hl 3 rfl) ?_
          refine lv_iconst (v := nI 1) hx hb dX1_overlaps_29 (by decide) ?_
          refine x_calli (va_runV (As := [.int (nI i), .int (nI 1)]) (rest := []) ⟨hx, hb, hml, hown, hts⟩ (c_He_field hW ht f g x F i 1 (by omega) (by omega) (by omega)) (cwV 2 hts (tbV tw_384 tw_386 tw_30 tw_90 tw_387) rfl rfl rfl (by decide +kernel) ⟨Nat.le_of_ble_eq_true rfl, Nat.le_of_ble_eq_true rfl⟩) ⟨x_blind, va_recv hK hP (ci := 1) (q0 := k0) rfl (hW.1 _ _ _ _), x_pre hK hP hD hN⟩ rfl rfl hl.1 rfl (lv_room (Nat.le_of_ble_eq_true rfl)) dX1_overlaps_30 ⟨Nat.zero_le _, Nat.zero_le _⟩) hS (fun H locs hP hD hS => ?_)
          have hP : va_P (dC, dI) vwCl (Wh f g x F) H := hP
          have hD : va_D A (Wh f g x F) := hD
          have hv30 : hfl f F i 1 < 1048576 := hfl_lt hF
          refine lv_iload_n hx hb dX1_overlaps_33 rfl (lv_at hl 1 rfl) ?_
          refine lv_iload_n hx hb dX1_overlaps_34 rfl (lv_at hl 2 rfl) ?_
          refine x_iadd hx hb dX1_overlaps_35 ?_
          refine x_icmp_ge (tgt := 41) hx hb dX1_overlaps_36 (by decide) (by omega) (by omega) (fun c36 => ?_) (fun c36 => ?_)
          · refine lv_iinc (v := nI (i + 1)) (lv' := [(3, .int (nI (i + 1))), (0, .ref a0), (1, .int (nI y)), (2, .int (nI z))]) hx hb dX1_overlaps_41 hl (k := 3) rfl (x_inc _) (by decide) rfl (fun ls hl => ?_)
            refine lv_goto (tgt := 2) hx hb dX1_overlaps_44 (by decide) ?_
            exact ih2 (i + 1) (by omega) (by omega) (by have h := i2_1; rw [show f - i = (f - (i + 1)) + 1 by omega, hov, if_neg (by omega)] at h; exact h) _ _ hP hD hS ls (lv_sub hl [1, 2, 3, 0] rfl)
          · refine lv_iconst (v := nI 1) hx hb dX1_overlaps_39 (by decide) ?_
            exact hret dX1_overlaps_40 (by have h := i2_1; rw [show f - i = (f - (i + 1)) + 1 by omega, hov, if_pos (by omega)] at h; rw [← h]; rfl) hP hD hS
  exact L2 (f - 0 + 1) 0 (by omega) (by omega) (by rfl) _ _ hP hD hS ls (lv_sub hl [1, 2, 3, 0] rfl)

set_option maxHeartbeats 4000000 in
set_option maxRecDepth 100000 in
theorem c_He_readFiles {l : Launch} {dC : Nat → ClassId} {dI : Nat → Nat → Nat} {A : Nat → Prop} {tys : List (ClassId × FieldType)} {Wd : (Nat → Nat) → Nat → Nat → Nat → (Nat → Nat) → va_W} {k0 k1 t1 a0 a1 : Nat} {cI : ClassId} {j0 j1 t0 b0 b1 : Nat} {cB : ClassId} {dn : Nat} (hW : ∀ dg, okH (Wd dg) k0 k1 a0 a1 cI) (hWB : ∀ f g x F, okB (fun dg => Wd dg f g x F) j0 j1 b0 b1 cB dn) (ht : tys[t1]? = some (cI, .int)) (htB : tys[t0]? = some (cB, .byte)) (hdn : dn ≤ 64) (dg : Nat → Nat) (hdg : ∀ j, dg j < 256) (f g x : Nat) (F : Nat → Nat) (hF : ∀ j, F j < 1048576) (b : Nat) (hb1 : b < 2 ^ 31) (hf0 : f = 0) : Met l yX1_readFiles (Cond.code yX1_readFiles cX1_readFiles 9 (some .boolean) :: TB) { frames := 3, cells := 0, slots := 0, locals := 70 } (xPre Nst (dC, dI) A tys (Wd dg f g x F) [.ref a0, .ref b0, .int (nI b)]) (xQi (dC, dI) A (bI (hrf dn dg b F).1) (Wd dg ((hrf dn dg b F).2.1) g x ((hrf dn dg b F).2.2))) 0 0 A := by
  refine x_ofWz (cc := cX1_readFiles) (maxL := 9) (by decide) rfl (Nat.le_of_ble_eq_true rfl) (x_narZ _) ?_
  intro p e s m args below meth c Q hx hb hml hts hown hK hN hP hD hS hret ls hl
  have hl : lv_has ls 9 [(0, .ref a0), (1, .ref b0), (2, .int (nI b))] := hl
  have hown : s.vm.findClass RX1 = some m.cls := hown
  have n42 := hN (.methodLinkNest RX1 42 yX0_value "SegmentLog") (by decide +kernel)
  have ini_X0 := hts _ (List.mem_cons_of_mem _ tw_85)
  have im_yX0_value := hts _ (List.mem_cons_of_mem _ tw_344)
  have se_yX0_value := hts _ (List.mem_cons_of_mem _ tw_25)
  have n45 := hN (.methodLinkNest RX1 45 yX0_number "SegmentLog") (by decide +kernel)
  have im_yX0_number := hts _ (List.mem_cons_of_mem _ tw_451)
  have se_yX0_number := hts _ (List.mem_cons_of_mem _ tw_42)
  have n64 := hN (.methodLinkNest RX1 64 yX5_blocksFor "SegmentLog") (by decide +kernel)
  have ini_X5 := hts _ (List.mem_cons_of_mem _ tw_84)
  have st_yX5_blocksFor := hts _ (List.mem_cons_of_mem _ tw_373)
  refine lv_aload_n hx hb dX1_readFiles_0 rfl (lv_at hl 1 rfl) ?_
  refine lv_iload_n hx hb dX1_readFiles_1 rfl (lv_at hl 2 rfl) ?_
  refine lv_iconst (v := nI 1) hx hb dX1_readFiles_2 (by decide) ?_
  refine x_calli (va_runVN (As := [.int (nI b), .int (nI 1)]) (rest := []) ⟨hx, hb, hml, hown, hts⟩ (c_Bl_value (hWB f g x F) htB hdn dg hdg b 1 (by omega) (by omega)) ⟨(va_cnB 2 hts (tbG tw_345) rfl rfl rfl n42 ini_X0 (by decide +kernel) ⟨Nat.le_of_ble_eq_true rfl, Nat.le_of_ble_eq_true rfl⟩), im_yX0_value, se_yX0_value⟩ ⟨x_blind, va_recv hK hP (ci := 0) (q0 := j0) rfl ((hWB _ _ _ _).1 _), x_pre hK hP hD hN⟩ rfl rfl hl.1 rfl (lv_room (Nat.le_of_ble_eq_true rfl)) dX1_readFiles_3 ⟨Nat.zero_le _, Nat.zero_le _⟩) hS (fun H locs hP hD hS => ?_)
  have hP : va_P (dC, dI) vwCl (Wd dg f g x F) H := hP
  have hD : va_D A (Wd dg f g x F) := hD
  have hv3 : bv dn dg b 1 < 256 := bv_lt hdg
  refine lv_istore_n (lv' := [(3, .int (nI (bv dn dg b 1))), (0, .ref a0), (1, .ref b0), (2, .int (nI b))]) hx hb dX1_readFiles_6 rfl hl (by decide) rfl (fun ls hl => ?_)
  refine lv_iload_n hx hb dX1_readFiles_7 rfl (lv_at hl 0 rfl) ?_
  refine lv_iconst (v := nI 5) hx hb dX1_readFiles_8 (by decide) ?_
  refine x_icmp_le (tgt := 14) hx hb dX1_readFiles_9 (by decide) (by omega) (by omega) (fun c9 => ?_) (fun c9 => ?_)
  · refine lv_iconst (v := nI 0) hx hb dX1_readFiles_14 (by decide) ?_
    refine lv_istore (lv' := [(4, .int (nI 0)), (3, .int (nI (bv dn dg b 1))), (0, .ref a0), (1, .ref b0), (2, .int (nI b))]) hx hb dX1_readFiles_15 hl (by decide) rfl (fun ls hl => ?_)
    have L17 : ∀ (fu17 : Nat) (i : Nat) (f' : Nat) (F' : Nat → Nat), (bv dn dg b 1 - i < fu17) → (i ≤ bv dn dg b 1) → (f' = i) → (∀ j, F' j < 1048576) → (hrfL dn dg b (bv dn dg b 1 - i) i f' F' = hrfL dn dg b (bv dn dg b 1) 0 0 F) → ∀ (H : Heap) (locs : List Loc), va_P (dC, dI) vwCl (Wd dg f' g x F') H → va_D A (Wd dg f' g x F') → va_S A s.heap H locs → ∀ (ls : Array Slot), lv_has ls 9 [(0, .ref a0), (1, .ref b0), (2, .int (nI b)), (3, .int (nI (bv dn dg b 1))), (4, .int (nI i))] → W p l e { frames := 3, cells := 0, slots := 0, locals := 70 } s m args below meth c H locs 0 0 Q (F0 m 17 ls []) := by
      intro fu17
      induction fu17 with
      | zero => intro i f' F' hm; exact absurd hm (Nat.not_lt_zero _)
      | succ fu17 ih17 =>
        intro i f' F' hm i17_0 i17_1 i17_2 i17_3 H locs hP hD hS ls hl
        have w1 := num2_lt (n := dn) (b := b) hdg (8 + 2 * (i * 4 + 1))
        have w2 := num2_lt (n := dn) (b := b) hdg (8 + 2 * (i * 4 + 2))
        have w3 := num2_lt (n := dn) (b := b) hdg (8 + 2 * (i * 4 + 3))
        have w0 := num2_lt (n := dn) (b := b) hdg (8 + 2 * (i * 4 + 0))
        refine lv_iload hx hb dX1_readFiles_17 (lv_at hl 4 rfl) ?_
        refine lv_iload_n hx hb dX1_readFiles_19 rfl (lv_at hl 3 rfl) ?_
        refine x_icmp_ge (tgt := 144) hx hb dX1_readFiles_20 (by decide) (by omega) (by omega) (fun c20 => ?_) (fun c20 => ?_)
        · refine lv_iconst (v := nI 1) hx hb dX1_readFiles_144 (by decide) ?_
          have zz : hrf dn dg b F = (true, f', F') := by
            have h := i17_3
            rw [show bv dn dg b 1 - i = 0 by omega, hrfL] at h
            rw [hrf, if_pos (by omega), ← h]
          have e1 : f' = ((hrf dn dg b F).2.1) := by first | (rw [zz]; done) | (rw [zz]; exact hf0)
          have h9 : Wd dg f' g x F' = Wd dg ((hrf dn dg b F).2.1) g x F' := by rw [← e1]
          have hP := x_wP h9 hP
          have hD := x_wD h9 hD
          have e2 : F' = ((hrf dn dg b F).2.2) := by rw [zz]
          have h9 : Wd dg ((hrf dn dg b F).2.1) g x F' = Wd dg ((hrf dn dg b F).2.1) g x ((hrf dn dg b F).2.2) := by rw [← e2]
          have hP := x_wP h9 hP
          have hD := x_wD h9 hD
          exact hret dX1_readFiles_145 (by rw [zz]; rfl) hP hD hS
        · refine lv_aload_n hx hb dX1_readFiles_23 rfl (lv_at hl 1 rfl) ?_
          refine lv_iload_n hx hb dX1_readFiles_24 rfl (lv_at hl 2 rfl) ?_
          refine lv_iload hx hb dX1_readFiles_25 (lv_at hl 4 rfl) ?_
          refine lv_iconst (v := nI 1) hx hb dX1_readFiles_27 (by decide) ?_
          refine x_calli (va_runS (As := [.int (nI i), .int (nI 1)]) (rest := [.int (nI b), .ref b0]) ⟨hx, hb, hml, hown, hts⟩ (c_He_fieldAt i 1) (va_cwS 2 hts (tbS tw_465 tw_411 tw_90 tw_412) rfl rfl rfl (by decide +kernel) ⟨Nat.le_of_ble_eq_true rfl, Nat.le_of_ble_eq_true rfl⟩) ⟨x_blind, x_pre hK hP hD hN⟩ rfl rfl hl.1 rfl (lv_room (Nat.le_of_ble_eq_true rfl)) dX1_readFiles_28 ⟨Nat.zero_le _, Nat.zero_le _⟩) hS (fun H locs hP hD hS => ?_)
          have hP : va_P (dC, dI) vwCl (Wd dg f' g x F') H := hP
          have hD : va_D A (Wd dg f' g x F') := hD
          refine lv_iconst (v := nI 2) hx hb dX1_readFiles_31 (by decide) ?_
          refine x_calll (va_runVN (As := [.int (nI b), .int (nI (8 + 2 * (i * 4 + 1))), .int (nI 2)]) (rest := []) ⟨hx, hb, hml, hown, hts⟩ (c_Bl_number (hWB f' g x F') htB hdn dg hdg b (8 + 2 * (i * 4 + 1)) 2 (by omega) (by omega) (by omega)) ⟨(va_cnB 3 hts (tbG tw_452) rfl rfl rfl n45 ini_X0 (by decide +kernel) ⟨Nat.le_of_ble_eq_true rfl, Nat.le_of_ble_eq_true rfl⟩), im_yX0_number, se_yX0_number⟩ ⟨x_blind, va_recv hK hP (ci := 0) (q0 := j0) rfl ((hWB _ _ _ _).1 _), x_pre hK hP hD hN⟩ rfl rfl hl.1 rfl (lv_room (Nat.le_of_ble_eq_true rfl)) dX1_readFiles_32 ⟨Nat.zero_le _, Nat.zero_le _⟩) hS (fun H locs hP hD hS => ?_)
          have hP : va_P (dC, dI) vwCl (Wd dg f' g x F') H := hP
          have hD : va_D A (Wd dg f' g x F') := hD
          refine lv_l2i (v := nI (num dn dg b 2 (8 + 2 * (i * 4 + 1)))) hx hb dX1_readFiles_35 (lN_i _) ?_
          refine lv_istore (lv' := [(5, .int (nI (num dn dg b 2 (8 + 2 * (i * 4 + 1))))), (0, .ref a0), (1, .ref b0), (2, .int (nI b)), (3, .int (nI (bv dn dg b 1))), (4, .int (nI i))]) hx hb dX1_readFiles_36 hl (by decide) rfl (fun ls hl => ?_)
          refine lv_aload_n hx hb dX1_readFiles_38 rfl (lv_at hl 2 rfl) ?_
          refine lv_iload_n hx hb dX1_readFiles_39 rfl (lv_at hl 3 rfl) ?_
          refine lv_iload hx hb dX1_readFiles_40 (lv_at hl 5 rfl) ?_
          refine lv_iconst (v := nI 2) hx hb dX1_readFiles_42 (by decide) ?_
          refine x_calli (va_runS (As := [.int (nI i), .int (nI 2)]) (rest := [.int (nI b), .ref b0]) ⟨hx, hb, hml, hown, hts⟩ (c_He_fieldAt i 2) (va_cwS 2 hts (tbS tw_465 tw_411 tw_90 tw_412) rfl rfl rfl (by decide +kernel) ⟨Nat.le_of_ble_eq_true rfl, Nat.le_of_ble_eq_true rfl⟩) ⟨x_blind, x_pre hK hP hD hN⟩ rfl rfl hl.1 rfl (lv_room (Nat.le_of_ble_eq_true rfl)) dX1_readFiles_43 ⟨Nat.zero_le _, Nat.zero_le _⟩) hS (fun H locs hP hD hS => ?_)
          have hP : va_P (dC, dI) vwCl (Wd dg f' g x F') H := hP
          have hD : va_D A (Wd dg f' g x F') := hD
          refine lv_iconst (v := nI 2) hx hb dX1_readFiles_46 (by decide) ?_
          refine x_calll (va_runVN (As := [.int (nI b), .int (nI (8 + 2 * (i * 4 + 2))), .int (nI 2)]) (rest := []) ⟨hx, hb, hml, hown, hts⟩ (c_Bl_number (hWB f' g x F') htB hdn dg hdg b (8 + 2 * (i * 4 + 2)) 2 (by omega) (by omega) (by omega)) ⟨(va_cnB 3 hts (tbG tw_452) rfl rfl rfl n45 ini_X0 (by decide +kernel) ⟨Nat.le_of_ble_eq_true rfl, Nat.le_of_ble_eq_true rfl⟩), im_yX0_number, se_yX0_number⟩ ⟨x_blind, va_recv hK hP (ci := 0) (q0 := j0) rfl ((hWB _ _ _ _).1 _), x_pre hK hP hD hN⟩ rfl rfl hl.1 rfl (lv_room (Nat.le_of_ble_eq_true rfl)) dX1_readFiles_47 ⟨Nat.zero_le _, Nat.zero_le _⟩) hS (fun H locs hP hD hS => ?_)
          have hP : va_P (dC, dI) vwCl (Wd dg f' g x F') H := hP
          have hD : va_D A (Wd dg f' g x F') := hD
          refine lv_l2i (v := nI (num dn dg b 2 (8 + 2 * (i * 4 + 2)))) hx hb dX1_readFiles_50 (lN_i _) ?_
          refine lv_istore (lv' := [(6, .int (nI (num dn dg b 2 (8 + 2 * (i * 4 + 2))))), (5, .int (nI (num dn dg b 2 (8 + 2 * (i * 4 + 1))))), (0, .ref a0), (1, .ref b0), (2, .int (nI b)), (3, .int (nI (bv dn dg b 1))), (4, .int (nI i))]) hx hb dX1_readFiles_51 hl (by decide) rfl (fun ls hl => ?_)
          refine lv_aload_n hx hb dX1_readFiles_53 rfl (lv_at hl 3 rfl) ?_
          refine lv_iload_n hx hb dX1_readFiles_54 rfl (lv_at hl 4 rfl) ?_
          refine lv_iload hx hb dX1_readFiles_55 (lv_at hl 6 rfl) ?_
          refine lv_iconst (v := nI 3) hx hb dX1_readFiles_57 (by decide) ?_
          refine x_calli (va_runS (As := [.int (nI i), .int (nI 3)]) (rest := [.int (nI b), .ref b0]) ⟨hx, hb, hml, hown, hts⟩ (c_He_fieldAt i 3) (va_cwS 2 hts (tbS tw_465 tw_411 tw_90 tw_412) rfl rfl rfl (by decide +kernel) ⟨Nat.le_of_ble_eq_true rfl, Nat.le_of_ble_eq_true rfl⟩) ⟨x_blind, x_pre hK hP hD hN⟩ rfl rfl hl.1 rfl (lv_room (Nat.le_of_ble_eq_true rfl)) dX1_readFiles_58 ⟨Nat.zero_le _, Nat.zero_le _⟩) hS (fun H locs hP hD hS => ?_)
          have hP : va_P (dC, dI) vwCl (Wd dg f' g x F') H := hP
          have hD : va_D A (Wd dg f' g x F') := hD
          refine lv_iconst (v := nI 2) hx hb dX1_readFiles_61 (by decide) ?_
          refine x_calll (va_runVN (As := [.int (nI b), .int (nI (8 + 2 * (i * 4 + 3))), .int (nI 2)]) (rest := []) ⟨hx, hb, hml, hown, hts⟩ (c_Bl_number (hWB f' g x F') htB hdn dg hdg b (8 + 2 * (i * 4 + 3)) 2 (by omega) (by omega) (by omega)) ⟨(va_cnB 3 hts (tbG tw_452) rfl rfl rfl n45 ini_X0 (by decide +kernel) ⟨Nat.le_of_ble_eq_true rfl, Nat.le_of_ble_eq_true rfl⟩), im_yX0_number, se_yX0_number⟩ ⟨x_blind, va_recv hK hP (ci := 0) (q0 := j0) rfl ((hWB _ _ _ _).1 _), x_pre hK hP hD hN⟩ rfl rfl hl.1 rfl (lv_room (Nat.le_of_ble_eq_true rfl)) dX1_readFiles_62 ⟨Nat.zero_le _, Nat.zero_le _⟩) hS (fun H locs hP hD hS => ?_)
          have hP : va_P (dC, dI) vwCl (Wd dg f' g x F') H := hP
          have hD : va_D A (Wd dg f' g x F') := hD
          refine lv_l2i (v := nI (num dn dg b 2 (8 + 2 * (i * 4 + 3)))) hx hb dX1_readFiles_65 (lN_i _) ?_
          refine lv_istore (lv' := [(7, .int (nI (num dn dg b 2 (8 + 2 * (i * 4 + 3))))), (6, .int (nI (num dn dg b 2 (8 + 2 * (i * 4 + 2))))), (5, .int (nI (num dn dg b 2 (8 + 2 * (i * 4 + 1))))), (0, .ref a0), (1, .ref b0), (2, .int (nI b)), (3, .int (nI (bv dn dg b 1))), (4, .int (nI i))]) hx hb dX1_readFiles_66 hl (by decide) rfl (fun ls hl => ?_)
          refine lv_iload hx hb dX1_readFiles_68 (lv_at hl 2 rfl) ?_
          refine lv_iconst (v := nI 2) hx hb dX1_readFiles_70 (by decide) ?_
          refine x_icmp_lt (tgt := 94) hx hb dX1_readFiles_71 (by decide) (by omega) (by omega) (fun c71 => ?_) (fun c71 => ?_)
          · refine lv_iconst (v := nI 0) hx hb dX1_readFiles_94 (by decide) ?_
            refine lv_istore (lv' := [(8, .int (nI 0)), (7, .int (nI (num dn dg b 2 (8 + 2 * (i * 4 + 3))))), (6, .int (nI (num dn dg b 2 (8 + 2 * (i * 4 + 2))))), (5, .int (nI (num dn dg b 2 (8 + 2 * (i * 4 + 1))))), (0, .ref a0), (1, .ref b0), (2, .int (nI b)), (3, .int (nI (bv dn dg b 1))), (4, .int (nI i))]) hx hb dX1_readFiles_95 hl (by decide) rfl (fun ls hl => ?_)
            refine lv_iload hx hb dX1_readFiles_97 (lv_at hl 0 rfl) ?_
            refine x_if_eq (tgt := 113) hx hb dX1_readFiles_99 (by decide) (by decide) (fun c99 => ?_) (fun c99 => absurd c99 (by decide))
            refine lv_iconst (v := nI 0) hx hb dX1_readFiles_113 (by decide) ?_
            have hno : ¬ (2 ≤ num dn dg b 2 (8 + 2 * (i * 4 + 1)) ∧ 1 ≤ num dn dg b 2 (8 + 2 * (i * 4 + 2)) ∧ (num dn dg b 2 (8 + 2 * (i * 4 + 3)) + 2) / 3 = num dn dg b 2 (8 + 2 * (i * 4 + 2)) ∧ hov f' F' (num dn dg b 2 (8 + 2 * (i * 4 + 1))) (num dn dg b 2 (8 + 2 * (i * 4 + 2))) f' 0 = false) := by
              rintro ⟨r1, r2, r4, r5⟩
              first
              | omega
              | (rw [r5] at c110; cases c110)
            have h := i17_3
            rw [show bv dn dg b 1 - i = (bv dn dg b 1 - (i + 1)) + 1 by omega, hrfL, if_neg hno] at h
            have zz : hrf dn dg b F = (false, f', F') := by rw [hrf, if_pos (by omega), ← h]
            have e3 : f' = ((hrf dn dg b F).2.1) := by first | (rw [zz]; done) | (rw [zz]; exact hf0)
            have h9 : Wd dg f' g x F' = Wd dg ((hrf dn dg b F).2.1) g x F' := by rw [← e3]
            have hP := x_wP h9 hP
            have hD := x_wD h9 hD
            have e4 : F' = ((hrf dn dg b F).2.2) := by rw [zz]
            have h9 : Wd dg ((hrf dn dg b F).2.1) g x F' = Wd dg ((hrf dn dg b F).2.1) g x ((hrf dn dg b F).2.2) := by rw [← e4]
            have hP := x_wP h9 hP
            have hD := x_wD h9 hD
            exact hret dX1_readFiles_114 (by rw [zz]; rfl) hP hD hS
          · refine lv_iload hx hb dX1_readFiles_74 (lv_at hl 1 rfl) ?_
            refine lv_iconst (v := nI 1) hx hb dX1_readFiles_76 (by decide) ?_
            refine x_icmp_lt (tgt := 94) hx hb dX1_readFiles_77 (by decide) (by omega) (by omega) (fun c77 => ?_) (fun c77 => ?_)
            · refine lv_iconst (v := nI 0) hx hb dX1_readFiles_94 (by decide) ?_
              refine lv_istore (lv' := [(8, .int (nI 0)), (7, .int (nI (num dn dg b 2 (8 + 2 * (i * 4 + 3))))), (6, .int (nI (num dn dg b 2 (8 + 2 * (i * 4 + 2))))), (5, .int (nI (num dn dg b 2 (8 + 2 * (i * 4 + 1))))), (0, .ref a0), (1, .ref b0), (2, .int (nI b)), (3, .int (nI (bv dn dg b 1))), (4, .int (nI i))]) hx hb dX1_readFiles_95 hl (by decide) rfl (fun ls hl => ?_)
              refine lv_iload hx hb dX1_readFiles_97 (lv_at hl 0 rfl) ?_
              refine x_if_eq (tgt := 113) hx hb dX1_readFiles_99 (by decide) (by decide) (fun c99 => ?_) (fun c99 => absurd c99 (by decide))
              refine lv_iconst (v := nI 0) hx hb dX1_readFiles_113 (by decide) ?_
              have hno : ¬ (2 ≤ num dn dg b 2 (8 + 2 * (i * 4 + 1)) ∧ 1 ≤ num dn dg b 2 (8 + 2 * (i * 4 + 2)) ∧ (num dn dg b 2 (8 + 2 * (i * 4 + 3)) + 2) / 3 = num dn dg b 2 (8 + 2 * (i * 4 + 2)) ∧ hov f' F' (num dn dg b 2 (8 + 2 * (i * 4 + 1))) (num dn dg b 2 (8 + 2 * (i * 4 + 2))) f' 0 = false) := by
                rintro ⟨r1, r2, r4, r5⟩
                first
                | omega
                | (rw [r5] at c110; cases c110)
              have h := i17_3
              rw [show bv dn dg b 1 - i = (bv dn dg b 1 - (i + 1)) + 1 by omega, hrfL, if_neg hno] at h
              have zz : hrf dn dg b F = (false, f', F') := by rw [hrf, if_pos (by omega), ← h]
              have e5 : f' = ((hrf dn dg b F).2.1) := by first | (rw [zz]; done) | (rw [zz]; exact hf0)
              have h9 : Wd dg f' g x F' = Wd dg ((hrf dn dg b F).2.1) g x F' := by rw [← e5]
              have hP := x_wP h9 hP
              have hD := x_wD h9 hD
              have e6 : F' = ((hrf dn dg b F).2.2) := by rw [zz]
              have h9 : Wd dg ((hrf dn dg b F).2.1) g x F' = Wd dg ((hrf dn dg b F).2.1) g x ((hrf dn dg b F).2.2) := by rw [← e6]
              have hP := x_wP h9 hP
              have hD := x_wD h9 hD
              exact hret dX1_readFiles_114 (by rw [zz]; rfl) hP hD hS
            · refine lv_iload hx hb dX1_readFiles_80 (lv_at hl 0 rfl) ?_
              refine x_calli (va_runSN (As := [.int (nI (num dn dg b 2 (8 + 2 * (i * 4 + 3))))]) (rest := []) ⟨hx, hb, hml, hown, hts⟩ (c_SL_blocksFor (num dn dg b 2 (8 + 2 * (i * 4 + 3))) (by omega)) ⟨(va_cnB 1 hts (tbG tw_374) rfl rfl rfl n64 ini_X5 (by decide +kernel) ⟨Nat.le_of_ble_eq_true rfl, Nat.le_of_ble_eq_true rfl⟩), st_yX5_blocksFor, trivial⟩ ⟨x_blind, x_pre hK hP hD hN⟩ rfl rfl hl.1 rfl (lv_room (Nat.le_of_ble_eq_true rfl)) dX1_readFiles_82 ⟨Nat.zero_le _, Nat.zero_le _⟩) hS (fun H locs hP hD hS => ?_)
              have hP : va_P (dC, dI) vwCl (Wd dg f' g x F') H := hP
              have hD : va_D A (Wd dg f' g x F') := hD
              refine lv_iload hx hb dX1_readFiles_85 (lv_at hl 1 rfl) ?_
              refine x_icmp_ne (tgt := 94) hx hb dX1_readFiles_87 (by decide) (by omega) (by omega) (fun c87 => ?_) (fun c87 => ?_)
              · refine lv_iconst (v := nI 0) hx hb dX1_readFiles_94 (by decide) ?_
                refine lv_istore (lv' := [(8, .int (nI 0)), (7, .int (nI (num dn dg b 2 (8 + 2 * (i * 4 + 3))))), (6, .int (nI (num dn dg b 2 (8 + 2 * (i * 4 + 2))))), (5, .int (nI (num dn dg b 2 (8 + 2 * (i * 4 + 1))))), (0, .ref a0), (1, .ref b0), (2, .int (nI b)), (3, .int (nI (bv dn dg b 1))), (4, .int (nI i))]) hx hb dX1_readFiles_95 hl (by decide) rfl (fun ls hl => ?_)
                refine lv_iload hx hb dX1_readFiles_97 (lv_at hl 0 rfl) ?_
                refine x_if_eq (tgt := 113) hx hb dX1_readFiles_99 (by decide) (by decide) (fun c99 => ?_) (fun c99 => absurd c99 (by decide))
                refine lv_iconst (v := nI 0) hx hb dX1_readFiles_113 (by decide) ?_
                have hno : ¬ (2 ≤ num dn dg b 2 (8 + 2 * (i * 4 + 1)) ∧ 1 ≤ num dn dg b 2 (8 + 2 * (i * 4 + 2)) ∧ (num dn dg b 2 (8 + 2 * (i * 4 + 3)) + 2) / 3 = num dn dg b 2 (8 + 2 * (i * 4 + 2)) ∧ hov f' F' (num dn dg b 2 (8 + 2 * (i * 4 + 1))) (num dn dg b 2 (8 + 2 * (i * 4 + 2))) f' 0 = false) := by
                  rintro ⟨r1, r2, r4, r5⟩
                  first
                  | omega
                  | (rw [r5] at c110; cases c110)
                have h := i17_3
                rw [show bv dn dg b 1 - i = (bv dn dg b 1 - (i + 1)) + 1 by omega, hrfL, if_neg hno] at h
                have zz : hrf dn dg b F = (false, f', F') := by rw [hrf, if_pos (by omega), ← h]
                have e7 : f' = ((hrf dn dg b F).2.1) := by first | (rw [zz]; done) | (rw [zz]; exact hf0)
                have h9 : Wd dg f' g x F' = Wd dg ((hrf dn dg b F).2.1) g x F' := by rw [← e7]
                have hP := x_wP h9 hP
                have hD := x_wD h9 hD
                have e8 : F' = ((hrf dn dg b F).2.2) := by rw [zz]
                have h9 : Wd dg ((hrf dn dg b F).2.1) g x F' = Wd dg ((hrf dn dg b F).2.1) g x ((hrf dn dg b F).2.2) := by rw [← e8]
                have hP := x_wP h9 hP
                have hD := x_wD h9 hD
                exact hret dX1_readFiles_114 (by rw [zz]; rfl) hP hD hS
              · refine lv_iconst (v := nI 1) hx hb dX1_readFiles_90 (by decide) ?_
                refine lv_goto (tgt := 95) hx hb dX1_readFiles_91 (by decide) ?_
                refine lv_istore (lv' := [(8, .int (nI 1)), (7, .int (nI (num dn dg b 2 (8 + 2 * (i * 4 + 3))))), (6, .int (nI (num dn dg b 2 (8 + 2 * (i * 4 + 2))))), (5, .int (nI (num dn dg b 2 (8 + 2 * (i * 4 + 1))))), (0, .ref a0), (1, .ref b0), (2, .int (nI b)), (3, .int (nI (bv dn dg b 1))), (4, .int (nI i))]) hx hb dX1_readFiles_95 hl (by decide) rfl (fun ls hl => ?_)
                refine lv_iload hx hb dX1_readFiles_97 (lv_at hl 0 rfl) ?_
                refine x_if_eq (tgt := 113) hx hb dX1_readFiles_99 (by decide) (by decide) (fun c99 => absurd c99 (by decide)) (fun c99 => ?_)
                refine lv_aload_n hx hb dX1_readFiles_102 rfl (lv_at hl 4 rfl) ?_
                refine lv_iload hx hb dX1_readFiles_103 (lv_at hl 3 rfl) ?_
                refine lv_iload hx hb dX1_readFiles_105 (lv_at hl 2 rfl) ?_
                refine x_calli (va_runV (As := [.int (nI (num dn dg b 2 (8 + 2 * (i * 4 + 1)))), .int (nI (num dn dg b 2 (8 + 2 * (i * 4 + 2))))]) (rest := []) ⟨hx, hb, hml, hown, hts⟩ (c_He_overlaps (hW dg) ht f' g x F' i17_2 (num dn dg b 2 (8 + 2 * (i * 4 + 1))) (num dn dg b 2 (8 + 2 * (i * 4 + 2))) (by omega) (by omega) (by omega)) (cwV 2 hts (tbV tw_467 tw_469 tw_44 tw_90 tw_470) rfl rfl rfl (by decide +kernel) ⟨Nat.le_of_ble_eq_true rfl, Nat.le_of_ble_eq_true rfl⟩) ⟨x_blind, va_recv hK hP (ci := 1) (q0 := k0) rfl ((hW _).1 _ _ _ _), x_pre hK hP hD hN⟩ rfl rfl hl.1 rfl (lv_room (Nat.le_of_ble_eq_true rfl)) dX1_readFiles_107 ⟨Nat.zero_le _, Nat.zero_le _⟩) hS (fun H locs hP hD hS => ?_)
                have hP : va_P (dC, dI) vwCl (Wd dg f' g x F') H := hP
                have hD : va_D A (Wd dg f' g x F') := hD
                refine x_if_eq_b (tgt := 115) hx hb dX1_readFiles_110 (by decide) (fun c110 => ?_) (fun c110 => ?_)
                · refine lv_aload_n hx hb dX1_readFiles_115 rfl (lv_at hl 4 rfl) ?_
                  refine lv_aload_n hx hb dX1_readFiles_116 rfl (lv_at hl 5 rfl) ?_
                  refine lv_iload_n hx hb dX1_readFiles_117 rfl (lv_at hl 6 rfl) ?_
                  refine lv_iload hx hb dX1_readFiles_118 (lv_at hl 8 rfl) ?_
                  refine lv_iconst (v := nI 0) hx hb dX1_readFiles_120 (by decide) ?_
                  refine x_calli (va_runS (As := [.int (nI i), .int (nI 0)]) (rest := [.int (nI b), .ref b0, .ref a0]) ⟨hx, hb, hml, hown, hts⟩ (c_He_fieldAt i 0) (va_cwS 2 hts (tbS tw_465 tw_411 tw_90 tw_412) rfl rfl rfl (by decide +kernel) ⟨Nat.le_of_ble_eq_true rfl, Nat.le_of_ble_eq_true rfl⟩) ⟨x_blind, x_pre hK hP hD hN⟩ rfl rfl hl.1 rfl (lv_room (Nat.le_of_ble_eq_true rfl)) dX1_readFiles_121 ⟨Nat.zero_le _, Nat.zero_le _⟩) hS (fun H locs hP hD hS => ?_)
                  have hP : va_P (dC, dI) vwCl (Wd dg f' g x F') H := hP
                  have hD : va_D A (Wd dg f' g x F') := hD
                  refine lv_iconst (v := nI 2) hx hb dX1_readFiles_124 (by decide) ?_
                  refine x_calll (va_runVN (As := [.int (nI b), .int (nI (8 + 2 * (i * 4 + 0))), .int (nI 2)]) (rest := [.ref a0]) ⟨hx, hb, hml, hown, hts⟩ (c_Bl_number (hWB f' g x F') htB hdn dg hdg b (8 + 2 * (i * 4 + 0)) 2 (by omega) (by omega) (by omega)) ⟨(va_cnB 3 hts (tbG tw_452) rfl rfl rfl n45 ini_X0 (by decide +kernel) ⟨Nat.le_of_ble_eq_true rfl, Nat.le_of_ble_eq_true rfl⟩), im_yX0_number, se_yX0_number⟩ ⟨x_blind, va_recv hK hP (ci := 0) (q0 := j0) rfl ((hWB _ _ _ _).1 _), x_pre hK hP hD hN⟩ rfl rfl hl.1 rfl (lv_room (Nat.le_of_ble_eq_true rfl)) dX1_readFiles_125 ⟨Nat.zero_le _, Nat.zero_le _⟩) hS (fun H locs hP hD hS => ?_)
                  have hP : va_P (dC, dI) vwCl (Wd dg f' g x F') H := hP
                  have hD : va_D A (Wd dg f' g x F') := hD
                  refine lv_l2i (v := nI (num dn dg b 2 (8 + 2 * (i * 4 + 0)))) hx hb dX1_readFiles_128 (lN_i _) ?_
                  refine lv_iload hx hb dX1_readFiles_129 (lv_at hl 3 rfl) ?_
                  refine lv_iload hx hb dX1_readFiles_131 (lv_at hl 2 rfl) ?_
                  refine lv_iload hx hb dX1_readFiles_133 (lv_at hl 1 rfl) ?_
                  refine x_callv (va_runV (As := [.int (nI (num dn dg b 2 (8 + 2 * (i * 4 + 0)))), .int (nI (num dn dg b 2 (8 + 2 * (i * 4 + 1)))), .int (nI (num dn dg b 2 (8 + 2 * (i * 4 + 2)))), .int (nI (num dn dg b 2 (8 + 2 * (i * 4 + 3))))]) (rest := []) ⟨hx, hb, hml, hown, hts⟩ (c_He_append (hW dg) ht f' g x F' (num dn dg b 2 (8 + 2 * (i * 4 + 0))) (num dn dg b 2 (8 + 2 * (i * 4 + 1))) (num dn dg b 2 (8 + 2 * (i * 4 + 2))) (num dn dg b 2 (8 + 2 * (i * 4 + 3))) (by omega)) (cwV 4 hts (tbV tw_388 tw_390 tw_31 tw_90 tw_391) rfl rfl rfl (by decide +kernel) ⟨Nat.le_of_ble_eq_true rfl, Nat.le_of_ble_eq_true rfl⟩) ⟨x_blind, va_recv hK hP (ci := 1) (q0 := k0) rfl ((hW _).1 _ _ _ _), x_pre hK hP hD hN⟩ rfl rfl hl.1 rfl (lv_room (Nat.le_of_ble_eq_true rfl)) dX1_readFiles_135 ⟨Nat.zero_le _, Nat.zero_le _⟩) hS (fun H locs hP hD hS => ?_)
                  have hP : va_P (dC, dI) vwCl (Wd dg (f' + 1) g x (hap f' F' (num dn dg b 2 (8 + 2 * (i * 4 + 0))) (num dn dg b 2 (8 + 2 * (i * 4 + 1))) (num dn dg b 2 (8 + 2 * (i * 4 + 2))) (num dn dg b 2 (8 + 2 * (i * 4 + 3))))) H := hP
                  have hD : va_D A (Wd dg (f' + 1) g x (hap f' F' (num dn dg b 2 (8 + 2 * (i * 4 + 0))) (num dn dg b 2 (8 + 2 * (i * 4 + 1))) (num dn dg b 2 (8 + 2 * (i * 4 + 2))) (num dn dg b 2 (8 + 2 * (i * 4 + 3))))) := hD
                  refine lv_iinc (v := nI (i + 1)) (lv' := [(4, .int (nI (i + 1))), (8, .int (nI 1)), (7, .int (nI (num dn dg b 2 (8 + 2 * (i * 4 + 3))))), (6, .int (nI (num dn dg b 2 (8 + 2 * (i * 4 + 2))))), (5, .int (nI (num dn dg b 2 (8 + 2 * (i * 4 + 1))))), (0, .ref a0), (1, .ref b0), (2, .int (nI b)), (3, .int (nI (bv dn dg b 1)))]) hx hb dX1_readFiles_138 hl (k := 8) rfl (x_inc _) (by decide) rfl (fun ls hl => ?_)
                  refine lv_goto (tgt := 17) hx hb dX1_readFiles_141 (by decide) ?_
                  exact ih17 (i + 1) (f' + 1) (hap f' F' (num dn dg b 2 (8 + 2 * (i * 4 + 0))) (num dn dg b 2 (8 + 2 * (i * 4 + 1))) (num dn dg b 2 (8 + 2 * (i * 4 + 2))) (num dn dg b 2 (8 + 2 * (i * 4 + 3)))) (by omega) (by omega) (by omega) (by exact hap_lt i17_2 (by omega) (by omega) (by omega) (by omega)) (by have h := i17_3; rw [show bv dn dg b 1 - i = (bv dn dg b 1 - (i + 1)) + 1 by omega, hrfL, if_pos ⟨by omega, by omega, by omega, c110⟩] at h; exact h) _ _ hP hD hS ls (lv_sub hl [5, 6, 7, 8, 0] rfl)
                · refine lv_iconst (v := nI 0) hx hb dX1_readFiles_113 (by decide) ?_
                  have hno : ¬ (2 ≤ num dn dg b 2 (8 + 2 * (i * 4 + 1)) ∧ 1 ≤ num dn dg b 2 (8 + 2 * (i * 4 + 2)) ∧ (num dn dg b 2 (8 + 2 * (i * 4 + 3)) + 2) / 3 = num dn dg b 2 (8 + 2 * (i * 4 + 2)) ∧ hov f' F' (num dn dg b 2 (8 + 2 * (i * 4 + 1))) (num dn dg b 2 (8 + 2 * (i * 4 + 2))) f' 0 = false) := by
                    rintro ⟨r1, r2, r4, r5⟩
                    first
                    | omega
                    | (rw [r5] at c110; cases c110)
                  have h := i17_3
                  rw [show bv dn dg b 1 - i = (bv dn dg b 1 - (i + 1)) + 1 by omega, hrfL, if_neg hno] at h
                  have zz : hrf dn dg b F = (false, f', F') := by rw [hrf, if_pos (by omega), ← h]
                  have e9 : f' = ((hrf dn dg b F).2.1) := by first | (rw [zz]; done) | (rw [zz]; exact hf0)
                  have h9 : Wd dg f' g x F' = Wd dg ((hrf dn dg b F).2.1) g x F' := by rw [← e9]
                  have hP := x_wP h9 hP
                  have hD := x_wD h9 hD
                  have e10 : F' = ((hrf dn dg b F).2.2) := by rw [zz]
                  have h9 : Wd dg ((hrf dn dg b F).2.1) g x F' = Wd dg ((hrf dn dg b F).2.1) g x ((hrf dn dg b F).2.2) := by rw [← e10]
                  have hP := x_wP h9 hP
                  have hD := x_wD h9 hD
                  exact hret dX1_readFiles_114 (by rw [zz]; rfl) hP hD hS
    exact L17 (bv dn dg b 1 - 0 + 1) 0 f F (by omega) (by omega) (by exact hf0) (by exact hF) (by rw [hf0]; rfl) _ _ hP hD hS ls (lv_sub hl [2, 3, 4, 1, 0] rfl)
  · refine lv_iconst (v := nI 0) hx hb dX1_readFiles_12 (by decide) ?_
    have zz : hrf dn dg b F = (false, 0, F) := by rw [hrf, if_neg (by omega)]
    have e11 : f = ((hrf dn dg b F).2.1) := by first | (rw [zz]; done) | (rw [zz]; exact hf0)
    have h9 : Wd dg f g x F = Wd dg ((hrf dn dg b F).2.1) g x F := by rw [← e11]
    have hP := x_wP h9 hP
    have hD := x_wD h9 hD
    have e12 : F = ((hrf dn dg b F).2.2) := by rw [zz]
    have h9 : Wd dg ((hrf dn dg b F).2.1) g x F = Wd dg ((hrf dn dg b F).2.1) g x ((hrf dn dg b F).2.2) := by rw [← e12]
    have hP := x_wP h9 hP
    have hD := x_wD h9 hD
    exact hret dX1_readFiles_13 (by rw [zz]; rfl) hP hD hS

set_option maxHeartbeats 4000000 in
set_option maxRecDepth 100000 in
theorem c_He_read {l : Launch} {dC : Nat → ClassId} {dI : Nat → Nat → Nat} {A : Nat → Prop} {tys : List (ClassId × FieldType)} {Wd : (Nat → Nat) → Nat → Nat → Nat → (Nat → Nat) → va_W} {k0 k1 t1 a0 a1 : Nat} {cI : ClassId} {j0 j1 t0 b0 b1 : Nat} {cB : ClassId} {dn : Nat} (hW : ∀ dg, okH (Wd dg) k0 k1 a0 a1 cI) (hWB : ∀ f g x F, okB (fun dg => Wd dg f g x F) j0 j1 b0 b1 cB dn) (ht : tys[t1]? = some (cI, .int)) (htB : tys[t0]? = some (cB, .byte)) (hdn : dn ≤ 64) (dg : Nat → Nat) (hdg : ∀ j, dg j < 256) (f g x : Nat) (F : Nat → Nat) (hF : ∀ j, F j < 1048576) (b : Nat) (hb1 : b < 2) : Met l yX1_read (Cond.code yX1_read cX1_read 8 none :: TB) { frames := 4, cells := 0, slots := 0, locals := 98 } (xPre Nst (dC, dI) A tys (Wd dg f g x F) [.ref a0, .ref b0, .int (nI b)]) (xQv (dC, dI) A (Wd dg ((hrd dn dg b F).1) ((hrd dn dg b F).2.1) ((hrd dn dg b F).2.2.1) ((hrd dn dg b F).2.2.2))) 0 0 A := by
  refine x_ofWv (cc := cX1_read) (maxL := 8) (by decide) rfl (Nat.le_of_ble_eq_true rfl) ?_
  intro p e s m args below meth c Q hx hb hml hts hown hK hN hP hD hS hret ls hl
  have hl : lv_has ls 8 [(0, .ref a0), (1, .ref b0), (2, .int (nI b))] := hl
  have hown : s.vm.findClass RX1 = some m.cls := hown
  have w6 := num_lt (n := dn) (b := b) hdg 6 2
  have w8 := num_lt (n := dn) (b := b) hdg 8 48
  have w6 : num dn dg b 6 2 < 281474976710656 := w6
  have w8 : num dn dg b 8 48 < 18446744073709551616 := w8
  have n36 := hN (.methodLinkNest RX1 36 yX0_isWhole "SegmentLog") (by decide +kernel)
  have ini_X0 := hts _ (List.mem_cons_of_mem _ tw_85)
  have im_yX0_isWhole := hts _ (List.mem_cons_of_mem _ tw_447)
  have se_yX0_isWhole := hts _ (List.mem_cons_of_mem _ tw_41)
  have n42 := hN (.methodLinkNest RX1 42 yX0_value "SegmentLog") (by decide +kernel)
  have im_yX0_value := hts _ (List.mem_cons_of_mem _ tw_344)
  have se_yX0_value := hts _ (List.mem_cons_of_mem _ tw_25)
  have n45 := hN (.methodLinkNest RX1 45 yX0_number "SegmentLog") (by decide +kernel)
  have im_yX0_number := hts _ (List.mem_cons_of_mem _ tw_451)
  have se_yX0_number := hts _ (List.mem_cons_of_mem _ tw_42)
  have f22 := hts _ (List.mem_cons_of_mem _ tw_194)
  have in_X1 := (fun q hq => List.mem_cons_of_mem _ (inX1 q hq) : ∀ q ∈ wsX10, q ∈ (Cond.code yX1_read cX1_read 8 none :: TB))
  have f25 := hts _ (List.mem_cons_of_mem _ tw_196)
  refine lv_aload_n hx hb dX1_read_0 rfl (lv_at hl 0 rfl) ?_
  refine x_callv (va_runV (As := []) (rest := []) ⟨hx, hb, hml, hown, hts⟩ (c_He_clear (hW dg) ht f g x F) (cwV 0 hts (tbV tw_187 tw_189 tw_2 tw_90 tw_190) rfl rfl rfl (by decide +kernel) ⟨Nat.le_of_ble_eq_true rfl, Nat.le_of_ble_eq_true rfl⟩) ⟨x_blind, va_recv hK hP (ci := 1) (q0 := k0) rfl ((hW _).1 _ _ _ _), x_pre hK hP hD hN⟩ rfl rfl hl.1 rfl (lv_room (Nat.le_of_ble_eq_true rfl)) dX1_read_1 ⟨Nat.zero_le _, Nat.zero_le _⟩) hS (fun H locs hP hD hS => ?_)
  have hP : va_P (dC, dI) vwCl (Wd dg 0 0 1 F) H := hP
  have hD : va_D A (Wd dg 0 0 1 F) := hD
  refine lv_aload_n hx hb dX1_read_4 rfl (lv_at hl 1 rfl) ?_
  refine lv_iload_n hx hb dX1_read_5 rfl (lv_at hl 2 rfl) ?_
  refine x_calli (va_runVN (As := [.int (nI b)]) (rest := []) ⟨hx, hb, hml, hown, hts⟩ (c_Bl_isWhole (hWB 0 0 1 F) htB hdn dg hdg b (by omega)) ⟨(va_cnB 1 hts (tbG tw_448) rfl rfl rfl n36 ini_X0 (by decide +kernel) ⟨Nat.le_of_ble_eq_true rfl, Nat.le_of_ble_eq_true rfl⟩), im_yX0_isWhole, se_yX0_isWhole⟩ ⟨x_blind, va_recv hK hP (ci := 0) (q0 := j0) rfl ((hWB _ _ _ _).1 _), x_pre hK hP hD hN⟩ rfl rfl hl.1 rfl (lv_room (Nat.le_of_ble_eq_true rfl)) dX1_read_6 ⟨Nat.zero_le _, Nat.zero_le _⟩) hS (fun H locs hP hD hS => ?_)
  have hP : va_P (dC, dI) vwCl (Wd dg 0 0 1 F) H := hP
  have hD : va_D A (Wd dg 0 0 1 F) := hD
  refine x_if_eq_b (tgt := 22) hx hb dX1_read_9 (by decide) (fun c9 => ?_) (fun c9 => ?_)
  · have zz : hrd dn dg b F = (0, 0, 1, F) := by
      rw [hrd, if_neg (by first | (rw [c9]; simp; done) | exact fun q => c19 q.2)]
    have e1 : 0 = ((hrd dn dg b F).1) := by rw [zz]
    have h9 : Wd dg 0 0 1 F = Wd dg ((hrd dn dg b F).1) 0 1 F := by rw [← e1]
    have hP := x_wP h9 hP
    have hD := x_wD h9 hD
    have e2 : 0 = ((hrd dn dg b F).2.1) := by rw [zz]
    have h9 : Wd dg ((hrd dn dg b F).1) 0 1 F = Wd dg ((hrd dn dg b F).1) ((hrd dn dg b F).2.1) 1 F := by rw [← e2]
    have hP := x_wP h9 hP
    have hD := x_wD h9 hD
    have e3 : 1 = ((hrd dn dg b F).2.2.1) := by rw [zz]
    have h9 : Wd dg ((hrd dn dg b F).1) ((hrd dn dg b F).2.1) 1 F = Wd dg ((hrd dn dg b F).1) ((hrd dn dg b F).2.1) ((hrd dn dg b F).2.2.1) F := by rw [← e3]
    have hP := x_wP h9 hP
    have hD := x_wD h9 hD
    have e4 : F = ((hrd dn dg b F).2.2.2) := by rw [zz]
    have h9 : Wd dg ((hrd dn dg b F).1) ((hrd dn dg b F).2.1) ((hrd dn dg b F).2.2.1) F = Wd dg ((hrd dn dg b F).1) ((hrd dn dg b F).2.1) ((hrd dn dg b F).2.2.1) ((hrd dn dg b F).2.2.2) := by rw [← e4]
    have hP := x_wP h9 hP
    have hD := x_wD h9 hD
    exact hret dX1_read_22 hP hD hS
  · refine lv_aload_n hx hb dX1_read_12 rfl (lv_at hl 1 rfl) ?_
    refine lv_iload_n hx hb dX1_read_13 rfl (lv_at hl 2 rfl) ?_
    refine lv_iconst (v := nI 0) hx hb dX1_read_14 (by decide) ?_
    refine x_calli (va_runVN (As := [.int (nI b), .int (nI 0)]) (rest := []) ⟨hx, hb, hml, hown, hts⟩ (c_Bl_value (hWB 0 0 1 F) htB hdn dg hdg b 0 (by omega) (by omega)) ⟨(va_cnB 2 hts (tbG tw_345) rfl rfl rfl n42 ini_X0 (by decide +kernel) ⟨Nat.le_of_ble_eq_true rfl, Nat.le_of_ble_eq_true rfl⟩), im_yX0_value, se_yX0_value⟩ ⟨x_blind, va_recv hK hP (ci := 0) (q0 := j0) rfl ((hWB _ _ _ _).1 _), x_pre hK hP hD hN⟩ rfl rfl hl.1 rfl (lv_room (Nat.le_of_ble_eq_true rfl)) dX1_read_15 ⟨Nat.zero_le _, Nat.zero_le _⟩) hS (fun H locs hP hD hS => ?_)
    have hP : va_P (dC, dI) vwCl (Wd dg 0 0 1 F) H := hP
    have hD : va_D A (Wd dg 0 0 1 F) := hD
    have hv15 : bv dn dg b 0 < 256 := bv_lt hdg
    refine lv_iconst (v := nI 3) hx hb dX1_read_18 (by decide) ?_
    refine x_icmp_eq (tgt := 23) hx hb dX1_read_19 (by decide) (by omega) (by omega) (fun c19 => ?_) (fun c19 => ?_)
    · refine lv_aload_n hx hb dX1_read_23 rfl (lv_at hl 1 rfl) ?_
      refine lv_iload_n hx hb dX1_read_24 rfl (lv_at hl 2 rfl) ?_
      refine lv_iconst (v := nI 2) hx hb dX1_read_25 (by decide) ?_
      refine lv_bipush (v := nI 6) hx hb dX1_read_26 (by decide) ?_
      refine x_calll (va_runVN (As := [.int (nI b), .int (nI 2), .int (nI 6)]) (rest := []) ⟨hx, hb, hml, hown, hts⟩ (c_Bl_number (hWB 0 0 1 F) htB hdn dg hdg b 2 6 (by omega) (by omega) (by omega)) ⟨(va_cnB 3 hts (tbG tw_452) rfl rfl rfl n45 ini_X0 (by decide +kernel) ⟨Nat.le_of_ble_eq_true rfl, Nat.le_of_ble_eq_true rfl⟩), im_yX0_number, se_yX0_number⟩ ⟨x_blind, va_recv hK hP (ci := 0) (q0 := j0) rfl ((hWB _ _ _ _).1 _), x_pre hK hP hD hN⟩ rfl rfl hl.1 rfl (lv_room (Nat.le_of_ble_eq_true rfl)) dX1_read_28 ⟨Nat.zero_le _, Nat.zero_le _⟩) hS (fun H locs hP hD hS => ?_)
      have hP : va_P (dC, dI) vwCl (Wd dg 0 0 1 F) H := hP
      have hD : va_D A (Wd dg 0 0 1 F) := hD
      refine lv_lstore_n (lv' := [(3, .long (lN (num dn dg b 6 2))), (0, .ref a0), (1, .ref b0), (2, .int (nI b))]) hx hb dX1_read_31 rfl hl (by decide) rfl (fun ls hl => ?_)
      refine lv_aload_n hx hb dX1_read_32 rfl (lv_at hl 2 rfl) ?_
      refine lv_iload_n hx hb dX1_read_33 rfl (lv_at hl 3 rfl) ?_
      refine lv_bipush (v := nI 48) hx hb dX1_read_34 (by decide) ?_
      refine lv_bipush (v := nI 8) hx hb dX1_read_36 (by decide) ?_
      refine x_calll (va_runVN (As := [.int (nI b), .int (nI 48), .int (nI 8)]) (rest := []) ⟨hx, hb, hml, hown, hts⟩ (c_Bl_number (hWB 0 0 1 F) htB hdn dg hdg b 48 8 (by omega) (by omega) (by omega)) ⟨(va_cnB 3 hts (tbG tw_452) rfl rfl rfl n45 ini_X0 (by decide +kernel) ⟨Nat.le_of_ble_eq_true rfl, Nat.le_of_ble_eq_true rfl⟩), im_yX0_number, se_yX0_number⟩ ⟨x_blind, va_recv hK hP (ci := 0) (q0 := j0) rfl ((hWB _ _ _ _).1 _), x_pre hK hP hD hN⟩ rfl rfl hl.1 rfl (lv_room (Nat.le_of_ble_eq_true rfl)) dX1_read_38 ⟨Nat.zero_le _, Nat.zero_le _⟩) hS (fun H locs hP hD hS => ?_)
      have hP : va_P (dC, dI) vwCl (Wd dg 0 0 1 F) H := hP
      have hD : va_D A (Wd dg 0 0 1 F) := hD
      refine lv_lstore (lv' := [(5, .long (lN (num dn dg b 8 48))), (3, .long (lN (num dn dg b 6 2))), (0, .ref a0), (1, .ref b0), (2, .int (nI b))]) hx hb dX1_read_41 hl (by decide) rfl (fun ls hl => ?_)
      refine lv_lload_n hx hb dX1_read_43 rfl (lv_at hl 1 rfl) ?_
      refine x_calli (va_runS (As := [.long (lN (num dn dg b 6 2))]) (rest := []) ⟨hx, hb, hml, hown, hts⟩ (c_He_inRange (num dn dg b 6 2) (by omega)) (va_cwS 1 hts (tbS tw_456 tw_457 tw_90 tw_458) rfl rfl rfl (by decide +kernel) ⟨Nat.le_of_ble_eq_true rfl, Nat.le_of_ble_eq_true rfl⟩) ⟨x_blind, x_pre hK hP hD hN⟩ rfl rfl hl.1 rfl (lv_room (Nat.le_of_ble_eq_true rfl)) dX1_read_44 ⟨Nat.zero_le _, Nat.zero_le _⟩) hS (fun H locs hP hD hS => ?_)
      have hP : va_P (dC, dI) vwCl (Wd dg 0 0 1 F) H := hP
      have hD : va_D A (Wd dg 0 0 1 F) := hD
      refine x_if_eq_b (tgt := 73) hx hb dX1_read_47 (by decide) (fun c47 => ?_) (fun c47 => ?_)
      · refine lv_iconst (v := nI 0) hx hb dX1_read_73 (by decide) ?_
        refine lv_istore (lv' := [(7, .int (nI 0)), (5, .long (lN (num dn dg b 8 48))), (3, .long (lN (num dn dg b 6 2))), (0, .ref a0), (1, .ref b0), (2, .int (nI b))]) hx hb dX1_read_74 hl (by decide) rfl (fun ls hl => ?_)
        refine lv_iload hx hb dX1_read_76 (lv_at hl 0 rfl) ?_
        refine x_if_eq (tgt := 90) hx hb dX1_read_78 (by decide) (by decide) (fun c78 => ?_) (fun c78 => absurd c78 (by decide))
        refine lv_aload_n hx hb dX1_read_90 rfl (lv_at hl 3 rfl) ?_
        refine x_callv (va_runV (As := []) (rest := []) ⟨hx, hb, hml, hown, hts⟩ (c_He_clear (hW dg) ht 0 0 1 F) (cwV 0 hts (tbV tw_187 tw_189 tw_2 tw_90 tw_190) rfl rfl rfl (by decide +kernel) ⟨Nat.le_of_ble_eq_true rfl, Nat.le_of_ble_eq_true rfl⟩) ⟨x_blind, va_recv hK hP (ci := 1) (q0 := k0) rfl ((hW _).1 _ _ _ _), x_pre hK hP hD hN⟩ rfl rfl hl.1 rfl (lv_room (Nat.le_of_ble_eq_true rfl)) dX1_read_91 ⟨Nat.zero_le _, Nat.zero_le _⟩) hS (fun H locs hP hD hS => ?_)
        have hP : va_P (dC, dI) vwCl (Wd dg 0 0 1 F) H := hP
        have hD : va_D A (Wd dg 0 0 1 F) := hD
        have hk : ¬ hrk dn dg b = true := by
          intro q
          have q := of_decide_eq_true q
          first
          | exact absurd ⟨q.1, q.2.1⟩ (of_decide_eq_false c47)
          | exact absurd ⟨q.2.2.1, q.2.2.2.1⟩ (of_decide_eq_false c55)
          | exact c66 q.2.2.2.2
        have zz : hrd dn dg b F = (0, 0, 1, F) := by rw [hrd, if_pos ⟨c9, c19⟩, if_neg hk]
        have e5 : 0 = ((hrd dn dg b F).1) := by rw [zz]
        have h9 : Wd dg 0 0 1 F = Wd dg ((hrd dn dg b F).1) 0 1 F := by rw [← e5]
        have hP := x_wP h9 hP
        have hD := x_wD h9 hD
        have e6 : 0 = ((hrd dn dg b F).2.1) := by rw [zz]
        have h9 : Wd dg ((hrd dn dg b F).1) 0 1 F = Wd dg ((hrd dn dg b F).1) ((hrd dn dg b F).2.1) 1 F := by rw [← e6]
        have hP := x_wP h9 hP
        have hD := x_wD h9 hD
        have e7 : 1 = ((hrd dn dg b F).2.2.1) := by rw [zz]
        have h9 : Wd dg ((hrd dn dg b F).1) ((hrd dn dg b F).2.1) 1 F = Wd dg ((hrd dn dg b F).1) ((hrd dn dg b F).2.1) ((hrd dn dg b F).2.2.1) F := by rw [← e7]
        have hP := x_wP h9 hP
        have hD := x_wD h9 hD
        have e8 : F = ((hrd dn dg b F).2.2.2) := by rw [zz]
        have h9 : Wd dg ((hrd dn dg b F).1) ((hrd dn dg b F).2.1) ((hrd dn dg b F).2.2.1) F = Wd dg ((hrd dn dg b F).1) ((hrd dn dg b F).2.1) ((hrd dn dg b F).2.2.1) ((hrd dn dg b F).2.2.2) := by rw [← e8]
        have hP := x_wP h9 hP
        have hD := x_wD h9 hD
        exact hret dX1_read_94 hP hD hS
      · refine lv_lload hx hb dX1_read_50 (lv_at hl 0 rfl) ?_
        refine x_calli (va_runS (As := [.long (lN (num dn dg b 8 48))]) (rest := []) ⟨hx, hb, hml, hown, hts⟩ (c_He_inRange (num dn dg b 8 48) (by omega)) (va_cwS 1 hts (tbS tw_456 tw_457 tw_90 tw_458) rfl rfl rfl (by decide +kernel) ⟨Nat.le_of_ble_eq_true rfl, Nat.le_of_ble_eq_true rfl⟩) ⟨x_blind, x_pre hK hP hD hN⟩ rfl rfl hl.1 rfl (lv_room (Nat.le_of_ble_eq_true rfl)) dX1_read_52 ⟨Nat.zero_le _, Nat.zero_le _⟩) hS (fun H locs hP hD hS => ?_)
        have hP : va_P (dC, dI) vwCl (Wd dg 0 0 1 F) H := hP
        have hD : va_D A (Wd dg 0 0 1 F) := hD
        refine x_if_eq_b (tgt := 73) hx hb dX1_read_55 (by decide) (fun c55 => ?_) (fun c55 => ?_)
        · refine lv_iconst (v := nI 0) hx hb dX1_read_73 (by decide) ?_
          refine lv_istore (lv' := [(7, .int (nI 0)), (5, .long (lN (num dn dg b 8 48))), (3, .long (lN (num dn dg b 6 2))), (0, .ref a0), (1, .ref b0), (2, .int (nI b))]) hx hb dX1_read_74 hl (by decide) rfl (fun ls hl => ?_)
          refine lv_iload hx hb dX1_read_76 (lv_at hl 0 rfl) ?_
          refine x_if_eq (tgt := 90) hx hb dX1_read_78 (by decide) (by decide) (fun c78 => ?_) (fun c78 => absurd c78 (by decide))
          refine lv_aload_n hx hb dX1_read_90 rfl (lv_at hl 3 rfl) ?_
          refine x_callv (va_runV (As := []) (rest := []) ⟨hx, hb, hml, hown, hts⟩ (c_He_clear (hW dg) ht 0 0 1 F) (cwV 0 hts (tbV tw_187 tw_189 tw_2 tw_90 tw_190) rfl rfl rfl (by decide +kernel) ⟨Nat.le_of_ble_eq_true rfl, Nat.le_of_ble_eq_true rfl⟩) ⟨x_blind, va_recv hK hP (ci := 1) (q0 := k0) rfl ((hW _).1 _ _ _ _), x_pre hK hP hD hN⟩ rfl rfl hl.1 rfl (lv_room (Nat.le_of_ble_eq_true rfl)) dX1_read_91 ⟨Nat.zero_le _, Nat.zero_le _⟩) hS (fun H locs hP hD hS => ?_)
          have hP : va_P (dC, dI) vwCl (Wd dg 0 0 1 F) H := hP
          have hD : va_D A (Wd dg 0 0 1 F) := hD
          have hk : ¬ hrk dn dg b = true := by
            intro q
            have q := of_decide_eq_true q
            first
            | exact absurd ⟨q.1, q.2.1⟩ (of_decide_eq_false c47)
            | exact absurd ⟨q.2.2.1, q.2.2.2.1⟩ (of_decide_eq_false c55)
            | exact c66 q.2.2.2.2
          have zz : hrd dn dg b F = (0, 0, 1, F) := by rw [hrd, if_pos ⟨c9, c19⟩, if_neg hk]
          have e9 : 0 = ((hrd dn dg b F).1) := by rw [zz]
          have h9 : Wd dg 0 0 1 F = Wd dg ((hrd dn dg b F).1) 0 1 F := by rw [← e9]
          have hP := x_wP h9 hP
          have hD := x_wD h9 hD
          have e10 : 0 = ((hrd dn dg b F).2.1) := by rw [zz]
          have h9 : Wd dg ((hrd dn dg b F).1) 0 1 F = Wd dg ((hrd dn dg b F).1) ((hrd dn dg b F).2.1) 1 F := by rw [← e10]
          have hP := x_wP h9 hP
          have hD := x_wD h9 hD
          have e11 : 1 = ((hrd dn dg b F).2.2.1) := by rw [zz]
          have h9 : Wd dg ((hrd dn dg b F).1) ((hrd dn dg b F).2.1) 1 F = Wd dg ((hrd dn dg b F).1) ((hrd dn dg b F).2.1) ((hrd dn dg b F).2.2.1) F := by rw [← e11]
          have hP := x_wP h9 hP
          have hD := x_wD h9 hD
          have e12 : F = ((hrd dn dg b F).2.2.2) := by rw [zz]
          have h9 : Wd dg ((hrd dn dg b F).1) ((hrd dn dg b F).2.1) ((hrd dn dg b F).2.2.1) F = Wd dg ((hrd dn dg b F).1) ((hrd dn dg b F).2.1) ((hrd dn dg b F).2.2.1) ((hrd dn dg b F).2.2.2) := by rw [← e12]
          have hP := x_wP h9 hP
          have hD := x_wD h9 hD
          exact hret dX1_read_94 hP hD hS
        · refine lv_lload_n hx hb dX1_read_58 rfl (lv_at hl 1 rfl) ?_
          refine lv_ldc2 (v := lN 2) hx hb hown (hts _ (List.mem_cons_of_mem _ tw_460)) dX1_read_59 ?_
          refine lv_lrem hx hb dX1_read_62 (by decide) ?_
          refine x_topl (y := lN ((num dn dg b 6 2) % 2)) (x_lrem2 (by omega)) ?_
          refine lv_iload_n hx hb dX1_read_63 rfl (lv_at hl 4 rfl) ?_
          refine lv_i2l (v := lN b) hx hb dX1_read_64 (nI_l (by omega)) ?_
          refine W.lcmp hx hb dX1_read_65 ?_
          refine x_lif_ne (tgt := 73) hx hb dX1_read_66 (by decide) (fun c66 => ?_) (fun c66 => ?_)
          · have c66 : ¬ num dn dg b 6 2 % 2 = b := fun q => c66 (by rw [q])
            refine lv_iconst (v := nI 0) hx hb dX1_read_73 (by decide) ?_
            refine lv_istore (lv' := [(7, .int (nI 0)), (5, .long (lN (num dn dg b 8 48))), (3, .long (lN (num dn dg b 6 2))), (0, .ref a0), (1, .ref b0), (2, .int (nI b))]) hx hb dX1_read_74 hl (by decide) rfl (fun ls hl => ?_)
            refine lv_iload hx hb dX1_read_76 (lv_at hl 0 rfl) ?_
            refine x_if_eq (tgt := 90) hx hb dX1_read_78 (by decide) (by decide) (fun c78 => ?_) (fun c78 => absurd c78 (by decide))
            refine lv_aload_n hx hb dX1_read_90 rfl (lv_at hl 3 rfl) ?_
            refine x_callv (va_runV (As := []) (rest := []) ⟨hx, hb, hml, hown, hts⟩ (c_He_clear (hW dg) ht 0 0 1 F) (cwV 0 hts (tbV tw_187 tw_189 tw_2 tw_90 tw_190) rfl rfl rfl (by decide +kernel) ⟨Nat.le_of_ble_eq_true rfl, Nat.le_of_ble_eq_true rfl⟩) ⟨x_blind, va_recv hK hP (ci := 1) (q0 := k0) rfl ((hW _).1 _ _ _ _), x_pre hK hP hD hN⟩ rfl rfl hl.1 rfl (lv_room (Nat.le_of_ble_eq_true rfl)) dX1_read_91 ⟨Nat.zero_le _, Nat.zero_le _⟩) hS (fun H locs hP hD hS => ?_)
            have hP : va_P (dC, dI) vwCl (Wd dg 0 0 1 F) H := hP
            have hD : va_D A (Wd dg 0 0 1 F) := hD
            have hk : ¬ hrk dn dg b = true := by
              intro q
              have q := of_decide_eq_true q
              first
              | exact absurd ⟨q.1, q.2.1⟩ (of_decide_eq_false c47)
              | exact absurd ⟨q.2.2.1, q.2.2.2.1⟩ (of_decide_eq_false c55)
              | exact c66 q.2.2.2.2
            have zz : hrd dn dg b F = (0, 0, 1, F) := by rw [hrd, if_pos ⟨c9, c19⟩, if_neg hk]
            have e13 : 0 = ((hrd dn dg b F).1) := by rw [zz]
            have h9 : Wd dg 0 0 1 F = Wd dg ((hrd dn dg b F).1) 0 1 F := by rw [← e13]
            have hP := x_wP h9 hP
            have hD := x_wD h9 hD
            have e14 : 0 = ((hrd dn dg b F).2.1) := by rw [zz]
            have h9 : Wd dg ((hrd dn dg b F).1) 0 1 F = Wd dg ((hrd dn dg b F).1) ((hrd dn dg b F).2.1) 1 F := by rw [← e14]
            have hP := x_wP h9 hP
            have hD := x_wD h9 hD
            have e15 : 1 = ((hrd dn dg b F).2.2.1) := by rw [zz]
            have h9 : Wd dg ((hrd dn dg b F).1) ((hrd dn dg b F).2.1) 1 F = Wd dg ((hrd dn dg b F).1) ((hrd dn dg b F).2.1) ((hrd dn dg b F).2.2.1) F := by rw [← e15]
            have hP := x_wP h9 hP
            have hD := x_wD h9 hD
            have e16 : F = ((hrd dn dg b F).2.2.2) := by rw [zz]
            have h9 : Wd dg ((hrd dn dg b F).1) ((hrd dn dg b F).2.1) ((hrd dn dg b F).2.2.1) F = Wd dg ((hrd dn dg b F).1) ((hrd dn dg b F).2.1) ((hrd dn dg b F).2.2.1) ((hrd dn dg b F).2.2.2) := by rw [← e16]
            have hP := x_wP h9 hP
            have hD := x_wD h9 hD
            exact hret dX1_read_94 hP hD hS
          · have c66 : num dn dg b 6 2 % 2 = b := lN_inj (by omega) (by omega) c66
            refine lv_iconst (v := nI 1) hx hb dX1_read_69 (by decide) ?_
            refine lv_goto (tgt := 74) hx hb dX1_read_70 (by decide) ?_
            refine lv_istore (lv' := [(7, .int (nI 1)), (5, .long (lN (num dn dg b 8 48))), (3, .long (lN (num dn dg b 6 2))), (0, .ref a0), (1, .ref b0), (2, .int (nI b))]) hx hb dX1_read_74 hl (by decide) rfl (fun ls hl => ?_)
            refine lv_iload hx hb dX1_read_76 (lv_at hl 0 rfl) ?_
            refine x_if_eq (tgt := 90) hx hb dX1_read_78 (by decide) (by decide) (fun c78 => absurd c78 (by decide)) (fun c78 => ?_)
            refine lv_aload_n hx hb dX1_read_81 rfl (lv_at hl 3 rfl) ?_
            refine lv_aload_n hx hb dX1_read_82 rfl (lv_at hl 4 rfl) ?_
            refine lv_iload_n hx hb dX1_read_83 rfl (lv_at hl 5 rfl) ?_
            refine x_calli (va_runV (As := [.ref b0, .int (nI b)]) (rest := []) ⟨hx, hb, hml, hown, hts⟩ (c_He_readFiles hW hWB ht htB hdn dg hdg 0 0 1 F hF b (by omega) (by omega)) (cwV 2 hts (tbV tw_461 tw_463 tw_43 tw_90 tw_464) rfl rfl rfl (by decide +kernel) ⟨Nat.le_of_ble_eq_true rfl, Nat.le_of_ble_eq_true rfl⟩) ⟨x_blind, va_recv hK hP (ci := 1) (q0 := k0) rfl ((hW _).1 _ _ _ _), x_pre hK hP hD hN⟩ rfl rfl hl.1 rfl (lv_room (Nat.le_of_ble_eq_true rfl)) dX1_read_84 ⟨Nat.zero_le _, Nat.zero_le _⟩) hS (fun H locs hP hD hS => ?_)
            have hP : va_P (dC, dI) vwCl (Wd dg ((hrf dn dg b F).2.1) 0 1 ((hrf dn dg b F).2.2)) H := hP
            have hD : va_D A (Wd dg ((hrf dn dg b F).2.1) 0 1 ((hrf dn dg b F).2.2)) := hD
            refine x_if_ne_b (tgt := 95) hx hb dX1_read_87 (by decide) (fun c87 => ?_) (fun c87 => ?_)
            · refine lv_aload_n hx hb dX1_read_95 rfl (lv_at hl 3 rfl) ?_
              refine lv_lload_n hx hb dX1_read_96 rfl (lv_at hl 2 rfl) ?_
              refine lv_l2i (v := nI (num dn dg b 6 2)) hx hb dX1_read_97 (lN_i _) ?_
              refine va_put (D := (dC, dI)) (ci := 1) (v := .int (nI (num dn dg b 6 2))) (ty := .int) (C := RX1) (T := TX1) (N := 4) hx hb hts in_X1 tyX1 tyX1_ok nmX1 hown hK hP hD hS k0 ((hW _).1 _ _ _ _) rfl 2 (by decide) f22 (fun _ h9 => h9) rfl (by decide +kernel) rfl rfl (Nat.le_of_ble_eq_true rfl) dX1_read_98 (fun H locs hP hD hS => ?_)
              have hP := x_wP ((hW _).2.2.1 _ _ _ _ ((hrf dn dg b F).2.1) (num dn dg b 6 2) 1) hP
              have hD := x_wD ((hW _).2.2.1 _ _ _ _ ((hrf dn dg b F).2.1) (num dn dg b 6 2) 1) hD
              have hP : va_P (dC, dI) vwCl (Wd dg ((hrf dn dg b F).2.1) (num dn dg b 6 2) 1 ((hrf dn dg b F).2.2)) H := hP
              have hD : va_D A (Wd dg ((hrf dn dg b F).2.1) (num dn dg b 6 2) 1 ((hrf dn dg b F).2.2)) := hD
              refine lv_aload_n hx hb dX1_read_101 rfl (lv_at hl 3 rfl) ?_
              refine lv_lload hx hb dX1_read_102 (lv_at hl 1 rfl) ?_
              refine lv_l2i (v := nI (num dn dg b 8 48)) hx hb dX1_read_104 (lN_i _) ?_
              refine va_put (D := (dC, dI)) (ci := 1) (v := .int (nI (num dn dg b 8 48))) (ty := .int) (C := RX1) (T := TX1) (N := 4) hx hb hts in_X1 tyX1 tyX1_ok nmX1 hown hK hP hD hS k0 ((hW _).1 _ _ _ _) rfl 3 (by decide) f25 (fun _ h9 => h9) rfl (by decide +kernel) rfl rfl (Nat.le_of_ble_eq_true rfl) dX1_read_105 (fun H locs hP hD hS => ?_)
              have hP := x_wP ((hW _).2.2.1 _ _ _ _ ((hrf dn dg b F).2.1) (num dn dg b 6 2) (num dn dg b 8 48)) hP
              have hD := x_wD ((hW _).2.2.1 _ _ _ _ ((hrf dn dg b F).2.1) (num dn dg b 6 2) (num dn dg b 8 48)) hD
              have hP : va_P (dC, dI) vwCl (Wd dg ((hrf dn dg b F).2.1) (num dn dg b 6 2) (num dn dg b 8 48) ((hrf dn dg b F).2.2)) H := hP
              have hD : va_D A (Wd dg ((hrf dn dg b F).2.1) (num dn dg b 6 2) (num dn dg b 8 48) ((hrf dn dg b F).2.2)) := hD
              have hk : hrk dn dg b = true := decide_eq_true ⟨(of_decide_eq_true c47).1, (of_decide_eq_true c47).2, (of_decide_eq_true c55).1, (of_decide_eq_true c55).2, c66⟩
              have zz : hrd dn dg b F = ((hrf dn dg b F).2.1, num dn dg b 6 2, num dn dg b 8 48, (hrf dn dg b F).2.2) := by rw [hrd, if_pos ⟨c9, c19⟩, if_pos hk, if_pos c87]
              have e17 : ((hrf dn dg b F).2.1) = ((hrd dn dg b F).1) := by rw [zz]
              have h9 : Wd dg ((hrf dn dg b F).2.1) (num dn dg b 6 2) (num dn dg b 8 48) ((hrf dn dg b F).2.2) = Wd dg ((hrd dn dg b F).1) (num dn dg b 6 2) (num dn dg b 8 48) ((hrf dn dg b F).2.2) := by rw [e17]
              have hP := x_wP h9 hP
              have hD := x_wD h9 hD
              have e18 : (num dn dg b 6 2) = ((hrd dn dg b F).2.1) := by rw [zz]
              have h9 : Wd dg ((hrd dn dg b F).1) (num dn dg b 6 2) (num dn dg b 8 48) ((hrf dn dg b F).2.2) = Wd dg ((hrd dn dg b F).1) ((hrd dn dg b F).2.1) (num dn dg b 8 48) ((hrf dn dg b F).2.2) := by rw [← e18]
              have hP := x_wP h9 hP
              have hD := x_wD h9 hD
              have e19 : (num dn dg b 8 48) = ((hrd dn dg b F).2.2.1) := by rw [zz]
              have h9 : Wd dg ((hrd dn dg b F).1) ((hrd dn dg b F).2.1) (num dn dg b 8 48) ((hrf dn dg b F).2.2) = Wd dg ((hrd dn dg b F).1) ((hrd dn dg b F).2.1) ((hrd dn dg b F).2.2.1) ((hrf dn dg b F).2.2) := by rw [← e19]
              have hP := x_wP h9 hP
              have hD := x_wD h9 hD
              have e20 : ((hrf dn dg b F).2.2) = ((hrd dn dg b F).2.2.2) := by rw [zz]
              have h9 : Wd dg ((hrd dn dg b F).1) ((hrd dn dg b F).2.1) ((hrd dn dg b F).2.2.1) ((hrf dn dg b F).2.2) = Wd dg ((hrd dn dg b F).1) ((hrd dn dg b F).2.1) ((hrd dn dg b F).2.2.1) ((hrd dn dg b F).2.2.2) := by rw [← e20]
              have hP := x_wP h9 hP
              have hD := x_wD h9 hD
              exact hret dX1_read_108 hP hD hS
            · refine lv_aload_n hx hb dX1_read_90 rfl (lv_at hl 3 rfl) ?_
              refine x_callv (va_runV (As := []) (rest := []) ⟨hx, hb, hml, hown, hts⟩ (c_He_clear (hW dg) ht ((hrf dn dg b F).2.1) 0 1 ((hrf dn dg b F).2.2)) (cwV 0 hts (tbV tw_187 tw_189 tw_2 tw_90 tw_190) rfl rfl rfl (by decide +kernel) ⟨Nat.le_of_ble_eq_true rfl, Nat.le_of_ble_eq_true rfl⟩) ⟨x_blind, va_recv hK hP (ci := 1) (q0 := k0) rfl ((hW _).1 _ _ _ _), x_pre hK hP hD hN⟩ rfl rfl hl.1 rfl (lv_room (Nat.le_of_ble_eq_true rfl)) dX1_read_91 ⟨Nat.zero_le _, Nat.zero_le _⟩) hS (fun H locs hP hD hS => ?_)
              have hP : va_P (dC, dI) vwCl (Wd dg 0 0 1 ((hrf dn dg b F).2.2)) H := hP
              have hD : va_D A (Wd dg 0 0 1 ((hrf dn dg b F).2.2)) := hD
              have hk : hrk dn dg b = true := decide_eq_true ⟨(of_decide_eq_true c47).1, (of_decide_eq_true c47).2, (of_decide_eq_true c55).1, (of_decide_eq_true c55).2, c66⟩
              have zz : hrd dn dg b F = (0, 0, 1, (hrf dn dg b F).2.2) := by rw [hrd, if_pos ⟨c9, c19⟩, if_pos hk, if_neg (by rw [c87]; decide)]
              have e21 : 0 = ((hrd dn dg b F).1) := by rw [zz]
              have h9 : Wd dg 0 0 1 ((hrf dn dg b F).2.2) = Wd dg ((hrd dn dg b F).1) 0 1 ((hrf dn dg b F).2.2) := by rw [← e21]
              have hP := x_wP h9 hP
              have hD := x_wD h9 hD
              have e22 : 0 = ((hrd dn dg b F).2.1) := by rw [zz]
              have h9 : Wd dg ((hrd dn dg b F).1) 0 1 ((hrf dn dg b F).2.2) = Wd dg ((hrd dn dg b F).1) ((hrd dn dg b F).2.1) 1 ((hrf dn dg b F).2.2) := by rw [← e22]
              have hP := x_wP h9 hP
              have hD := x_wD h9 hD
              have e23 : 1 = ((hrd dn dg b F).2.2.1) := by rw [zz]
              have h9 : Wd dg ((hrd dn dg b F).1) ((hrd dn dg b F).2.1) 1 ((hrf dn dg b F).2.2) = Wd dg ((hrd dn dg b F).1) ((hrd dn dg b F).2.1) ((hrd dn dg b F).2.2.1) ((hrf dn dg b F).2.2) := by rw [← e23]
              have hP := x_wP h9 hP
              have hD := x_wD h9 hD
              have e24 : ((hrf dn dg b F).2.2) = ((hrd dn dg b F).2.2.2) := by rw [zz]
              have h9 : Wd dg ((hrd dn dg b F).1) ((hrd dn dg b F).2.1) ((hrd dn dg b F).2.2.1) ((hrf dn dg b F).2.2) = Wd dg ((hrd dn dg b F).1) ((hrd dn dg b F).2.1) ((hrd dn dg b F).2.2.1) ((hrd dn dg b F).2.2.2) := by rw [← e24]
              have hP := x_wP h9 hP
              have hD := x_wD h9 hD
              exact hret dX1_read_94 hP hD hS
    · have zz : hrd dn dg b F = (0, 0, 1, F) := by
        rw [hrd, if_neg (by first | (rw [c9]; simp; done) | exact fun q => c19 q.2)]
      have e25 : 0 = ((hrd dn dg b F).1) := by rw [zz]
      have h9 : Wd dg 0 0 1 F = Wd dg ((hrd dn dg b F).1) 0 1 F := by rw [← e25]
      have hP := x_wP h9 hP
      have hD := x_wD h9 hD
      have e26 : 0 = ((hrd dn dg b F).2.1) := by rw [zz]
      have h9 : Wd dg ((hrd dn dg b F).1) 0 1 F = Wd dg ((hrd dn dg b F).1) ((hrd dn dg b F).2.1) 1 F := by rw [← e26]
      have hP := x_wP h9 hP
      have hD := x_wD h9 hD
      have e27 : 1 = ((hrd dn dg b F).2.2.1) := by rw [zz]
      have h9 : Wd dg ((hrd dn dg b F).1) ((hrd dn dg b F).2.1) 1 F = Wd dg ((hrd dn dg b F).1) ((hrd dn dg b F).2.1) ((hrd dn dg b F).2.2.1) F := by rw [← e27]
      have hP := x_wP h9 hP
      have hD := x_wD h9 hD
      have e28 : F = ((hrd dn dg b F).2.2.2) := by rw [zz]
      have h9 : Wd dg ((hrd dn dg b F).1) ((hrd dn dg b F).2.1) ((hrd dn dg b F).2.2.1) F = Wd dg ((hrd dn dg b F).1) ((hrd dn dg b F).2.1) ((hrd dn dg b F).2.2.1) ((hrd dn dg b F).2.2.2) := by rw [← e28]
      have hP := x_wP h9 hP
      have hD := x_wD h9 hD
      exact hret dX1_read_22 hP hD hS
