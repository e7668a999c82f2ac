set_option maxHeartbeats 4000000 in
set_option maxRecDepth 100000 in
theorem c_M_formatB {l : Launch} {dC : Nat → ClassId} {dI : Nat → Nat → Nat} {A : Nat → Prop} {b : Nat → Nat} {cB cI cL : ClassId} {rb : Nat} {rd : Nat → Nat} {rq : Nat} {rQ rw : Nat → Nat} {ra : Nat} {ro : Bool} {rn : Nat} {rk rv : Nat → Int64} {rf : Nat} {fN fF fB fR : Nat → Nat} {rl : Nat} {lB lR : Nat → Nat} {rt rg rx rz : Nat} (z : Int32) (hz : isI z.toInt64 (lN 4) (lN 64) = false) : Met l yX6_format (Cond.code yX6_format cX6_format 3 (some .int) :: TB) { frames := 1, cells := 0, slots := 0, locals := 25 } (xPre (fun _ => True) (dC, dI) A (tyS cB cI cL) (wM b cB cI cL rb rd rq rQ rw ra ro rn rk rv rf fN fF fB fR rl lB lR rt rg rx rz) [.ref (b 0), .int (z)]) (xQi (dC, dI) A ((-1)) (wM b cB cI cL rb rd rq rQ rw ra ro rn rk rv rf fN fF fB fR rl lB lR rt rg rx rz)) 0 0 A := by
  refine x_ofWi (cc := cX6_format) (maxL := 3) (by decide) rfl (Nat.le_of_ble_eq_true rfl) ?_
  intro p e s m args below meth c Q hx hb hml hts hown hK hN hP hD hS hret ls hl
  have hl : lv_has ls 3 [(0, .ref (b 0)), (1, .int (z))] := hl
  have hown : s.vm.findClass RX6 = some m.cls := hown
  refine lv_iload_n hx hb dX6_format_0 rfl (lv_at hl 1 rfl) ?_
  refine lv_i2l hx hb dX6_format_1 rfl ?_
  refine lv_ldc2 (v := lN 4) hx hb hown (hts _ (List.mem_cons_of_mem _ tw_597)) dX6_format_2 ?_
  refine lv_ldc2 (v := lN 64) hx hb hown (hts _ (List.mem_cons_of_mem _ tw_598)) dX6_format_5 ?_
  refine x_calli (va_runS (As := [.long (z.toInt64), .long (lN 4), .long (lN 64)]) (rest := []) ⟨hx, hb, hml, hown, hts⟩ (c_M_isIn z.toInt64 (lN 4) (lN 64)) (va_cwS 3 hts (tbS tw_599 tw_600 tw_91 tw_601) rfl rfl rfl (by decide +kernel) ⟨Nat.le_of_ble_eq_true rfl, Nat.le_of_ble_eq_true rfl⟩) ⟨y_blind, y_pre hK hP hD⟩ rfl rfl hl.1 rfl (lv_room (Nat.le_of_ble_eq_true rfl)) dX6_format_8 ⟨Nat.zero_le _, Nat.zero_le _⟩) hS (fun H locs hP hD hS => ?_)
  have hP : va_P (dC, dI) vwCl (wM b cB cI cL rb rd rq rQ rw ra ro rn rk rv rf fN fF fB fR rl lB lR rt rg rx rz) H := hP
  have hD : va_D A (wM b cB cI cL rb rd rq rQ rw ra ro rn rk rv rf fN fF fB fR rl lB lR rt rg rx rz) := hD
  refine x_if_ne_b (tgt := 16) hx hb dX6_format_11 (by decide) (fun c11 => ?_) (fun c11 => ?_)
  · exact absurd (hz.symm.trans c11) (by decide)
  · refine lv_iconst (v := (-1)) hx hb dX6_format_14 (by decide) ?_
    exact hret dX6_format_15 (by rfl) hP hD hS

set_option maxHeartbeats 4000000 in
set_option maxRecDepth 100000 in
theorem c_M_formatG {l : Launch} {dC : Nat → ClassId} {dI : Nat → Nat → Nat} {A : Nat → Prop} {b : Nat → Nat} {cB cI cL : ClassId} {rb : Nat} {rd : Nat → Nat} {rq : Nat} {rQ rw : Nat → Nat} {ra : Nat} {ro : Bool} {rn : Nat} {rk rv : Nat → Int64} {rf : Nat} {fN fF fB fR : Nat → Nat} {rl : Nat} {lB lR : Nat → Nat} {rt rg rx rz : Nat} (hrd : ∀ j, rd j < 256) (n : Nat) (hn1 : 4 ≤ n) (hn2 : n ≤ 64) : Met l yX6_format (Cond.code yX6_format cX6_format 3 (some .int) :: TB) { frames := 1, cells := 0, slots := 0, locals := 25 } (xPre (fun _ => True) (dC, dI) A (tyS cB cI cL) (wM b cB cI cL rb rd rq rQ rw ra ro rn rk rv rf fN fF fB fR rl lB lR rt rg rx rz) [.ref (b 0), .int (nI n)]) (xQi (dC, dI) A (nI 0) (wM b cB cI cL n (wz 4096 rd 0) 0 rQ rw ra true 0 rk rv 0 fN fF fB fR 0 lB lR 0 0 1 0)) 0 0 A := by
  refine x_ofWi (cc := cX6_format) (maxL := 3) (by decide) rfl (Nat.le_of_ble_eq_true rfl) ?_
  intro p e s m args below meth c Q hx hb hml hts hown hK hN hP hD hS hret ls hl
  have hl : lv_has ls 3 [(0, .ref (b 0)), (1, .int (nI n))] := hl
  have hown : s.vm.findClass RX6 = some m.cls := hown
  have f99 := hts _ (List.mem_cons_of_mem _ tw_606)
  have in_X6 := (fun q hq => List.mem_cons_of_mem _ (inX6 q hq) : ∀ q ∈ wsX60, q ∈ (Cond.code yX6_format cX6_format 3 (some .int) :: TB))
  have f105 := hts _ (List.mem_cons_of_mem _ tw_612)
  have f7 := hts _ (List.mem_cons_of_mem _ tw_607)
  refine lv_iload_n hx hb dX6_format_0 rfl (lv_at hl 1 rfl) ?_
  refine lv_i2l (v := lN n) hx hb dX6_format_1 (nI_l (by omega)) ?_
  refine lv_ldc2 (v := lN 4) hx hb hown (hts _ (List.mem_cons_of_mem _ tw_597)) dX6_format_2 ?_
  refine lv_ldc2 (v := lN 64) hx hb hown (hts _ (List.mem_cons_of_mem _ tw_598)) dX6_format_5 ?_
  refine x_calli (va_runS (As := [.long (lN n), .long (lN 4), .long (lN 64)]) (rest := []) ⟨hx, hb, hml, hown, hts⟩ (c_M_isInN n 4 64 (by omega) (by omega) (by omega)) (va_cwS 3 hts (tbS tw_599 tw_600 tw_91 tw_601) rfl rfl rfl (by decide +kernel) ⟨Nat.le_of_ble_eq_true rfl, Nat.le_of_ble_eq_true rfl⟩) ⟨y_blind, y_pre hK hP hD⟩ rfl rfl hl.1 rfl (lv_room (Nat.le_of_ble_eq_true rfl)) dX6_format_8 ⟨Nat.zero_le _, Nat.zero_le _⟩) hS (fun H locs hP hD hS => ?_)
  have hP : va_P (dC, dI) vwCl (wM b cB cI cL rb rd rq rQ rw ra ro rn rk rv rf fN fF fB fR rl lB lR rt rg rx rz) H := hP
  have hD : va_D A (wM b cB cI cL rb rd rq rQ rw ra ro rn rk rv rf fN fF fB fR rl lB lR rt rg rx rz) := hD
  refine x_if_ne_b (tgt := 16) hx hb dX6_format_11 (by decide) (fun c11 => ?_) (fun c11 => ?_)
  · refine lv_aload_n hx hb dX6_format_16 rfl (lv_at hl 0 rfl) ?_
    refine lv_iload_n hx hb dX6_format_17 rfl (lv_at hl 1 rfl) ?_
    refine va_put (D := (dC, dI)) (ci := 6) (v := .int (nI n)) (ty := .int) (C := RX6) (T := TX6) (N := 22) hx hb hts in_X6 tyX6 tyX6_ok nmX6 hown hK hP hD hS 0 rfl rfl 0 (by decide) f99 (fun _ h9 => h9) rfl (by decide +kernel) rfl rfl (Nat.le_of_ble_eq_true rfl) dX6_format_18 (fun H locs hP hD hS => ?_)
    have hP : va_P (dC, dI) vwCl (wM b cB cI cL n rd rq rQ rw ra ro rn rk rv rf fN fF fB fR rl lB lR rt rg rx rz) H := hP
    have hD : va_D A (wM b cB cI cL n rd rq rQ rw ra ro rn rk rv rf fN fF fB fR rl lB lR rt rg rx rz) := hD
    refine lv_iconst (v := nI 0) hx hb dX6_format_21 (by decide) ?_
    refine lv_istore_n (lv' := [(2, .int (nI 0)), (0, .ref (b 0)), (1, .int (nI n))]) hx hb dX6_format_22 rfl hl (by decide) rfl (fun ls hl => ?_)
    have L23 : ∀ (fu23 : Nat) (j : Nat) (g' : Nat → Nat), (4096 - j < fu23) → (j ≤ 4096) → (wz (4096 - j) g' j = wz 4096 rd 0) → ∀ (H : Heap) (locs : List Loc), va_P (dC, dI) vwCl (wM b cB cI cL n g' rq rQ rw ra ro rn rk rv rf fN fF fB fR rl lB lR rt rg rx rz) H → va_D A (wM b cB cI cL n g' rq rQ rw ra ro rn rk rv rf fN fF fB fR rl lB lR rt rg rx rz) → va_S A s.heap H locs → ∀ (ls : Array Slot), lv_has ls 3 [(0, .ref (b 0)), (1, .int (nI n)), (2, .int (nI j))] → W p l e { frames := 1, cells := 0, slots := 0, locals := 25 } s m args below meth c H locs 0 0 Q (F0 m 23 ls []) := by
      intro fu23
      induction fu23 with
      | zero => intro j g' hm; exact absurd hm (Nat.not_lt_zero _)
      | succ fu23 ih23 =>
        intro j g' hm i23_0 i23_1 H locs hP hD hS ls hl
        refine lv_iload_n hx hb dX6_format_23 rfl (lv_at hl 2 rfl) ?_
        refine lv_sipush (v := nI 4096) hx hb dX6_format_24 (by decide) ?_
        refine x_icmp_ge (tgt := 43) hx hb dX6_format_27 (by decide) (by omega) (by omega) (fun c27 => ?_) (fun c27 => ?_)
        · refine lv_aload_n hx hb dX6_format_43 rfl (lv_at hl 0 rfl) ?_
          refine x_callv (va_runV (As := []) (rest := []) ⟨hx, hb, hml, hown, hts⟩ (c_M_forget) (cwV 0 hts (tbV tw_602 tw_604 tw_60 tw_91 tw_605) rfl rfl rfl (by decide +kernel) ⟨Nat.le_of_ble_eq_true rfl, Nat.le_of_ble_eq_true rfl⟩) ⟨y_blind, va_recv hK hP (ci := 6) (q0 := 0) rfl rfl, y_pre hK hP hD⟩ rfl rfl hl.1 rfl (lv_room (Nat.le_of_ble_eq_true rfl)) dX6_format_44 ⟨Nat.zero_le _, Nat.zero_le _⟩) hS (fun H locs hP hD hS => ?_)
          have hP : va_P (dC, dI) vwCl (wM b cB cI cL n g' 0 rQ rw ra ro 0 rk rv 0 fN fF fB fR 0 lB lR 0 0 1 0) H := hP
          have hD : va_D A (wM b cB cI cL n g' 0 rQ rw ra ro 0 rk rv 0 fN fF fB fR 0 lB lR 0 0 1 0) := hD
          refine lv_aload_n hx hb dX6_format_47 rfl (lv_at hl 0 rfl) ?_
          refine lv_iconst (v := nI 1) hx hb dX6_format_48 (by decide) ?_
          refine x_top (y := bI true) rfl ?_
          refine va_put (D := (dC, dI)) (ci := 6) (v := .int (bI true)) (ty := .boolean) (C := RX6) (T := TX6) (N := 22) hx hb hts in_X6 tyX6 tyX6_ok nmX6 hown hK hP hD hS 0 rfl rfl 6 (by decide) f105 (fun _ h9 => h9) rfl (by decide +kernel) (x_narZ _) (x_fitZ _) (Nat.le_of_ble_eq_true rfl) dX6_format_49 (fun H locs hP hD hS => ?_)
          have hP : va_P (dC, dI) vwCl (wM b cB cI cL n g' 0 rQ rw ra true 0 rk rv 0 fN fF fB fR 0 lB lR 0 0 1 0) H := hP
          have hD : va_D A (wM b cB cI cL n g' 0 rQ rw ra true 0 rk rv 0 fN fF fB fR 0 lB lR 0 0 1 0) := hD
          refine lv_iconst (v := nI 0) hx hb dX6_format_52 (by decide) ?_
          have e1 : g' = (wz 4096 rd 0) := by have h := i23_1; rw [show 4096 - j = 0 by omega, wz] at h; exact h
          have h9 : wM b cB cI cL n g' 0 rQ rw ra true 0 rk rv 0 fN fF fB fR 0 lB lR 0 0 1 0 = wM b cB cI cL n (wz 4096 rd 0) 0 rQ rw ra true 0 rk rv 0 fN fF fB fR 0 lB lR 0 0 1 0 := by rw [← e1]
          have hP := x_wP h9 hP
          have hD := x_wD h9 hD
          exact hret dX6_format_53 (by rfl) hP hD hS
        · refine lv_aload_n hx hb dX6_format_30 rfl (lv_at hl 0 rfl) ?_
          refine va_get (D := (dC, dI)) (ci := 6) (v := .ref (b 1)) (C := RX6) (T := TX6) (N := 22) hx hb hts in_X6 hown hK hP 0 rfl rfl 1 (by decide) f7 (fun _ h9 => h9) rfl dX6_format_31 ?_
          refine lv_iload_n hx hb dX6_format_34 rfl (lv_at hl 2 rfl) ?_
          refine lv_iconst (v := nI 0) hx hb dX6_format_35 (by decide) ?_
          refine x_top (y := sb_b 0) (rfl) ?_
          refine x_bast hx hb hK hP hD hS 1 0 rfl rfl (by omega) (by decide) dX6_format_36 (fun H locs hP hD hS => ?_)
          have hP : va_P (dC, dI) vwCl (wM b cB cI cL n (va_up g' j 0) rq rQ rw ra ro rn rk rv rf fN fF fB fR rl lB lR rt rg rx rz) H := hP
          have hD : va_D A (wM b cB cI cL n (va_up g' j 0) rq rQ rw ra ro rn rk rv rf fN fF fB fR rl lB lR rt rg rx rz) := hD
          refine lv_iinc (v := nI (j + 1)) (lv' := [(2, .int (nI (j + 1))), (0, .ref (b 0)), (1, .int (nI n))]) hx hb dX6_format_37 hl (k := 2) rfl (x_inc _) (by decide) rfl (fun ls hl => ?_)
          refine lv_goto (tgt := 23) hx hb dX6_format_40 (by decide) ?_
          exact ih23 (j + 1) (va_up g' j 0) (by omega) (by omega) (by have h := i23_1; rw [show 4096 - j = (4096 - (j + 1)) + 1 by omega, wz] at h; exact h) _ _ hP hD hS ls (lv_sub hl [1, 2, 0] rfl)
    exact L23 (4096 - 0 + 1) 0 rd (by omega) (by omega) (by rw [Nat.sub_zero]) _ _ hP hD hS ls (lv_sub hl [1, 2, 0] rfl)
  · exact absurd (of_decide_eq_false c11) (by omega)

set_option maxHeartbeats 4000000 in
set_option maxRecDepth 100000 in
theorem c_M_addC {l : Launch} {dC : Nat → ClassId} {dI : Nat → Nat → Nat} {A : Nat → Prop} {b : Nat → Nat} {cB cI cL : ClassId} {rb : Nat} {rd : Nat → Nat} {rq : Nat} {rQ rw : Nat → Nat} {ra : Nat} {ro : Bool} {rn : Nat} {rk rv : Nat → Int64} {rf : Nat} {fN fF fB fR : Nat → Nat} {rl : Nat} {lB lR : Nat → Nat} {rt rg rx rz : Nat} (k v : Int64) (ho : ro = false) : Met l yX6_add (Cond.code yX6_add cX6_add 5 (some .int) :: TB) { frames := 4, cells := 0, slots := 0, locals := 89 } (xPre (fun _ => True) (dC, dI) A (tyS cB cI cL) (wM b cB cI cL rb rd rq rQ rw ra ro rn rk rv rf fN fF fB fR rl lB lR rt rg rx rz) [.ref (b 0), .long (k), .long (v)]) (xQi (dC, dI) A ((-4)) (wM b cB cI cL rb rd rq rQ rw ra ro rn rk rv rf fN fF fB fR rl lB lR rt rg rx rz)) 0 0 A := by
  refine x_ofWi (cc := cX6_add) (maxL := 5) (by decide) rfl (Nat.le_of_ble_eq_true rfl) ?_
  intro p e s m args below meth c Q hx hb hml hts hown hK hN hP hD hS hret ls hl
  have hl : lv_has ls 5 [(0, .ref (b 0)), (1, .long (k)), (3, .long (v))] := hl
  have hown : s.vm.findClass RX6 = some m.cls := hown
  have f105 := hts _ (List.mem_cons_of_mem _ tw_612)
  have in_X6 := (fun q hq => List.mem_cons_of_mem _ (inX6 q hq) : ∀ q ∈ wsX60, q ∈ (Cond.code yX6_add cX6_add 5 (some .int) :: TB))
  refine lv_aload_n hx hb dX6_add_0 rfl (lv_at hl 0 rfl) ?_
  refine va_get (D := (dC, dI)) (ci := 6) (v := .int (bI ro)) (C := RX6) (T := TX6) (N := 22) hx hb hts in_X6 hown hK hP 0 rfl rfl 6 (by decide) f105 (fun _ h9 => h9) rfl dX6_add_1 ?_
  refine x_if_ne_b (tgt := 10) hx hb dX6_add_4 (by decide) (fun c4 => ?_) (fun c4 => ?_)
  · exact absurd (ho.symm.trans c4) (by decide)
  · refine lv_bipush (v := (-4)) hx hb dX6_add_7 (by decide) ?_
    exact hret dX6_add_9 (by rfl) hP hD hS

set_option maxHeartbeats 4000000 in
set_option maxRecDepth 100000 in
theorem c_M_addF {l : Launch} {dC : Nat → ClassId} {dI : Nat → Nat → Nat} {A : Nat → Prop} {b : Nat → Nat} {cB cI cL : ClassId} {rb : Nat} {rd : Nat → Nat} {rq : Nat} {rQ rw : Nat → Nat} {ra : Nat} {ro : Bool} {rn : Nat} {rk rv : Nat → Int64} {rf : Nat} {fN fF fB fR : Nat → Nat} {rl : Nat} {lB lR : Nat → Nat} {rt rg rx rz : Nat} (hrb : rb ≤ 64) (hrf : rf ≤ 5) (hfF : ∀ j, fF j < 1048576) (hfB : ∀ j, fB j < 1048576) (hrl : rl ≤ 62) (hlB : ∀ j, lB j < 1048576) (k v : Int64) (ho : ro = true) (ht : rt = 2) (hfr : frM (usM rf fF fB rl lB) 1 (rb - 2) 2 0 = none) : Met l yX6_add (Cond.code yX6_add cX6_add 5 (some .int) :: TB) { frames := 4, cells := 0, slots := 0, locals := 89 } (xPre (fun _ => True) (dC, dI) A (tyS cB cI cL) (wM b cB cI cL rb rd rq rQ rw ra ro rn rk rv rf fN fF fB fR rl lB lR rt rg rx rz) [.ref (b 0), .long (k), .long (v)]) (xQi (dC, dI) A ((-3)) (wM b cB cI cL rb rd rq rQ rw ra ro rn rk rv rf fN fF fB fR rl lB lR rt rg rx rz)) 0 0 A := by
  refine x_ofWi (cc := cX6_add) (maxL := 5) (by decide) rfl (Nat.le_of_ble_eq_true rfl) ?_
  intro p e s m args below meth c Q hx hb hml hts hown hK hN hP hD hS hret ls hl
  have hl : lv_has ls 5 [(0, .ref (b 0)), (1, .long (k)), (3, .long (v))] := hl
  have hown : s.vm.findClass RX6 = some m.cls := hown
  have f105 := hts _ (List.mem_cons_of_mem _ tw_612)
  have in_X6 := (fun q hq => List.mem_cons_of_mem _ (inX6 q hq) : ∀ q ∈ wsX60, q ∈ (Cond.code yX6_add cX6_add 5 (some .int) :: TB))
  have f80 := hts _ (List.mem_cons_of_mem _ tw_624)
  refine lv_aload_n hx hb dX6_add_0 rfl (lv_at hl 0 rfl) ?_
  refine va_get (D := (dC, dI)) (ci := 6) (v := .int (bI ro)) (C := RX6) (T := TX6) (N := 22) hx hb hts in_X6 hown hK hP 0 rfl rfl 6 (by decide) f105 (fun _ h9 => h9) rfl dX6_add_1 ?_
  refine x_if_ne_b (tgt := 10) hx hb dX6_add_4 (by decide) (fun c4 => ?_) (fun c4 => ?_)
  · refine lv_aload_n hx hb dX6_add_10 rfl (lv_at hl 0 rfl) ?_
    refine va_get (D := (dC, dI)) (ci := 6) (v := .int (nI rt)) (C := RX6) (T := TX6) (N := 22) hx hb hts in_X6 hown hK hP 0 rfl rfl 18 (by decide) f80 (fun _ h9 => h9) rfl dX6_add_11 ?_
    refine lv_iconst (v := nI 2) hx hb dX6_add_14 (by decide) ?_
    refine x_icmp_ne (tgt := 29) hx hb dX6_add_15 (by decide) (by omega) (by omega) (fun c15 => ?_) (fun c15 => ?_)
    · exact absurd ht c15
    · refine lv_aload_n hx hb dX6_add_18 rfl (lv_at hl 0 rfl) ?_
      refine lv_iconst (v := nI 1) hx hb dX6_add_19 (by decide) ?_
      refine x_calli (va_runV (As := [.int (nI 1)]) (rest := []) ⟨hx, hb, hml, hown, hts⟩ (c_M_free (by omega) (by omega) hfF hfB (by omega) hlB 1 (by omega) (by omega)) (cwV 1 hts (tbV tw_678 tw_680 tw_61 tw_91 tw_681) rfl rfl rfl (by decide +kernel) ⟨Nat.le_of_ble_eq_true rfl, Nat.le_of_ble_eq_true rfl⟩) ⟨y_blind, va_recv hK hP (ci := 6) (q0 := 0) rfl rfl, y_pre hK hP hD⟩ rfl rfl hl.1 rfl (lv_room (Nat.le_of_ble_eq_true rfl)) dX6_add_20 ⟨Nat.zero_le _, Nat.zero_le _⟩) hS (fun H locs hP hD hS => ?_)
      have hP : va_P (dC, dI) vwCl (wM b cB cI cL rb rd rq rQ rw ra ro rn rk rv rf fN fF fB fR rl lB lR rt rg rx rz) H := hP
      have hD : va_D A (wM b cB cI cL rb rd rq rQ rw ra ro rn rk rv rf fN fF fB fR rl lB lR rt rg rx rz) := hD
      refine lv_if_ge (tgt := 29) hx hb dX6_add_23 (by decide) (fun c23 => ?_) (fun c23 => ?_)
      · exact absurd c23 (by rw [hfr]; decide)
      · refine lv_bipush (v := (-3)) hx hb dX6_add_26 (by decide) ?_
        exact hret dX6_add_28 (by rfl) hP hD hS
  · exact absurd (ho.symm.trans c4) (by decide)

set_option maxHeartbeats 4000000 in
set_option maxRecDepth 100000 in
theorem c_M_addN {l : Launch} {dC : Nat → ClassId} {dI : Nat → Nat → Nat} {A : Nat → Prop} {b : Nat → Nat} {cB cI cL : ClassId} {rb : Nat} {rd : Nat → Nat} {rq : Nat} {rQ rw : Nat → Nat} {ra : Nat} {ro : Bool} {rn : Nat} {rk rv : Nat → Int64} {rf : Nat} {fN fF fB fR : Nat → Nat} {rl : Nat} {lB lR : Nat → Nat} {rt rg rx rz : Nat} (hrb : rb ≤ 64) (hrn : rn ≤ 210) (hrt : rt ≤ rn ∧ rt ≤ 3) (hrx : rx < 2 ^ 30 ∧ rt ≤ rx) (k v : Int64) (ho : ro = true) (ht : rt < 2) : Met l yX6_add (Cond.code yX6_add cX6_add 5 (some .int) :: TB) { frames := 4, cells := 0, slots := 0, locals := 89 } (xPre (fun _ => True) (dC, dI) A (tyS cB cI cL) (wM b cB cI cL rb rd rq rQ rw ra ro rn rk rv rf fN fF fB fR rl lB lR rt rg rx rz) [.ref (b 0), .long (k), .long (v)]) (xQi (dC, dI) A (nI rx) (wM b cB cI cL rb rd rq rQ rw ra ro (rn + 1) (va_up rk rn k) (va_up rv rn v) rf fN fF fB fR rl lB lR (rt + 1) rg (rx + 1) rz)) 0 0 A := by
  refine x_ofWi (cc := cX6_add) (maxL := 5) (by decide) rfl (Nat.le_of_ble_eq_true rfl) ?_
  intro p e s m args below meth c Q hx hb hml hts hown hK hN hP hD hS hret ls hl
  have hl : lv_has ls 5 [(0, .ref (b 0)), (1, .long (k)), (3, .long (v))] := hl
  have hown : s.vm.findClass RX6 = some m.cls := hown
  have f105 := hts _ (List.mem_cons_of_mem _ tw_612)
  have in_X6 := (fun q hq => List.mem_cons_of_mem _ (inX6 q hq) : ∀ q ∈ wsX60, q ∈ (Cond.code yX6_add cX6_add 5 (some .int) :: TB))
  have f80 := hts _ (List.mem_cons_of_mem _ tw_624)
  have f20 := hts _ (List.mem_cons_of_mem _ tw_614)
  have f71 := hts _ (List.mem_cons_of_mem _ tw_613)
  have f24 := hts _ (List.mem_cons_of_mem _ tw_615)
  have f87 := hts _ (List.mem_cons_of_mem _ tw_626)
  refine lv_aload_n hx hb dX6_add_0 rfl (lv_at hl 0 rfl) ?_
  refine va_get (D := (dC, dI)) (ci := 6) (v := .int (bI ro)) (C := RX6) (T := TX6) (N := 22) hx hb hts in_X6 hown hK hP 0 rfl rfl 6 (by decide) f105 (fun _ h9 => h9) rfl dX6_add_1 ?_
  refine x_if_ne_b (tgt := 10) hx hb dX6_add_4 (by decide) (fun c4 => ?_) (fun c4 => ?_)
  · refine lv_aload_n hx hb dX6_add_10 rfl (lv_at hl 0 rfl) ?_
    refine va_get (D := (dC, dI)) (ci := 6) (v := .int (nI rt)) (C := RX6) (T := TX6) (N := 22) hx hb hts in_X6 hown hK hP 0 rfl rfl 18 (by decide) f80 (fun _ h9 => h9) rfl dX6_add_11 ?_
    refine lv_iconst (v := nI 2) hx hb dX6_add_14 (by decide) ?_
    refine x_icmp_ne (tgt := 29) hx hb dX6_add_15 (by decide) (by omega) (by omega) (fun c15 => ?_) (fun c15 => ?_)
    · refine lv_aload_n hx hb dX6_add_29 rfl (lv_at hl 0 rfl) ?_
      refine va_get (D := (dC, dI)) (ci := 6) (v := .ref (b 4)) (C := RX6) (T := TX6) (N := 22) hx hb hts in_X6 hown hK hP 0 rfl rfl 8 (by decide) f20 (fun _ h9 => h9) rfl dX6_add_30 ?_
      refine lv_aload_n hx hb dX6_add_33 rfl (lv_at hl 0 rfl) ?_
      refine va_get (D := (dC, dI)) (ci := 6) (v := .int (nI rn)) (C := RX6) (T := TX6) (N := 22) hx hb hts in_X6 hown hK hP 0 rfl rfl 7 (by decide) f71 (fun _ h9 => h9) rfl dX6_add_34 ?_
      refine lv_lload_n hx hb dX6_add_37 rfl (lv_at hl 1 rfl) ?_
      refine x_last hx hb hK hP hD hS 4 2 rfl rfl (by omega) (by decide) dX6_add_38 (fun H locs hP hD hS => ?_)
      have hP : va_P (dC, dI) vwCl (wM b cB cI cL rb rd rq rQ rw ra ro rn (va_up rk rn k) rv rf fN fF fB fR rl lB lR rt rg rx rz) H := hP
      have hD : va_D A (wM b cB cI cL rb rd rq rQ rw ra ro rn (va_up rk rn k) rv rf fN fF fB fR rl lB lR rt rg rx rz) := hD
      refine lv_aload_n hx hb dX6_add_39 rfl (lv_at hl 0 rfl) ?_
      refine va_get (D := (dC, dI)) (ci := 6) (v := .ref (b 5)) (C := RX6) (T := TX6) (N := 22) hx hb hts in_X6 hown hK hP 0 rfl rfl 9 (by decide) f24 (fun _ h9 => h9) rfl dX6_add_40 ?_
      refine lv_aload_n hx hb dX6_add_43 rfl (lv_at hl 0 rfl) ?_
      refine lv_dup hx hb dX6_add_44 rfl ?_
      refine va_get (D := (dC, dI)) (ci := 6) (v := .int (nI rn)) (C := RX6) (T := TX6) (N := 22) hx hb hts in_X6 hown hK hP 0 rfl rfl 7 (by decide) f71 (fun _ h9 => h9) rfl dX6_add_45 ?_
      refine lv_dup_x1 hx hb dX6_add_48 rfl rfl ?_
      refine lv_iconst (v := nI 1) hx hb dX6_add_49 (by decide) ?_
      refine x_iadd hx hb dX6_add_50 ?_
      refine va_put (D := (dC, dI)) (ci := 6) (v := .int (nI (rn + 1))) (ty := .int) (C := RX6) (T := TX6) (N := 22) hx hb hts in_X6 tyX6 tyX6_ok nmX6 hown hK hP hD hS 0 rfl rfl 7 (by decide) f71 (fun _ h9 => h9) rfl (by decide +kernel) rfl rfl (Nat.le_of_ble_eq_true rfl) dX6_add_51 (fun H locs hP hD hS => ?_)
      have hP : va_P (dC, dI) vwCl (wM b cB cI cL rb rd rq rQ rw ra ro (rn + 1) (va_up rk rn k) rv rf fN fF fB fR rl lB lR rt rg rx rz) H := hP
      have hD : va_D A (wM b cB cI cL rb rd rq rQ rw ra ro (rn + 1) (va_up rk rn k) rv rf fN fF fB fR rl lB lR rt rg rx rz) := hD
      refine lv_lload_n hx hb dX6_add_54 rfl (lv_at hl 2 rfl) ?_
      refine x_last hx hb hK hP hD hS 5 2 rfl rfl (by omega) (by decide) dX6_add_55 (fun H locs hP hD hS => ?_)
      have hP : va_P (dC, dI) vwCl (wM b cB cI cL rb rd rq rQ rw ra ro (rn + 1) (va_up rk rn k) (va_up rv rn v) rf fN fF fB fR rl lB lR rt rg rx rz) H := hP
      have hD : va_D A (wM b cB cI cL rb rd rq rQ rw ra ro (rn + 1) (va_up rk rn k) (va_up rv rn v) rf fN fF fB fR rl lB lR rt rg rx rz) := hD
      refine lv_aload_n hx hb dX6_add_56 rfl (lv_at hl 0 rfl) ?_
      refine lv_dup hx hb dX6_add_57 rfl ?_
      refine va_get (D := (dC, dI)) (ci := 6) (v := .int (nI rt)) (C := RX6) (T := TX6) (N := 22) hx hb hts in_X6 hown hK hP 0 rfl rfl 18 (by decide) f80 (fun _ h9 => h9) rfl dX6_add_58 ?_
      refine lv_iconst (v := nI 1) hx hb dX6_add_61 (by decide) ?_
      refine x_iadd hx hb dX6_add_62 ?_
      refine va_put (D := (dC, dI)) (ci := 6) (v := .int (nI (rt + 1))) (ty := .int) (C := RX6) (T := TX6) (N := 22) hx hb hts in_X6 tyX6 tyX6_ok nmX6 hown hK hP hD hS 0 rfl rfl 18 (by decide) f80 (fun _ h9 => h9) rfl (by decide +kernel) rfl rfl (Nat.le_of_ble_eq_true rfl) dX6_add_63 (fun H locs hP hD hS => ?_)
      have hP : va_P (dC, dI) vwCl (wM b cB cI cL rb rd rq rQ rw ra ro (rn + 1) (va_up rk rn k) (va_up rv rn v) rf fN fF fB fR rl lB lR (rt + 1) rg rx rz) H := hP
      have hD : va_D A (wM b cB cI cL rb rd rq rQ rw ra ro (rn + 1) (va_up rk rn k) (va_up rv rn v) rf fN fF fB fR rl lB lR (rt + 1) rg rx rz) := hD
      refine lv_aload_n hx hb dX6_add_66 rfl (lv_at hl 0 rfl) ?_
      refine lv_dup hx hb dX6_add_67 rfl ?_
      refine va_get (D := (dC, dI)) (ci := 6) (v := .long (lN rx)) (C := RX6) (T := TX6) (N := 22) hx hb hts in_X6 hown hK hP 0 rfl rfl 20 (by decide) f87 (fun _ h9 => h9) rfl dX6_add_68 ?_
      refine lv_lconst (v := lN 1) hx hb dX6_add_71 rfl ?_
      refine lv_ladd hx hb dX6_add_72 ?_
      refine x_topl (y := lN (rx + 1)) (lN_add _ _) ?_
      refine va_put (D := (dC, dI)) (ci := 6) (v := .long (lN (rx + 1))) (ty := .long) (C := RX6) (T := TX6) (N := 22) hx hb hts in_X6 tyX6 tyX6_ok nmX6 hown hK hP hD hS 0 rfl rfl 20 (by decide) f87 (fun _ h9 => h9) rfl (by decide +kernel) rfl rfl (Nat.le_of_ble_eq_true rfl) dX6_add_73 (fun H locs hP hD hS => ?_)
      have hP : va_P (dC, dI) vwCl (wM b cB cI cL rb rd rq rQ rw ra ro (rn + 1) (va_up rk rn k) (va_up rv rn v) rf fN fF fB fR rl lB lR (rt + 1) rg (rx + 1) rz) H := hP
      have hD : va_D A (wM b cB cI cL rb rd rq rQ rw ra ro (rn + 1) (va_up rk rn k) (va_up rv rn v) rf fN fF fB fR rl lB lR (rt + 1) rg (rx + 1) rz) := hD
      refine lv_aload_n hx hb dX6_add_76 rfl (lv_at hl 0 rfl) ?_
      refine va_get (D := (dC, dI)) (ci := 6) (v := .int (nI (rt + 1))) (C := RX6) (T := TX6) (N := 22) hx hb hts in_X6 hown hK hP 0 rfl rfl 18 (by decide) f80 (fun _ h9 => h9) rfl dX6_add_77 ?_
      refine lv_iconst (v := nI 3) hx hb dX6_add_80 (by decide) ?_
      refine x_icmp_ne (tgt := 89) hx hb dX6_add_81 (by decide) (by omega) (by omega) (fun c81 => ?_) (fun c81 => ?_)
      · refine lv_aload_n hx hb dX6_add_89 rfl (lv_at hl 0 rfl) ?_
        refine va_get (D := (dC, dI)) (ci := 6) (v := .long (lN (rx + 1))) (C := RX6) (T := TX6) (N := 22) hx hb hts in_X6 hown hK hP 0 rfl rfl 20 (by decide) f87 (fun _ h9 => h9) rfl dX6_add_90 ?_
        refine lv_lconst (v := lN 1) hx hb dX6_add_93 rfl ?_
        refine lv_lsub hx hb dX6_add_94 ?_
        refine x_topl (y := lN rx) (by rw [lN_sub (by omega), Nat.add_sub_cancel]) ?_
        refine lv_l2i (v := nI rx) hx hb dX6_add_95 (lN_i _) ?_
        exact hret dX6_add_96 (by rfl) hP hD hS
      · exact absurd c81 (by omega)
    · exact absurd c15 (by omega)
  · exact absurd (ho.symm.trans c4) (by decide)

set_option maxHeartbeats 4000000 in
set_option maxRecDepth 100000 in
theorem c_M_addL {l : Launch} {dC : Nat → ClassId} {dI : Nat → Nat → Nat} {A : Nat → Prop} {b : Nat → Nat} {cB cI cL : ClassId} {rb : Nat} {rd : Nat → Nat} {rq : Nat} {rQ rw : Nat → Nat} {ra : Nat} {ro : Bool} {rn : Nat} {rk rv : Nat → Int64} {rf : Nat} {fN fF fB fR : Nat → Nat} {rl : Nat} {lB lR : Nat → Nat} {rt rg rx rz : Nat} (hrb : rb ≤ 64) (hrw : ∀ j, rw j < 256) (hrQ : ∀ j, rQ j < 64) (hrq : rq ≤ 128) (hrn : rn ≤ 210) (hrf : rf ≤ 5) (hfF : ∀ j, fF j < 1048576) (hfB : ∀ j, fB j < 1048576) (hrl : rl ≤ 62) (hlB : ∀ j, lB j < 1048576) (hrt : rt ≤ rn ∧ rt ≤ 3) (hrx : rx < 2 ^ 30 ∧ rt ≤ rx) (k v : Int64) (y : Nat) (ho : ro = true) (ht : rt = 2) (hfr : frM (usM rf fF fB rl lB) 1 (rb - 2) 2 0 = some y) (hq1 : rq < 128) (hl1 : rl < 62) (hn1 : rn < 210) (hx1 : rx + 1 < 2 ^ 30) : Met l yX6_add (Cond.code yX6_add cX6_add 5 (some .int) :: TB) { frames := 4, cells := 0, slots := 0, locals := 89 } (xPre (fun _ => True) (dC, dI) A (tyS cB cI cL) (wM b cB cI cL rb rd rq rQ rw ra ro rn rk rv rf fN fF fB fR rl lB lR rt rg rx rz) [.ref (b 0), .long (k), .long (v)]) (xQi (dC, dI) A (nI rx) (wM b cB cI cL rb rd (rq + 1) (va_up rQ rq y) (wlG rq (rt + 1) (rx + 1 - (rt + 1)) (rn + 1 - (rt + 1)) (va_up rk rn k) (va_up rv rn v) y rw) (64 * rq) ro (rn + 1) (va_up rk rn k) (va_up rv rn v) rf fN fF fB fR (rl + 1) (va_up lB rl y) (va_up lR rl (rt + 1)) 0 rg (rx + 1) rz)) 0 0 A := by
  refine x_ofWi (cc := cX6_add) (maxL := 5) (by decide) rfl (Nat.le_of_ble_eq_true rfl) ?_
  intro p e s m args below meth c Q hx hb hml hts hown hK hN hP hD hS hret ls hl
  have hl : lv_has ls 5 [(0, .ref (b 0)), (1, .long (k)), (3, .long (v))] := hl
  have hown : s.vm.findClass RX6 = some m.cls := hown
  have hyb := frM_lt (by decide) hfr
  have f105 := hts _ (List.mem_cons_of_mem _ tw_612)
  have in_X6 := (fun q hq => List.mem_cons_of_mem _ (inX6 q hq) : ∀ q ∈ wsX60, q ∈ (Cond.code yX6_add cX6_add 5 (some .int) :: TB))
  have f80 := hts _ (List.mem_cons_of_mem _ tw_624)
  have f20 := hts _ (List.mem_cons_of_mem _ tw_614)
  have f71 := hts _ (List.mem_cons_of_mem _ tw_613)
  have f24 := hts _ (List.mem_cons_of_mem _ tw_615)
  have f87 := hts _ (List.mem_cons_of_mem _ tw_626)
  refine lv_aload_n hx hb dX6_add_0 rfl (lv_at hl 0 rfl) ?_
  refine va_get (D := (dC, dI)) (ci := 6) (v := .int (bI ro)) (C := RX6) (T := TX6) (N := 22) hx hb hts in_X6 hown hK hP 0 rfl rfl 6 (by decide) f105 (fun _ h9 => h9) rfl dX6_add_1 ?_
  refine x_if_ne_b (tgt := 10) hx hb dX6_add_4 (by decide) (fun c4 => ?_) (fun c4 => ?_)
  · refine lv_aload_n hx hb dX6_add_10 rfl (lv_at hl 0 rfl) ?_
    refine va_get (D := (dC, dI)) (ci := 6) (v := .int (nI rt)) (C := RX6) (T := TX6) (N := 22) hx hb hts in_X6 hown hK hP 0 rfl rfl 18 (by decide) f80 (fun _ h9 => h9) rfl dX6_add_11 ?_
    refine lv_iconst (v := nI 2) hx hb dX6_add_14 (by decide) ?_
    refine x_icmp_ne (tgt := 29) hx hb dX6_add_15 (by decide) (by omega) (by omega) (fun c15 => ?_) (fun c15 => ?_)
    · exact absurd ht c15
    · refine lv_aload_n hx hb dX6_add_18 rfl (lv_at hl 0 rfl) ?_
      refine lv_iconst (v := nI 1) hx hb dX6_add_19 (by decide) ?_
      refine x_calli (va_runV (As := [.int (nI 1)]) (rest := []) ⟨hx, hb, hml, hown, hts⟩ (c_M_free (by omega) (by omega) hfF hfB (by omega) hlB 1 (by omega) (by omega)) (cwV 1 hts (tbV tw_678 tw_680 tw_61 tw_91 tw_681) rfl rfl rfl (by decide +kernel) ⟨Nat.le_of_ble_eq_true rfl, Nat.le_of_ble_eq_true rfl⟩) ⟨y_blind, va_recv hK hP (ci := 6) (q0 := 0) rfl rfl, y_pre hK hP hD⟩ rfl rfl hl.1 rfl (lv_room (Nat.le_of_ble_eq_true rfl)) dX6_add_20 ⟨Nat.zero_le _, Nat.zero_le _⟩) hS (fun H locs hP hD hS => ?_)
      have hP : va_P (dC, dI) vwCl (wM b cB cI cL rb rd rq rQ rw ra ro rn rk rv rf fN fF fB fR rl lB lR rt rg rx rz) H := hP
      have hD : va_D A (wM b cB cI cL rb rd rq rQ rw ra ro rn rk rv rf fN fF fB fR rl lB lR rt rg rx rz) := hD
      refine lv_if_ge (tgt := 29) hx hb dX6_add_23 (by decide) (fun c23 => ?_) (fun c23 => ?_)
      · refine lv_aload_n hx hb dX6_add_29 rfl (lv_at hl 0 rfl) ?_
        refine va_get (D := (dC, dI)) (ci := 6) (v := .ref (b 4)) (C := RX6) (T := TX6) (N := 22) hx hb hts in_X6 hown hK hP 0 rfl rfl 8 (by decide) f20 (fun _ h9 => h9) rfl dX6_add_30 ?_
        refine lv_aload_n hx hb dX6_add_33 rfl (lv_at hl 0 rfl) ?_
        refine va_get (D := (dC, dI)) (ci := 6) (v := .int (nI rn)) (C := RX6) (T := TX6) (N := 22) hx hb hts in_X6 hown hK hP 0 rfl rfl 7 (by decide) f71 (fun _ h9 => h9) rfl dX6_add_34 ?_
        refine lv_lload_n hx hb dX6_add_37 rfl (lv_at hl 1 rfl) ?_
        refine x_last hx hb hK hP hD hS 4 2 rfl rfl (by omega) (by decide) dX6_add_38 (fun H locs hP hD hS => ?_)
        have hP : va_P (dC, dI) vwCl (wM b cB cI cL rb rd rq rQ rw ra ro rn (va_up rk rn k) rv rf fN fF fB fR rl lB lR rt rg rx rz) H := hP
        have hD : va_D A (wM b cB cI cL rb rd rq rQ rw ra ro rn (va_up rk rn k) rv rf fN fF fB fR rl lB lR rt rg rx rz) := hD
        refine lv_aload_n hx hb dX6_add_39 rfl (lv_at hl 0 rfl) ?_
        refine va_get (D := (dC, dI)) (ci := 6) (v := .ref (b 5)) (C := RX6) (T := TX6) (N := 22) hx hb hts in_X6 hown hK hP 0 rfl rfl 9 (by decide) f24 (fun _ h9 => h9) rfl dX6_add_40 ?_
        refine lv_aload_n hx hb dX6_add_43 rfl (lv_at hl 0 rfl) ?_
        refine lv_dup hx hb dX6_add_44 rfl ?_
        refine va_get (D := (dC, dI)) (ci := 6) (v := .int (nI rn)) (C := RX6) (T := TX6) (N := 22) hx hb hts in_X6 hown hK hP 0 rfl rfl 7 (by decide) f71 (fun _ h9 => h9) rfl dX6_add_45 ?_
        refine lv_dup_x1 hx hb dX6_add_48 rfl rfl ?_
        refine lv_iconst (v := nI 1) hx hb dX6_add_49 (by decide) ?_
        refine x_iadd hx hb dX6_add_50 ?_
        refine va_put (D := (dC, dI)) (ci := 6) (v := .int (nI (rn + 1))) (ty := .int) (C := RX6) (T := TX6) (N := 22) hx hb hts in_X6 tyX6 tyX6_ok nmX6 hown hK hP hD hS 0 rfl rfl 7 (by decide) f71 (fun _ h9 => h9) rfl (by decide +kernel) rfl rfl (Nat.le_of_ble_eq_true rfl) dX6_add_51 (fun H locs hP hD hS => ?_)
        have hP : va_P (dC, dI) vwCl (wM b cB cI cL rb rd rq rQ rw ra ro (rn + 1) (va_up rk rn k) rv rf fN fF fB fR rl lB lR rt rg rx rz) H := hP
        have hD : va_D A (wM b cB cI cL rb rd rq rQ rw ra ro (rn + 1) (va_up rk rn k) rv rf fN fF fB fR rl lB lR rt rg rx rz) := hD
        refine lv_lload_n hx hb dX6_add_54 rfl (lv_at hl 2 rfl) ?_
        refine x_last hx hb hK hP hD hS 5 2 rfl rfl (by omega) (by decide) dX6_add_55 (fun H locs hP hD hS => ?_)
        have hP : va_P (dC, dI) vwCl (wM b cB cI cL rb rd rq rQ rw ra ro (rn + 1) (va_up rk rn k) (va_up rv rn v) rf fN fF fB fR rl lB lR rt rg rx rz) H := hP
        have hD : va_D A (wM b cB cI cL rb rd rq rQ rw ra ro (rn + 1) (va_up rk rn k) (va_up rv rn v) rf fN fF fB fR rl lB lR rt rg rx rz) := hD
        refine lv_aload_n hx hb dX6_add_56 rfl (lv_at hl 0 rfl) ?_
        refine lv_dup hx hb dX6_add_57 rfl ?_
        refine va_get (D := (dC, dI)) (ci := 6) (v := .int (nI rt)) (C := RX6) (T := TX6) (N := 22) hx hb hts in_X6 hown hK hP 0 rfl rfl 18 (by decide) f80 (fun _ h9 => h9) rfl dX6_add_58 ?_
        refine lv_iconst (v := nI 1) hx hb dX6_add_61 (by decide) ?_
        refine x_iadd hx hb dX6_add_62 ?_
        refine va_put (D := (dC, dI)) (ci := 6) (v := .int (nI (rt + 1))) (ty := .int) (C := RX6) (T := TX6) (N := 22) hx hb hts in_X6 tyX6 tyX6_ok nmX6 hown hK hP hD hS 0 rfl rfl 18 (by decide) f80 (fun _ h9 => h9) rfl (by decide +kernel) rfl rfl (Nat.le_of_ble_eq_true rfl) dX6_add_63 (fun H locs hP hD hS => ?_)
        have hP : va_P (dC, dI) vwCl (wM b cB cI cL rb rd rq rQ rw ra ro (rn + 1) (va_up rk rn k) (va_up rv rn v) rf fN fF fB fR rl lB lR (rt + 1) rg rx rz) H := hP
        have hD : va_D A (wM b cB cI cL rb rd rq rQ rw ra ro (rn + 1) (va_up rk rn k) (va_up rv rn v) rf fN fF fB fR rl lB lR (rt + 1) rg rx rz) := hD
        refine lv_aload_n hx hb dX6_add_66 rfl (lv_at hl 0 rfl) ?_
        refine lv_dup hx hb dX6_add_67 rfl ?_
        refine va_get (D := (dC, dI)) (ci := 6) (v := .long (lN rx)) (C := RX6) (T := TX6) (N := 22) hx hb hts in_X6 hown hK hP 0 rfl rfl 20 (by decide) f87 (fun _ h9 => h9) rfl dX6_add_68 ?_
        refine lv_lconst (v := lN 1) hx hb dX6_add_71 rfl ?_
        refine lv_ladd hx hb dX6_add_72 ?_
        refine x_topl (y := lN (rx + 1)) (lN_add _ _) ?_
        refine va_put (D := (dC, dI)) (ci := 6) (v := .long (lN (rx + 1))) (ty := .long) (C := RX6) (T := TX6) (N := 22) hx hb hts in_X6 tyX6 tyX6_ok nmX6 hown hK hP hD hS 0 rfl rfl 20 (by decide) f87 (fun _ h9 => h9) rfl (by decide +kernel) rfl rfl (Nat.le_of_ble_eq_true rfl) dX6_add_73 (fun H locs hP hD hS => ?_)
        have hP : va_P (dC, dI) vwCl (wM b cB cI cL rb rd rq rQ rw ra ro (rn + 1) (va_up rk rn k) (va_up rv rn v) rf fN fF fB fR rl lB lR (rt + 1) rg (rx + 1) rz) H := hP
        have hD : va_D A (wM b cB cI cL rb rd rq rQ rw ra ro (rn + 1) (va_up rk rn k) (va_up rv rn v) rf fN fF fB fR rl lB lR (rt + 1) rg (rx + 1) rz) := hD
        refine lv_aload_n hx hb dX6_add_76 rfl (lv_at hl 0 rfl) ?_
        refine va_get (D := (dC, dI)) (ci := 6) (v := .int (nI (rt + 1))) (C := RX6) (T := TX6) (N := 22) hx hb hts in_X6 hown hK hP 0 rfl rfl 18 (by decide) f80 (fun _ h9 => h9) rfl dX6_add_77 ?_
        refine lv_iconst (v := nI 3) hx hb dX6_add_80 (by decide) ?_
        refine x_icmp_ne (tgt := 89) hx hb dX6_add_81 (by decide) (by omega) (by omega) (fun c81 => ?_) (fun c81 => ?_)
        · exact absurd (show rt + 1 = 3 by omega) c81
        · refine lv_aload_n hx hb dX6_add_84 rfl (lv_at hl 0 rfl) ?_
          refine x_calli (va_runV (As := []) (rest := []) ⟨hx, hb, hml, hown, hts⟩ (c_M_writesLogS (by omega) hrw hrQ (by omega) (by omega) (by omega) hfF hfB (by omega) hlB (by omega) (by omega) y hfr (by omega) (by omega)) (cwV 0 hts (tbV tw_690 tw_692 tw_64 tw_91 tw_693) rfl rfl rfl (by decide +kernel) ⟨Nat.le_of_ble_eq_true rfl, Nat.le_of_ble_eq_true rfl⟩) ⟨y_blind, va_recv hK hP (ci := 6) (q0 := 0) rfl rfl, y_pre hK hP hD⟩ rfl rfl hl.1 rfl (lv_room (Nat.le_of_ble_eq_true rfl)) dX6_add_85 ⟨Nat.zero_le _, Nat.zero_le _⟩) hS (fun H locs hP hD hS => ?_)
          have hP : va_P (dC, dI) vwCl (wM b cB cI cL rb rd (rq + 1) (va_up rQ rq y) (wlG rq (rt + 1) (rx + 1 - (rt + 1)) (rn + 1 - (rt + 1)) (va_up rk rn k) (va_up rv rn v) y rw) (64 * rq) ro (rn + 1) (va_up rk rn k) (va_up rv rn v) rf fN fF fB fR (rl + 1) (va_up lB rl y) (va_up lR rl (rt + 1)) 0 rg (rx + 1) rz) H := hP
          have hD : va_D A (wM b cB cI cL rb rd (rq + 1) (va_up rQ rq y) (wlG rq (rt + 1) (rx + 1 - (rt + 1)) (rn + 1 - (rt + 1)) (va_up rk rn k) (va_up rv rn v) y rw) (64 * rq) ro (rn + 1) (va_up rk rn k) (va_up rv rn v) rf fN fF fB fR (rl + 1) (va_up lB rl y) (va_up lR rl (rt + 1)) 0 rg (rx + 1) rz) := hD
          refine lv_pop hx hb dX6_add_88 rfl ?_
          refine lv_aload_n hx hb dX6_add_89 rfl (lv_at hl 0 rfl) ?_
          refine va_get (D := (dC, dI)) (ci := 6) (v := .long (lN (rx + 1))) (C := RX6) (T := TX6) (N := 22) hx hb hts in_X6 hown hK hP 0 rfl rfl 20 (by decide) f87 (fun _ h9 => h9) rfl dX6_add_90 ?_
          refine lv_lconst (v := lN 1) hx hb dX6_add_93 rfl ?_
          refine lv_lsub hx hb dX6_add_94 ?_
          refine x_topl (y := lN rx) (by rw [lN_sub (by omega), Nat.add_sub_cancel]) ?_
          refine lv_l2i (v := nI rx) hx hb dX6_add_95 (lN_i _) ?_
          exact hret dX6_add_96 (by rfl) hP hD hS
      · exact absurd (show (0 : Int32) ≤ oJ _ by rw [hfr]; exact nI_pos' (by omega)) c23
  · exact absurd (ho.symm.trans c4) (by decide)

set_option maxHeartbeats 4000000 in
set_option maxRecDepth 100000 in
theorem c_M_flushC {l : Launch} {dC : Nat → ClassId} {dI : Nat → Nat → Nat} {A : Nat → Prop} {b : Nat → Nat} {cB cI cL : ClassId} {rb : Nat} {rd : Nat → Nat} {rq : Nat} {rQ rw : Nat → Nat} {ra : Nat} {ro : Bool} {rn : Nat} {rk rv : Nat → Int64} {rf : Nat} {fN fF fB fR : Nat → Nat} {rl : Nat} {lB lR : Nat → Nat} {rt rg rx rz : Nat} (ho : ro = false) : Met l yX6_flush (Cond.code yX6_flush cX6_flush 2 (some .int) :: TB) { frames := 4, cells := 0, slots := 0, locals := 89 } (xPre (fun _ => True) (dC, dI) A (tyS cB cI cL) (wM b cB cI cL rb rd rq rQ rw ra ro rn rk rv rf fN fF fB fR rl lB lR rt rg rx rz) [.ref (b 0)]) (xQi (dC, dI) A ((-4)) (wM b cB cI cL rb rd rq rQ rw ra ro rn rk rv rf fN fF fB fR rl lB lR rt rg rx rz)) 0 0 A := by
  refine x_ofWi (cc := cX6_flush) (maxL := 2) (by decide) rfl (Nat.le_of_ble_eq_true rfl) ?_
  intro p e s m args below meth c Q hx hb hml hts hown hK hN hP hD hS hret ls hl
  have hl : lv_has ls 2 [(0, .ref (b 0))] := hl
  have hown : s.vm.findClass RX6 = some m.cls := hown
  have f105 := hts _ (List.mem_cons_of_mem _ tw_612)
  have in_X6 := (fun q hq => List.mem_cons_of_mem _ (inX6 q hq) : ∀ q ∈ wsX60, q ∈ (Cond.code yX6_flush cX6_flush 2 (some .int) :: TB))
  refine lv_aload_n hx hb dX6_flush_0 rfl (lv_at hl 0 rfl) ?_
  refine va_get (D := (dC, dI)) (ci := 6) (v := .int (bI ro)) (C := RX6) (T := TX6) (N := 22) hx hb hts in_X6 hown hK hP 0 rfl rfl 6 (by decide) f105 (fun _ h9 => h9) rfl dX6_flush_1 ?_
  refine x_if_ne_b (tgt := 10) hx hb dX6_flush_4 (by decide) (fun c4 => ?_) (fun c4 => ?_)
  · exact absurd (ho.symm.trans c4) (by decide)
  · refine lv_bipush (v := (-4)) hx hb dX6_flush_7 (by decide) ?_
    exact hret dX6_flush_9 (by rfl) hP hD hS

set_option maxHeartbeats 4000000 in
set_option maxRecDepth 100000 in
theorem c_M_flushZ {l : Launch} {dC : Nat → ClassId} {dI : Nat → Nat → Nat} {A : Nat → Prop} {b : Nat → Nat} {cB cI cL : ClassId} {rb : Nat} {rd : Nat → Nat} {rq : Nat} {rQ rw : Nat → Nat} {ra : Nat} {ro : Bool} {rn : Nat} {rk rv : Nat → Int64} {rf : Nat} {fN fF fB fR : Nat → Nat} {rl : Nat} {lB lR : Nat → Nat} {rt rg rx rz : Nat} (ho : ro = true) (ht : rt = 0) : Met l yX6_flush (Cond.code yX6_flush cX6_flush 2 (some .int) :: TB) { frames := 4, cells := 0, slots := 0, locals := 89 } (xPre (fun _ => True) (dC, dI) A (tyS cB cI cL) (wM b cB cI cL rb rd rq rQ rw ra ro rn rk rv rf fN fF fB fR rl lB lR rt rg rx rz) [.ref (b 0)]) (xQi (dC, dI) A (nI 0) (wM b cB cI cL rb rd rq rQ rw ra ro rn rk rv rf fN fF fB fR rl lB lR rt rg rx rz)) 0 0 A := by
  refine x_ofWi (cc := cX6_flush) (maxL := 2) (by decide) rfl (Nat.le_of_ble_eq_true rfl) ?_
  intro p e s m args below meth c Q hx hb hml hts hown hK hN hP hD hS hret ls hl
  have hl : lv_has ls 2 [(0, .ref (b 0))] := hl
  have hown : s.vm.findClass RX6 = some m.cls := hown
  have hrt : rt ≤ 3 := by omega
  have f105 := hts _ (List.mem_cons_of_mem _ tw_612)
  have in_X6 := (fun q hq => List.mem_cons_of_mem _ (inX6 q hq) : ∀ q ∈ wsX60, q ∈ (Cond.code yX6_flush cX6_flush 2 (some .int) :: TB))
  have f80 := hts _ (List.mem_cons_of_mem _ tw_624)
  refine lv_aload_n hx hb dX6_flush_0 rfl (lv_at hl 0 rfl) ?_
  refine va_get (D := (dC, dI)) (ci := 6) (v := .int (bI ro)) (C := RX6) (T := TX6) (N := 22) hx hb hts in_X6 hown hK hP 0 rfl rfl 6 (by decide) f105 (fun _ h9 => h9) rfl dX6_flush_1 ?_
  refine x_if_ne_b (tgt := 10) hx hb dX6_flush_4 (by decide) (fun c4 => ?_) (fun c4 => ?_)
  · refine lv_aload_n hx hb dX6_flush_10 rfl (lv_at hl 0 rfl) ?_
    refine va_get (D := (dC, dI)) (ci := 6) (v := .int (nI rt)) (C := RX6) (T := TX6) (N := 22) hx hb hts in_X6 hown hK hP 0 rfl rfl 18 (by decide) f80 (fun _ h9 => h9) rfl dX6_flush_11 ?_
    refine lv_istore_n (lv' := [(1, .int (nI rt)), (0, .ref (b 0))]) hx hb dX6_flush_14 rfl hl (by decide) rfl (fun ls hl => ?_)
    refine lv_iload_n hx hb dX6_flush_15 rfl (lv_at hl 0 rfl) ?_
    refine x_if_ne (tgt := 21) hx hb dX6_flush_16 (by decide) (by omega) (fun c16 => ?_) (fun c16 => ?_)
    · exact absurd ht c16
    · refine lv_iconst (v := nI 0) hx hb dX6_flush_19 (by decide) ?_
      exact hret dX6_flush_20 (by rfl) hP hD hS
  · exact absurd (ho.symm.trans c4) (by decide)

set_option maxHeartbeats 4000000 in
set_option maxRecDepth 100000 in
theorem c_M_flushF {l : Launch} {dC : Nat → ClassId} {dI : Nat → Nat → Nat} {A : Nat → Prop} {b : Nat → Nat} {cB cI cL : ClassId} {rb : Nat} {rd : Nat → Nat} {rq : Nat} {rQ rw : Nat → Nat} {ra : Nat} {ro : Bool} {rn : Nat} {rk rv : Nat → Int64} {rf : Nat} {fN fF fB fR : Nat → Nat} {rl : Nat} {lB lR : Nat → Nat} {rt rg rx rz : Nat} (hrb : rb ≤ 64) (hrw : ∀ j, rw j < 256) (hrQ : ∀ j, rQ j < 64) (hrq : rq ≤ 128) (hrn : rn ≤ 210) (hrf : rf ≤ 5) (hfF : ∀ j, fF j < 1048576) (hfB : ∀ j, fB j < 1048576) (hrl : rl ≤ 62) (hlB : ∀ j, lB j < 1048576) (hrt : rt ≤ rn ∧ rt ≤ 3) (hrx : rx < 2 ^ 30 ∧ rt ≤ rx) (ho : ro = true) (ht : 0 < rt) (hfr : frM (usM rf fF fB rl lB) 1 (rb - 2) 2 0 = none) : Met l yX6_flush (Cond.code yX6_flush cX6_flush 2 (some .int) :: TB) { frames := 4, cells := 0, slots := 0, locals := 89 } (xPre (fun _ => True) (dC, dI) A (tyS cB cI cL) (wM b cB cI cL rb rd rq rQ rw ra ro rn rk rv rf fN fF fB fR rl lB lR rt rg rx rz) [.ref (b 0)]) (xQi (dC, dI) A ((-3)) (wM b cB cI cL rb rd rq rQ rw ra ro rn rk rv rf fN fF fB fR rl lB lR rt rg rx rz)) 0 0 A := by
  refine x_ofWi (cc := cX6_flush) (maxL := 2) (by decide) rfl (Nat.le_of_ble_eq_true rfl) ?_
  intro p e s m args below meth c Q hx hb hml hts hown hK hN hP hD hS hret ls hl
  have hl : lv_has ls 2 [(0, .ref (b 0))] := hl
  have hown : s.vm.findClass RX6 = some m.cls := hown
  have f105 := hts _ (List.mem_cons_of_mem _ tw_612)
  have in_X6 := (fun q hq => List.mem_cons_of_mem _ (inX6 q hq) : ∀ q ∈ wsX60, q ∈ (Cond.code yX6_flush cX6_flush 2 (some .int) :: TB))
  have f80 := hts _ (List.mem_cons_of_mem _ tw_624)
  refine lv_aload_n hx hb dX6_flush_0 rfl (lv_at hl 0 rfl) ?_
  refine va_get (D := (dC, dI)) (ci := 6) (v := .int (bI ro)) (C := RX6) (T := TX6) (N := 22) hx hb hts in_X6 hown hK hP 0 rfl rfl 6 (by decide) f105 (fun _ h9 => h9) rfl dX6_flush_1 ?_
  refine x_if_ne_b (tgt := 10) hx hb dX6_flush_4 (by decide) (fun c4 => ?_) (fun c4 => ?_)
  · refine lv_aload_n hx hb dX6_flush_10 rfl (lv_at hl 0 rfl) ?_
    refine va_get (D := (dC, dI)) (ci := 6) (v := .int (nI rt)) (C := RX6) (T := TX6) (N := 22) hx hb hts in_X6 hown hK hP 0 rfl rfl 18 (by decide) f80 (fun _ h9 => h9) rfl dX6_flush_11 ?_
    refine lv_istore_n (lv' := [(1, .int (nI rt)), (0, .ref (b 0))]) hx hb dX6_flush_14 rfl hl (by decide) rfl (fun ls hl => ?_)
    refine lv_iload_n hx hb dX6_flush_15 rfl (lv_at hl 0 rfl) ?_
    refine x_if_ne (tgt := 21) hx hb dX6_flush_16 (by decide) (by omega) (fun c16 => ?_) (fun c16 => ?_)
    · refine lv_aload_n hx hb dX6_flush_21 rfl (lv_at hl 1 rfl) ?_
      refine x_calli (va_runV (As := []) (rest := []) ⟨hx, hb, hml, hown, hts⟩ (c_M_writesLogN (by omega) hrw hrQ (by omega) (by omega) (by omega) hfF hfB (by omega) hlB (by omega) (by omega) hfr) (cwV 0 hts (tbV tw_690 tw_692 tw_64 tw_91 tw_693) rfl rfl rfl (by decide +kernel) ⟨Nat.le_of_ble_eq_true rfl, Nat.le_of_ble_eq_true rfl⟩) ⟨y_blind, va_recv hK hP (ci := 6) (q0 := 0) rfl rfl, y_pre hK hP hD⟩ rfl rfl hl.1 rfl (lv_room (Nat.le_of_ble_eq_true rfl)) dX6_flush_22 ⟨Nat.zero_le _, Nat.zero_le _⟩) hS (fun H locs hP hD hS => ?_)
      have hP : va_P (dC, dI) vwCl (wM b cB cI cL rb rd rq rQ rw ra ro rn rk rv rf fN fF fB fR rl lB lR rt rg rx rz) H := hP
      have hD : va_D A (wM b cB cI cL rb rd rq rQ rw ra ro rn rk rv rf fN fF fB fR rl lB lR rt rg rx rz) := hD
      refine x_if_eq_b (tgt := 32) hx hb dX6_flush_25 (by decide) (fun c25 => ?_) (fun c25 => ?_)
      · refine lv_bipush (v := (-3)) hx hb dX6_flush_32 (by decide) ?_
        exact hret dX6_flush_34 (by rfl) hP hD hS
      · cases c25
    · exact absurd c16 (by omega)
  · exact absurd (ho.symm.trans c4) (by decide)

set_option maxHeartbeats 4000000 in
set_option maxRecDepth 100000 in
theorem c_M_flushL {l : Launch} {dC : Nat → ClassId} {dI : Nat → Nat → Nat} {A : Nat → Prop} {b : Nat → Nat} {cB cI cL : ClassId} {rb : Nat} {rd : Nat → Nat} {rq : Nat} {rQ rw : Nat → Nat} {ra : Nat} {ro : Bool} {rn : Nat} {rk rv : Nat → Int64} {rf : Nat} {fN fF fB fR : Nat → Nat} {rl : Nat} {lB lR : Nat → Nat} {rt rg rx rz : Nat} (hrb : rb ≤ 64) (hrw : ∀ j, rw j < 256) (hrQ : ∀ j, rQ j < 64) (hrq : rq ≤ 128) (hrn : rn ≤ 210) (hrf : rf ≤ 5) (hfF : ∀ j, fF j < 1048576) (hfB : ∀ j, fB j < 1048576) (hrl : rl ≤ 62) (hlB : ∀ j, lB j < 1048576) (hrt : rt ≤ rn ∧ rt ≤ 3) (hrx : rx < 2 ^ 30 ∧ rt ≤ rx) (y : Nat) (ho : ro = true) (ht : 0 < rt) (hfr : frM (usM rf fF fB rl lB) 1 (rb - 2) 2 0 = some y) (hq1 : rq < 128) (hl1 : rl < 62) : Met l yX6_flush (Cond.code yX6_flush cX6_flush 2 (some .int) :: TB) { frames := 4, cells := 0, slots := 0, locals := 89 } (xPre (fun _ => True) (dC, dI) A (tyS cB cI cL) (wM b cB cI cL rb rd rq rQ rw ra ro rn rk rv rf fN fF fB fR rl lB lR rt rg rx rz) [.ref (b 0)]) (xQi (dC, dI) A (nI rt) (wM b cB cI cL rb rd (rq + 1) (va_up rQ rq y) (wlG rq rt (rx - rt) (rn - rt) rk rv y rw) (64 * rq) ro rn rk rv rf fN fF fB fR (rl + 1) (va_up lB rl y) (va_up lR rl rt) 0 rg rx rz)) 0 0 A := by
  refine x_ofWi (cc := cX6_flush) (maxL := 2) (by decide) rfl (Nat.le_of_ble_eq_true rfl) ?_
  intro p e s m args below meth c Q hx hb hml hts hown hK hN hP hD hS hret ls hl
  have hl : lv_has ls 2 [(0, .ref (b 0))] := hl
  have hown : s.vm.findClass RX6 = some m.cls := hown
  have f105 := hts _ (List.mem_cons_of_mem _ tw_612)
  have in_X6 := (fun q hq => List.mem_cons_of_mem _ (inX6 q hq) : ∀ q ∈ wsX60, q ∈ (Cond.code yX6_flush cX6_flush 2 (some .int) :: TB))
  have f80 := hts _ (List.mem_cons_of_mem _ tw_624)
  refine lv_aload_n hx hb dX6_flush_0 rfl (lv_at hl 0 rfl) ?_
  refine va_get (D := (dC, dI)) (ci := 6) (v := .int (bI ro)) (C := RX6) (T := TX6) (N := 22) hx hb hts in_X6 hown hK hP 0 rfl rfl 6 (by decide) f105 (fun _ h9 => h9) rfl dX6_flush_1 ?_
  refine x_if_ne_b (tgt := 10) hx hb dX6_flush_4 (by decide) (fun c4 => ?_) (fun c4 => ?_)
  · refine lv_aload_n hx hb dX6_flush_10 rfl (lv_at hl 0 rfl) ?_
    refine va_get (D := (dC, dI)) (ci := 6) (v := .int (nI rt)) (C := RX6) (T := TX6) (N := 22) hx hb hts in_X6 hown hK hP 0 rfl rfl 18 (by decide) f80 (fun _ h9 => h9) rfl dX6_flush_11 ?_
    refine lv_istore_n (lv' := [(1, .int (nI rt)), (0, .ref (b 0))]) hx hb dX6_flush_14 rfl hl (by decide) rfl (fun ls hl => ?_)
    refine lv_iload_n hx hb dX6_flush_15 rfl (lv_at hl 0 rfl) ?_
    refine x_if_ne (tgt := 21) hx hb dX6_flush_16 (by decide) (by omega) (fun c16 => ?_) (fun c16 => ?_)
    · refine lv_aload_n hx hb dX6_flush_21 rfl (lv_at hl 1 rfl) ?_
      refine x_calli (va_runV (As := []) (rest := []) ⟨hx, hb, hml, hown, hts⟩ (c_M_writesLogS (by omega) hrw hrQ (by omega) (by omega) (by omega) hfF hfB (by omega) hlB (by omega) (by omega) y hfr (by omega) (by omega)) (cwV 0 hts (tbV tw_690 tw_692 tw_64 tw_91 tw_693) rfl rfl rfl (by decide +kernel) ⟨Nat.le_of_ble_eq_true rfl, Nat.le_of_ble_eq_true rfl⟩) ⟨y_blind, va_recv hK hP (ci := 6) (q0 := 0) rfl rfl, y_pre hK hP hD⟩ rfl rfl hl.1 rfl (lv_room (Nat.le_of_ble_eq_true rfl)) dX6_flush_22 ⟨Nat.zero_le _, Nat.zero_le _⟩) hS (fun H locs hP hD hS => ?_)
      have hP : va_P (dC, dI) vwCl (wM b cB cI cL rb rd (rq + 1) (va_up rQ rq y) (wlG rq rt (rx - rt) (rn - rt) rk rv y rw) (64 * rq) ro rn rk rv rf fN fF fB fR (rl + 1) (va_up lB rl y) (va_up lR rl rt) 0 rg rx rz) H := hP
      have hD : va_D A (wM b cB cI cL rb rd (rq + 1) (va_up rQ rq y) (wlG rq rt (rx - rt) (rn - rt) rk rv y rw) (64 * rq) ro rn rk rv rf fN fF fB fR (rl + 1) (va_up lB rl y) (va_up lR rl rt) 0 rg rx rz) := hD
      refine x_if_eq_b (tgt := 32) hx hb dX6_flush_25 (by decide) (fun c25 => ?_) (fun c25 => ?_)
      · cases c25
      · refine lv_iload_n hx hb dX6_flush_28 rfl (lv_at hl 0 rfl) ?_
        refine lv_goto (tgt := 34) hx hb dX6_flush_29 (by decide) ?_
        exact hret dX6_flush_34 (by rfl) hP hD hS
    · exact absurd c16 (by omega)
  · exact absurd (ho.symm.trans c4) (by decide)

set_option maxHeartbeats 4000000 in
set_option maxRecDepth 100000 in
theorem c_M_syncC {l : Launch} {dC : Nat → ClassId} {dI : Nat → Nat → Nat} {A : Nat → Prop} {b : Nat → Nat} {cB cI cL : ClassId} {rb : Nat} {rd : Nat → Nat} {rq : Nat} {rQ rw : Nat → Nat} {ra : Nat} {ro : Bool} {rn : Nat} {rk rv : Nat → Int64} {rf : Nat} {fN fF fB fR : Nat → Nat} {rl : Nat} {lB lR : Nat → Nat} {rt rg rx rz : Nat} (ho : ro = false) : Met l yX6_sync (Cond.code yX6_sync cX6_sync 1 (some .int) :: TB) { frames := 1, cells := 0, slots := 0, locals := 28 } (xPre (fun _ => True) (dC, dI) A (tyS cB cI cL) (wM b cB cI cL rb rd rq rQ rw ra ro rn rk rv rf fN fF fB fR rl lB lR rt rg rx rz) [.ref (b 0)]) (xQi (dC, dI) A ((-4)) (wM b cB cI cL rb rd rq rQ rw ra ro rn rk rv rf fN fF fB fR rl lB lR rt rg rx rz)) 0 0 A := by
  refine x_ofWi (cc := cX6_sync) (maxL := 1) (by decide) rfl (Nat.le_of_ble_eq_true rfl) ?_
  intro p e s m args below meth c Q hx hb hml hts hown hK hN hP hD hS hret ls hl
  have hl : lv_has ls 1 [(0, .ref (b 0))] := hl
  have hown : s.vm.findClass RX6 = some m.cls := hown
  have f105 := hts _ (List.mem_cons_of_mem _ tw_612)
  have in_X6 := (fun q hq => List.mem_cons_of_mem _ (inX6 q hq) : ∀ q ∈ wsX60, q ∈ (Cond.code yX6_sync cX6_sync 1 (some .int) :: TB))
  refine lv_aload_n hx hb dX6_sync_0 rfl (lv_at hl 0 rfl) ?_
  refine va_get (D := (dC, dI)) (ci := 6) (v := .int (bI ro)) (C := RX6) (T := TX6) (N := 22) hx hb hts in_X6 hown hK hP 0 rfl rfl 6 (by decide) f105 (fun _ h9 => h9) rfl dX6_sync_1 ?_
  refine x_if_ne_b (tgt := 10) hx hb dX6_sync_4 (by decide) (fun c4 => ?_) (fun c4 => ?_)
  · exact absurd (ho.symm.trans c4) (by decide)
  · refine lv_bipush (v := (-4)) hx hb dX6_sync_7 (by decide) ?_
    exact hret dX6_sync_9 (by rfl) hP hD hS

set_option maxHeartbeats 4000000 in
set_option maxRecDepth 100000 in
theorem c_M_syncO {l : Launch} {dC : Nat → ClassId} {dI : Nat → Nat → Nat} {A : Nat → Prop} {b : Nat → Nat} {cB cI cL : ClassId} {rb : Nat} {rd : Nat → Nat} {rq : Nat} {rQ rw : Nat → Nat} {ra : Nat} {ro : Bool} {rn : Nat} {rk rv : Nat → Int64} {rf : Nat} {fN fF fB fR : Nat → Nat} {rl : Nat} {lB lR : Nat → Nat} {rt rg rx rz : Nat} (hrd : ∀ j, rd j < 256) (hrw : ∀ j, rw j < 256) (hrQ : ∀ j, rQ j < 64) (hrq : rq ≤ 128) (ho : ro = true) : Met l yX6_sync (Cond.code yX6_sync cX6_sync 1 (some .int) :: TB) { frames := 1, cells := 0, slots := 0, locals := 28 } (xPre (fun _ => True) (dC, dI) A (tyS cB cI cL) (wM b cB cI cL rb rd rq rQ rw ra ro rn rk rv rf fN fF fB fR rl lB lR rt rg rx rz) [.ref (b 0)]) (xQi (dC, dI) A (nI (prO rQ rw rq 0 (64 * rq) 0 rd).1) (wM b cB cI cL rb ((prO rQ rw rq 0 (64 * rq) 0 rd).2) 0 rQ rw ra ro rn rk rv rf fN fF fB fR rl lB lR rt rg rx rz)) 0 0 A := by
  refine x_ofWi (cc := cX6_sync) (maxL := 1) (by decide) rfl (Nat.le_of_ble_eq_true rfl) ?_
  intro p e s m args below meth c Q hx hb hml hts hown hK hN hP hD hS hret ls hl
  have hl : lv_has ls 1 [(0, .ref (b 0))] := hl
  have hown : s.vm.findClass RX6 = some m.cls := hown
  have f105 := hts _ (List.mem_cons_of_mem _ tw_612)
  have in_X6 := (fun q hq => List.mem_cons_of_mem _ (inX6 q hq) : ∀ q ∈ wsX60, q ∈ (Cond.code yX6_sync cX6_sync 1 (some .int) :: TB))
  have f58 := hts _ (List.mem_cons_of_mem _ tw_608)
  refine lv_aload_n hx hb dX6_sync_0 rfl (lv_at hl 0 rfl) ?_
  refine va_get (D := (dC, dI)) (ci := 6) (v := .int (bI ro)) (C := RX6) (T := TX6) (N := 22) hx hb hts in_X6 hown hK hP 0 rfl rfl 6 (by decide) f105 (fun _ h9 => h9) rfl dX6_sync_1 ?_
  refine x_if_ne_b (tgt := 10) hx hb dX6_sync_4 (by decide) (fun c4 => ?_) (fun c4 => ?_)
  · refine lv_aload_n hx hb dX6_sync_10 rfl (lv_at hl 0 rfl) ?_
    refine lv_ldc2 (v := lN 64) hx hb hown (hts _ (List.mem_cons_of_mem _ tw_598)) dX6_sync_11 ?_
    refine lv_aload_n hx hb dX6_sync_14 rfl (lv_at hl 0 rfl) ?_
    refine va_get (D := (dC, dI)) (ci := 6) (v := .int (nI rq)) (C := RX6) (T := TX6) (N := 22) hx hb hts in_X6 hown hK hP 0 rfl rfl 2 (by decide) f58 (fun _ h9 => h9) rfl dX6_sync_15 ?_
    refine lv_i2l (v := lN rq) hx hb dX6_sync_18 (nI_l (by omega)) ?_
    refine lv_lmul hx hb dX6_sync_19 ?_
    refine x_topl (y := lN (64 * rq)) (lN_mul _ _) ?_
    refine x_calli (va_runV (As := [.long (lN (64 * rq))]) (rest := []) ⟨hx, hb, hml, hown, hts⟩ (c_M_pours hrd hrw hrQ (by omega) (64 * rq) (by omega)) (cwV 1 hts (tbV tw_718 tw_720 tw_68 tw_91 tw_721) rfl rfl rfl (by decide +kernel) ⟨Nat.le_of_ble_eq_true rfl, Nat.le_of_ble_eq_true rfl⟩) ⟨y_blind, va_recv hK hP (ci := 6) (q0 := 0) rfl rfl, y_pre hK hP hD⟩ rfl rfl hl.1 rfl (lv_room (Nat.le_of_ble_eq_true rfl)) dX6_sync_20 ⟨Nat.zero_le _, Nat.zero_le _⟩) hS (fun H locs hP hD hS => ?_)
    have hP : va_P (dC, dI) vwCl (wM b cB cI cL rb ((prO rQ rw rq 0 (64 * rq) 0 rd).2) 0 rQ rw ra ro rn rk rv rf fN fF fB fR rl lB lR rt rg rx rz) H := hP
    have hD : va_D A (wM b cB cI cL rb ((prO rQ rw rq 0 (64 * rq) 0 rd).2) 0 rQ rw ra ro rn rk rv rf fN fF fB fR rl lB lR rt rg rx rz) := hD
    exact hret dX6_sync_23 (by rfl) hP hD hS
  · exact absurd (ho.symm.trans c4) (by decide)

set_option maxHeartbeats 4000000 in
set_option maxRecDepth 100000 in
theorem c_M_crashB {l : Launch} {dC : Nat → ClassId} {dI : Nat → Nat → Nat} {A : Nat → Prop} {b : Nat → Nat} {cB cI cL : ClassId} {rb : Nat} {rd : Nat → Nat} {rq : Nat} {rQ rw : Nat → Nat} {ra : Nat} {ro : Bool} {rn : Nat} {rk rv : Nat → Int64} {rf : Nat} {fN fF fB fR : Nat → Nat} {rl : Nat} {lB lR : Nat → Nat} {rt rg rx rz : Nat} (z : Int32) (hz : ¬ 0 ≤ z) : Met l yX6_crash (Cond.code yX6_crash cX6_crash 3 (some .int) :: TB) { frames := 2, cells := 0, slots := 0, locals := 40 } (xPre (fun _ => True) (dC, dI) A (tyS cB cI cL) (wM b cB cI cL rb rd rq rQ rw ra ro rn rk rv rf fN fF fB fR rl lB lR rt rg rx rz) [.ref (b 0), .int (z)]) (xQi (dC, dI) A ((-1)) (wM b cB cI cL rb rd rq rQ rw ra ro rn rk rv rf fN fF fB fR rl lB lR rt rg rx rz)) 0 0 A := by
  refine x_ofWi (cc := cX6_crash) (maxL := 3) (by decide) rfl (Nat.le_of_ble_eq_true rfl) ?_
  intro p e s m args below meth c Q hx hb hml hts hown hK hN hP hD hS hret ls hl
  have hl : lv_has ls 3 [(0, .ref (b 0)), (1, .int (z))] := hl
  have hown : s.vm.findClass RX6 = some m.cls := hown
  refine lv_iload_n hx hb dX6_crash_0 rfl (lv_at hl 1 rfl) ?_
  refine lv_if_ge (tgt := 6) hx hb dX6_crash_1 (by decide) (fun c1 => ?_) (fun c1 => ?_)
  · exact absurd c1 hz
  · refine lv_iconst (v := (-1)) hx hb dX6_crash_4 (by decide) ?_
    exact hret dX6_crash_5 (by rfl) hP hD hS

set_option maxHeartbeats 4000000 in
set_option maxRecDepth 100000 in
theorem c_M_crashC {l : Launch} {dC : Nat → ClassId} {dI : Nat → Nat → Nat} {A : Nat → Prop} {b : Nat → Nat} {cB cI cL : ClassId} {rb : Nat} {rd : Nat → Nat} {rq : Nat} {rQ rw : Nat → Nat} {ra : Nat} {ro : Bool} {rn : Nat} {rk rv : Nat → Int64} {rf : Nat} {fN fF fB fR : Nat → Nat} {rl : Nat} {lB lR : Nat → Nat} {rt rg rx rz : Nat} (n : Nat) (hn1 : n < 2 ^ 31) (ho : ro = false) : Met l yX6_crash (Cond.code yX6_crash cX6_crash 3 (some .int) :: TB) { frames := 2, cells := 0, slots := 0, locals := 40 } (xPre (fun _ => True) (dC, dI) A (tyS cB cI cL) (wM b cB cI cL rb rd rq rQ rw ra ro rn rk rv rf fN fF fB fR rl lB lR rt rg rx rz) [.ref (b 0), .int (nI n)]) (xQi (dC, dI) A ((-4)) (wM b cB cI cL rb rd rq rQ rw ra ro rn rk rv rf fN fF fB fR rl lB lR rt rg rx rz)) 0 0 A := by
  refine x_ofWi (cc := cX6_crash) (maxL := 3) (by decide) rfl (Nat.le_of_ble_eq_true rfl) ?_
  intro p e s m args below meth c Q hx hb hml hts hown hK hN hP hD hS hret ls hl
  have hl : lv_has ls 3 [(0, .ref (b 0)), (1, .int (nI n))] := hl
  have hown : s.vm.findClass RX6 = some m.cls := hown
  have f105 := hts _ (List.mem_cons_of_mem _ tw_612)
  have in_X6 := (fun q hq => List.mem_cons_of_mem _ (inX6 q hq) : ∀ q ∈ wsX60, q ∈ (Cond.code yX6_crash cX6_crash 3 (some .int) :: TB))
  refine lv_iload_n hx hb dX6_crash_0 rfl (lv_at hl 1 rfl) ?_
  refine x_if_ge (tgt := 6) hx hb dX6_crash_1 (by decide) (by omega) ?_
  refine lv_aload_n hx hb dX6_crash_6 rfl (lv_at hl 0 rfl) ?_
  refine va_get (D := (dC, dI)) (ci := 6) (v := .int (bI ro)) (C := RX6) (T := TX6) (N := 22) hx hb hts in_X6 hown hK hP 0 rfl rfl 6 (by decide) f105 (fun _ h9 => h9) rfl dX6_crash_7 ?_
  refine x_if_ne_b (tgt := 16) hx hb dX6_crash_10 (by decide) (fun c10 => ?_) (fun c10 => ?_)
  · exact absurd (ho.symm.trans c10) (by decide)
  · refine lv_bipush (v := (-4)) hx hb dX6_crash_13 (by decide) ?_
    exact hret dX6_crash_15 (by rfl) hP hD hS

set_option maxHeartbeats 4000000 in
set_option maxRecDepth 100000 in
theorem c_M_crashO {l : Launch} {dC : Nat → ClassId} {dI : Nat → Nat → Nat} {A : Nat → Prop} {b : Nat → Nat} {cB cI cL : ClassId} {rb : Nat} {rd : Nat → Nat} {rq : Nat} {rQ rw : Nat → Nat} {ra : Nat} {ro : Bool} {rn : Nat} {rk rv : Nat → Int64} {rf : Nat} {fN fF fB fR : Nat → Nat} {rl : Nat} {lB lR : Nat → Nat} {rt rg rx rz : Nat} (hrd : ∀ j, rd j < 256) (hrw : ∀ j, rw j < 256) (hrQ : ∀ j, rQ j < 64) (hrq : rq ≤ 128) (n : Nat) (hn1 : n < 2 ^ 31) (ho : ro = true) : Met l yX6_crash (Cond.code yX6_crash cX6_crash 3 (some .int) :: TB) { frames := 2, cells := 0, slots := 0, locals := 40 } (xPre (fun _ => True) (dC, dI) A (tyS cB cI cL) (wM b cB cI cL rb rd rq rQ rw ra ro rn rk rv rf fN fF fB fR rl lB lR rt rg rx rz) [.ref (b 0), .int (nI n)]) (xQi (dC, dI) A (nI (prO rQ rw rq 0 n 0 rd).1) (wM b cB cI cL rb ((prO rQ rw rq 0 n 0 rd).2) 0 rQ rw ra false 0 rk rv 0 fN fF fB fR 0 lB lR 0 0 1 0)) 0 0 A := by
  refine x_ofWi (cc := cX6_crash) (maxL := 3) (by decide) rfl (Nat.le_of_ble_eq_true rfl) ?_
  intro p e s m args below meth c Q hx hb hml hts hown hK hN hP hD hS hret ls hl
  have hl : lv_has ls 3 [(0, .ref (b 0)), (1, .int (nI n))] := hl
  have hown : s.vm.findClass RX6 = some m.cls := hown
  have f105 := hts _ (List.mem_cons_of_mem _ tw_612)
  have in_X6 := (fun q hq => List.mem_cons_of_mem _ (inX6 q hq) : ∀ q ∈ wsX60, q ∈ (Cond.code yX6_crash cX6_crash 3 (some .int) :: TB))
  refine lv_iload_n hx hb dX6_crash_0 rfl (lv_at hl 1 rfl) ?_
  refine x_if_ge (tgt := 6) hx hb dX6_crash_1 (by decide) (by omega) ?_
  refine lv_aload_n hx hb dX6_crash_6 rfl (lv_at hl 0 rfl) ?_
  refine va_get (D := (dC, dI)) (ci := 6) (v := .int (bI ro)) (C := RX6) (T := TX6) (N := 22) hx hb hts in_X6 hown hK hP 0 rfl rfl 6 (by decide) f105 (fun _ h9 => h9) rfl dX6_crash_7 ?_
  refine x_if_ne_b (tgt := 16) hx hb dX6_crash_10 (by decide) (fun c10 => ?_) (fun c10 => ?_)
  · refine lv_aload_n hx hb dX6_crash_16 rfl (lv_at hl 0 rfl) ?_
    refine lv_iload_n hx hb dX6_crash_17 rfl (lv_at hl 1 rfl) ?_
    refine lv_i2l (v := lN n) hx hb dX6_crash_18 (nI_l (by omega)) ?_
    refine x_calli (va_runV (As := [.long (lN n)]) (rest := []) ⟨hx, hb, hml, hown, hts⟩ (c_M_pours hrd hrw hrQ (by omega) n (by omega)) (cwV 1 hts (tbV tw_718 tw_720 tw_68 tw_91 tw_721) rfl rfl rfl (by decide +kernel) ⟨Nat.le_of_ble_eq_true rfl, Nat.le_of_ble_eq_true rfl⟩) ⟨y_blind, va_recv hK hP (ci := 6) (q0 := 0) rfl rfl, y_pre hK hP hD⟩ rfl rfl hl.1 rfl (lv_room (Nat.le_of_ble_eq_true rfl)) dX6_crash_19 ⟨Nat.zero_le _, Nat.zero_le _⟩) hS (fun H locs hP hD hS => ?_)
    have hP : va_P (dC, dI) vwCl (wM b cB cI cL rb ((prO rQ rw rq 0 n 0 rd).2) 0 rQ rw ra ro rn rk rv rf fN fF fB fR rl lB lR rt rg rx rz) H := hP
    have hD : va_D A (wM b cB cI cL rb ((prO rQ rw rq 0 n 0 rd).2) 0 rQ rw ra ro rn rk rv rf fN fF fB fR rl lB lR rt rg rx rz) := hD
    refine lv_istore_n (lv' := [(2, .int (nI ((prO rQ rw rq 0 n 0 rd).1))), (0, .ref (b 0)), (1, .int (nI n))]) hx hb dX6_crash_22 rfl hl (by decide) rfl (fun ls hl => ?_)
    refine lv_aload_n hx hb dX6_crash_23 rfl (lv_at hl 1 rfl) ?_
    refine x_callv (va_runV (As := []) (rest := []) ⟨hx, hb, hml, hown, hts⟩ (c_M_closes) (cwV 0 hts (tbV tw_744 tw_746 tw_73 tw_91 tw_747) rfl rfl rfl (by decide +kernel) ⟨Nat.le_of_ble_eq_true rfl, Nat.le_of_ble_eq_true rfl⟩) ⟨y_blind, va_recv hK hP (ci := 6) (q0 := 0) rfl rfl, y_pre hK hP hD⟩ rfl rfl hl.1 rfl (lv_room (Nat.le_of_ble_eq_true rfl)) dX6_crash_24 ⟨Nat.zero_le _, Nat.zero_le _⟩) hS (fun H locs hP hD hS => ?_)
    have hP : va_P (dC, dI) vwCl (wM b cB cI cL rb ((prO rQ rw rq 0 n 0 rd).2) 0 rQ rw ra false 0 rk rv 0 fN fF fB fR 0 lB lR 0 0 1 0) H := hP
    have hD : va_D A (wM b cB cI cL rb ((prO rQ rw rq 0 n 0 rd).2) 0 rQ rw ra false 0 rk rv 0 fN fF fB fR 0 lB lR 0 0 1 0) := hD
    refine lv_iload_n hx hb dX6_crash_27 rfl (lv_at hl 0 rfl) ?_
    exact hret dX6_crash_28 (by rfl) hP hD hS
  · exact absurd (ho.symm.trans c10) (by decide)

set_option maxHeartbeats 4000000 in
set_option maxRecDepth 100000 in
theorem c_M_commitB {l : Launch} {dC : Nat → ClassId} {dI : Nat → Nat → Nat} {A : Nat → Prop} {b : Nat → Nat} {cB cI cL : ClassId} {rb : Nat} {rd : Nat → Nat} {rq : Nat} {rQ rw : Nat → Nat} {ra : Nat} {ro : Bool} {rn : Nat} {rk rv : Nat → Int64} {rf : Nat} {fN fF fB fR : Nat → Nat} {rl : Nat} {lB lR : Nat → Nat} {rt rg rx rz : Nat} (z : Int32) (hz : ¬ (-1) ≤ z) : Met l yX6_commit (Cond.code yX6_commit cX6_commit 10 (some .int) :: TB) { frames := 3, cells := 0, slots := 0, locals := 72 } (xPre (fun _ => True) (dC, dI) A (tyS cB cI cL) (wM b cB cI cL rb rd rq rQ rw ra ro rn rk rv rf fN fF fB fR rl lB lR rt rg rx rz) [.ref (b 0), .int (z)]) (xQi (dC, dI) A ((-1)) (wM b cB cI cL rb rd rq rQ rw ra ro rn rk rv rf fN fF fB fR rl lB lR rt rg rx rz)) 0 0 A := by
  refine x_ofWi (cc := cX6_commit) (maxL := 10) (by decide) rfl (Nat.le_of_ble_eq_true rfl) ?_
  intro p e s m args below meth c Q hx hb hml hts hown hK hN hP hD hS hret ls hl
  have hl : lv_has ls 10 [(0, .ref (b 0)), (1, .int (z))] := hl
  have hown : s.vm.findClass RX6 = some m.cls := hown
  refine lv_iload_n hx hb dX6_commit_0 rfl (lv_at hl 1 rfl) ?_
  refine lv_iconst (v := (-1)) hx hb dX6_commit_1 (by decide) ?_
  refine lv_icmp_ge (tgt := 7) hx hb dX6_commit_2 (by decide) (fun c2 => ?_) (fun c2 => ?_)
  · exact absurd c2 hz
  · refine lv_iconst (v := (-1)) hx hb dX6_commit_5 (by decide) ?_
    exact hret dX6_commit_6 (by rfl) hP hD hS

set_option maxHeartbeats 4000000 in
set_option maxRecDepth 100000 in
theorem c_M_commitC {l : Launch} {dC : Nat → ClassId} {dI : Nat → Nat → Nat} {A : Nat → Prop} {b : Nat → Nat} {cB cI cL : ClassId} {rb : Nat} {rd : Nat → Nat} {rq : Nat} {rQ rw : Nat → Nat} {ra : Nat} {ro : Bool} {rn : Nat} {rk rv : Nat → Int64} {rf : Nat} {fN fF fB fR : Nat → Nat} {rl : Nat} {lB lR : Nat → Nat} {rt rg rx rz : Nat} (z : Int32) (hz : (-1) ≤ z) (ho : ro = false) : Met l yX6_commit (Cond.code yX6_commit cX6_commit 10 (some .int) :: TB) { frames := 3, cells := 0, slots := 0, locals := 72 } (xPre (fun _ => True) (dC, dI) A (tyS cB cI cL) (wM b cB cI cL rb rd rq rQ rw ra ro rn rk rv rf fN fF fB fR rl lB lR rt rg rx rz) [.ref (b 0), .int (z)]) (xQi (dC, dI) A ((-4)) (wM b cB cI cL rb rd rq rQ rw ra ro rn rk rv rf fN fF fB fR rl lB lR rt rg rx rz)) 0 0 A := by
  refine x_ofWi (cc := cX6_commit) (maxL := 10) (by decide) rfl (Nat.le_of_ble_eq_true rfl) ?_
  intro p e s m args below meth c Q hx hb hml hts hown hK hN hP hD hS hret ls hl
  have hl : lv_has ls 10 [(0, .ref (b 0)), (1, .int (z))] := hl
  have hown : s.vm.findClass RX6 = some m.cls := hown
  have f105 := hts _ (List.mem_cons_of_mem _ tw_612)
  have in_X6 := (fun q hq => List.mem_cons_of_mem _ (inX6 q hq) : ∀ q ∈ wsX60, q ∈ (Cond.code yX6_commit cX6_commit 10 (some .int) :: TB))
  refine lv_iload_n hx hb dX6_commit_0 rfl (lv_at hl 1 rfl) ?_
  refine lv_iconst (v := (-1)) hx hb dX6_commit_1 (by decide) ?_
  refine lv_icmp_ge (tgt := 7) hx hb dX6_commit_2 (by decide) (fun c2 => ?_) (fun c2 => ?_)
  · refine lv_aload_n hx hb dX6_commit_7 rfl (lv_at hl 0 rfl) ?_
    refine va_get (D := (dC, dI)) (ci := 6) (v := .int (bI ro)) (C := RX6) (T := TX6) (N := 22) hx hb hts in_X6 hown hK hP 0 rfl rfl 6 (by decide) f105 (fun _ h9 => h9) rfl dX6_commit_8 ?_
    refine x_if_ne_b (tgt := 17) hx hb dX6_commit_11 (by decide) (fun c11 => ?_) (fun c11 => ?_)
    · exact absurd (ho.symm.trans c11) (by decide)
    · refine lv_bipush (v := (-4)) hx hb dX6_commit_14 (by decide) ?_
      exact hret dX6_commit_16 (by rfl) hP hD hS
  · exact absurd hz c2

set_option maxHeartbeats 4000000 in
set_option maxRecDepth 100000 in
theorem c_M_commitZ {l : Launch} {dC : Nat → ClassId} {dI : Nat → Nat → Nat} {A : Nat → Prop} {b : Nat → Nat} {cB cI cL : ClassId} {rb : Nat} {rd : Nat → Nat} {rq : Nat} {rQ rw : Nat → Nat} {ra : Nat} {ro : Bool} {rn : Nat} {rk rv : Nat → Int64} {rf : Nat} {fN fF fB fR : Nat → Nat} {rl : Nat} {lB lR : Nat → Nat} {rt rg rx rz : Nat} (hrn : rn ≤ 210) (hrf : rf ≤ 5) (hfR : ∀ j, fR j < 1048576) (z : Int32) (hz : (-1) ≤ z) (ho : ro = true) (hl0 : rn = ifM fR rf 0 0) : Met l yX6_commit (Cond.code yX6_commit cX6_commit 10 (some .int) :: TB) { frames := 3, cells := 0, slots := 0, locals := 72 } (xPre (fun _ => True) (dC, dI) A (tyS cB cI cL) (wM b cB cI cL rb rd rq rQ rw ra ro rn rk rv rf fN fF fB fR rl lB lR rt rg rx rz) [.ref (b 0), .int (z)]) (xQi (dC, dI) A (nI 0) (wM b cB cI cL rb rd rq rQ rw ra ro rn rk rv rf fN fF fB fR rl lB lR rt rg rx rz)) 0 0 A := by
  refine x_ofWi (cc := cX6_commit) (maxL := 10) (by decide) rfl (Nat.le_of_ble_eq_true rfl) ?_
  intro p e s m args below meth c Q hx hb hml hts hown hK hN hP hD hS hret ls hl
  have hl : lv_has ls 10 [(0, .ref (b 0)), (1, .int (z))] := hl
  have hown : s.vm.findClass RX6 = some m.cls := hown
  have f105 := hts _ (List.mem_cons_of_mem _ tw_612)
  have in_X6 := (fun q hq => List.mem_cons_of_mem _ (inX6 q hq) : ∀ q ∈ wsX60, q ∈ (Cond.code yX6_commit cX6_commit 10 (some .int) :: TB))
  have f71 := hts _ (List.mem_cons_of_mem _ tw_613)
  refine lv_iload_n hx hb dX6_commit_0 rfl (lv_at hl 1 rfl) ?_
  refine lv_iconst (v := (-1)) hx hb dX6_commit_1 (by decide) ?_
  refine lv_icmp_ge (tgt := 7) hx hb dX6_commit_2 (by decide) (fun c2 => ?_) (fun c2 => ?_)
  · refine lv_aload_n hx hb dX6_commit_7 rfl (lv_at hl 0 rfl) ?_
    refine va_get (D := (dC, dI)) (ci := 6) (v := .int (bI ro)) (C := RX6) (T := TX6) (N := 22) hx hb hts in_X6 hown hK hP 0 rfl rfl 6 (by decide) f105 (fun _ h9 => h9) rfl dX6_commit_8 ?_
    refine x_if_ne_b (tgt := 17) hx hb dX6_commit_11 (by decide) (fun c11 => ?_) (fun c11 => ?_)
    · refine lv_aload_n hx hb dX6_commit_17 rfl (lv_at hl 0 rfl) ?_
      refine x_calli (va_runV (As := []) (rest := []) ⟨hx, hb, hml, hown, hts⟩ (c_M_inFiles (by omega) hfR) (cwV 0 hts (tbV tw_726 tw_728 tw_69 tw_91 tw_729) rfl rfl rfl (by decide +kernel) ⟨Nat.le_of_ble_eq_true rfl, Nat.le_of_ble_eq_true rfl⟩) ⟨y_blind, va_recv hK hP (ci := 6) (q0 := 0) rfl rfl, y_pre hK hP hD⟩ rfl rfl hl.1 rfl (lv_room (Nat.le_of_ble_eq_true rfl)) dX6_commit_18 ⟨Nat.zero_le _, Nat.zero_le _⟩) hS (fun H locs hP hD hS => ?_)
      have hP : va_P (dC, dI) vwCl (wM b cB cI cL rb rd rq rQ rw ra ro rn rk rv rf fN fF fB fR rl lB lR rt rg rx rz) H := hP
      have hD : va_D A (wM b cB cI cL rb rd rq rQ rw ra ro rn rk rv rf fN fF fB fR rl lB lR rt rg rx rz) := hD
      have hv18 := ifM_lt hfR rf 0 0
      refine lv_istore_n (lv' := [(2, .int (nI (ifM fR rf 0 0))), (0, .ref (b 0)), (1, .int (z))]) hx hb dX6_commit_21 rfl hl (by decide) rfl (fun ls hl => ?_)
      refine lv_aload_n hx hb dX6_commit_22 rfl (lv_at hl 1 rfl) ?_
      refine va_get (D := (dC, dI)) (ci := 6) (v := .int (nI rn)) (C := RX6) (T := TX6) (N := 22) hx hb hts in_X6 hown hK hP 0 rfl rfl 7 (by decide) f71 (fun _ h9 => h9) rfl dX6_commit_23 ?_
      refine lv_iload_n hx hb dX6_commit_26 rfl (lv_at hl 0 rfl) ?_
      refine x_icmp_ne (tgt := 32) hx hb dX6_commit_27 (by decide) (by omega) (by omega) (fun c27 => ?_) (fun c27 => ?_)
      · exact absurd hl0 c27
      · refine lv_iconst (v := nI 0) hx hb dX6_commit_30 (by decide) ?_
        exact hret dX6_commit_31 (by rfl) hP hD hS
    · exact absurd (ho.symm.trans c11) (by decide)
  · exact absurd hz c2

set_option maxHeartbeats 4000000 in
set_option maxRecDepth 100000 in
theorem c_M_commitFM {l : Launch} {dC : Nat → ClassId} {dI : Nat → Nat → Nat} {A : Nat → Prop} {b : Nat → Nat} {cB cI cL : ClassId} {rb : Nat} {rd : Nat → Nat} {rq : Nat} {rQ rw : Nat → Nat} {ra : Nat} {ro : Bool} {rn : Nat} {rk rv : Nat → Int64} {rf : Nat} {fN fF fB fR : Nat → Nat} {rl : Nat} {lB lR : Nat → Nat} {rt rg rx rz : Nat} (hrb : rb ≤ 64) (hrn : rn ≤ 210) (hrf : rf ≤ 5) (hfF : ∀ j, fF j < 1048576) (hfB : ∀ j, fB j < 1048576) (hfR : ∀ j, fR j < 1048576) (hrl : rl ≤ 62) (hlB : ∀ j, lB j < 1048576) (z : Int32) (hz : (-1) ≤ z) (ho : ro = true) (hl0 : ifM fR rf 0 0 < rn) (hm : rf = 5) (hfr : frM (usM rf fF fB rl lB) (((rn - 0) + 2) / 3) (rb - 2) 2 0 = none) : Met l yX6_commit (Cond.code yX6_commit cX6_commit 10 (some .int) :: TB) { frames := 3, cells := 0, slots := 0, locals := 72 } (xPre (fun _ => True) (dC, dI) A (tyS cB cI cL) (wM b cB cI cL rb rd rq rQ rw ra ro rn rk rv rf fN fF fB fR rl lB lR rt rg rx rz) [.ref (b 0), .int (z)]) (xQi (dC, dI) A ((-3)) (wM b cB cI cL rb rd rq rQ rw ra ro rn rk rv rf fN fF fB fR rl lB lR rt rg rx rz)) 0 0 A := by
  refine x_ofWi (cc := cX6_commit) (maxL := 10) (by decide) rfl (Nat.le_of_ble_eq_true rfl) ?_
  intro p e s m args below meth c Q hx hb hml hts hown hK hN hP hD hS hret ls hl
  have hl : lv_has ls 10 [(0, .ref (b 0)), (1, .int (z))] := hl
  have hown : s.vm.findClass RX6 = some m.cls := hown
  have f105 := hts _ (List.mem_cons_of_mem _ tw_612)
  have in_X6 := (fun q hq => List.mem_cons_of_mem _ (inX6 q hq) : ∀ q ∈ wsX60, q ∈ (Cond.code yX6_commit cX6_commit 10 (some .int) :: TB))
  have f71 := hts _ (List.mem_cons_of_mem _ tw_613)
  have f74 := hts _ (List.mem_cons_of_mem _ tw_616)
  refine lv_iload_n hx hb dX6_commit_0 rfl (lv_at hl 1 rfl) ?_
  refine lv_iconst (v := (-1)) hx hb dX6_commit_1 (by decide) ?_
  refine lv_icmp_ge (tgt := 7) hx hb dX6_commit_2 (by decide) (fun c2 => ?_) (fun c2 => ?_)
  · refine lv_aload_n hx hb dX6_commit_7 rfl (lv_at hl 0 rfl) ?_
    refine va_get (D := (dC, dI)) (ci := 6) (v := .int (bI ro)) (C := RX6) (T := TX6) (N := 22) hx hb hts in_X6 hown hK hP 0 rfl rfl 6 (by decide) f105 (fun _ h9 => h9) rfl dX6_commit_8 ?_
    refine x_if_ne_b (tgt := 17) hx hb dX6_commit_11 (by decide) (fun c11 => ?_) (fun c11 => ?_)
    · refine lv_aload_n hx hb dX6_commit_17 rfl (lv_at hl 0 rfl) ?_
      refine x_calli (va_runV (As := []) (rest := []) ⟨hx, hb, hml, hown, hts⟩ (c_M_inFiles (by omega) hfR) (cwV 0 hts (tbV tw_726 tw_728 tw_69 tw_91 tw_729) rfl rfl rfl (by decide +kernel) ⟨Nat.le_of_ble_eq_true rfl, Nat.le_of_ble_eq_true rfl⟩) ⟨y_blind, va_recv hK hP (ci := 6) (q0 := 0) rfl rfl, y_pre hK hP hD⟩ rfl rfl hl.1 rfl (lv_room (Nat.le_of_ble_eq_true rfl)) dX6_commit_18 ⟨Nat.zero_le _, Nat.zero_le _⟩) hS (fun H locs hP hD hS => ?_)
      have hP : va_P (dC, dI) vwCl (wM b cB cI cL rb rd rq rQ rw ra ro rn rk rv rf fN fF fB fR rl lB lR rt rg rx rz) H := hP
      have hD : va_D A (wM b cB cI cL rb rd rq rQ rw ra ro rn rk rv rf fN fF fB fR rl lB lR rt rg rx rz) := hD
      have hv18 := ifM_lt hfR rf 0 0
      refine lv_istore_n (lv' := [(2, .int (nI (ifM fR rf 0 0))), (0, .ref (b 0)), (1, .int (z))]) hx hb dX6_commit_21 rfl hl (by decide) rfl (fun ls hl => ?_)
      refine lv_aload_n hx hb dX6_commit_22 rfl (lv_at hl 1 rfl) ?_
      refine va_get (D := (dC, dI)) (ci := 6) (v := .int (nI rn)) (C := RX6) (T := TX6) (N := 22) hx hb hts in_X6 hown hK hP 0 rfl rfl 7 (by decide) f71 (fun _ h9 => h9) rfl dX6_commit_23 ?_
      refine lv_iload_n hx hb dX6_commit_26 rfl (lv_at hl 0 rfl) ?_
      refine x_icmp_ne (tgt := 32) hx hb dX6_commit_27 (by decide) (by omega) (by omega) (fun c27 => ?_) (fun c27 => ?_)
      · refine lv_aload_n hx hb dX6_commit_32 rfl (lv_at hl 1 rfl) ?_
        refine va_get (D := (dC, dI)) (ci := 6) (v := .int (nI rf)) (C := RX6) (T := TX6) (N := 22) hx hb hts in_X6 hown hK hP 0 rfl rfl 10 (by decide) f74 (fun _ h9 => h9) rfl dX6_commit_33 ?_
        refine lv_iconst (v := nI 5) hx hb dX6_commit_36 (by decide) ?_
        refine x_icmp_ne (tgt := 44) hx hb dX6_commit_37 (by decide) (by omega) (by omega) (fun c37 => ?_) (fun c37 => ?_)
        · exact absurd hm c37
        · refine lv_iconst (v := nI 0) hx hb dX6_commit_40 (by decide) ?_
          refine lv_goto (tgt := 45) hx hb dX6_commit_41 (by decide) ?_
          refine lv_istore_n (lv' := [(3, .int (nI 0)), (2, .int (nI (ifM fR rf 0 0))), (0, .ref (b 0)), (1, .int (z))]) hx hb dX6_commit_45 rfl hl (by decide) rfl (fun ls hl => ?_)
          refine lv_aload_n hx hb dX6_commit_46 rfl (lv_at hl 2 rfl) ?_
          refine va_get (D := (dC, dI)) (ci := 6) (v := .int (nI rf)) (C := RX6) (T := TX6) (N := 22) hx hb hts in_X6 hown hK hP 0 rfl rfl 10 (by decide) f74 (fun _ h9 => h9) rfl dX6_commit_47 ?_
          refine lv_iconst (v := nI 5) hx hb dX6_commit_50 (by decide) ?_
          refine x_icmp_ne (tgt := 58) hx hb dX6_commit_51 (by decide) (by omega) (by omega) (fun c51 => ?_) (fun c51 => ?_)
          · exact absurd hm c51
          · refine lv_iconst (v := nI 0) hx hb dX6_commit_54 (by decide) ?_
            refine lv_goto (tgt := 62) hx hb dX6_commit_55 (by decide) ?_
            refine lv_istore (lv' := [(4, .int (nI 0)), (3, .int (nI 0)), (2, .int (nI (ifM fR rf 0 0))), (0, .ref (b 0)), (1, .int (z))]) hx hb dX6_commit_62 hl (by decide) rfl (fun ls hl => ?_)
            refine lv_aload_n hx hb dX6_commit_64 rfl (lv_at hl 3 rfl) ?_
            refine va_get (D := (dC, dI)) (ci := 6) (v := .int (nI rn)) (C := RX6) (T := TX6) (N := 22) hx hb hts in_X6 hown hK hP 0 rfl rfl 7 (by decide) f71 (fun _ h9 => h9) rfl dX6_commit_65 ?_
            refine lv_iload_n hx hb dX6_commit_68 rfl (lv_at hl 1 rfl) ?_
            refine x_isub hx hb dX6_commit_69 (by omega) ?_
            refine lv_istore (lv' := [(5, .int (nI (rn - 0))), (4, .int (nI 0)), (3, .int (nI 0)), (2, .int (nI (ifM fR rf 0 0))), (0, .ref (b 0)), (1, .int (z))]) hx hb dX6_commit_70 hl (by decide) rfl (fun ls hl => ?_)
            refine lv_iload hx hb dX6_commit_72 (lv_at hl 0 rfl) ?_
            refine lv_iconst (v := nI 2) hx hb dX6_commit_74 (by decide) ?_
            refine x_iadd hx hb dX6_commit_75 ?_
            refine lv_iconst (v := nI 3) hx hb dX6_commit_76 (by decide) ?_
            refine x_idiv hx hb dX6_commit_77 (by omega) (by omega) (by omega) ?_
            refine lv_istore (lv' := [(6, .int (nI (((rn - 0) + 2) / 3))), (5, .int (nI (rn - 0))), (4, .int (nI 0)), (3, .int (nI 0)), (2, .int (nI (ifM fR rf 0 0))), (0, .ref (b 0)), (1, .int (z))]) hx hb dX6_commit_78 hl (by decide) rfl (fun ls hl => ?_)
            refine lv_aload_n hx hb dX6_commit_80 rfl (lv_at hl 5 rfl) ?_
            refine lv_iload hx hb dX6_commit_81 (lv_at hl 0 rfl) ?_
            refine x_calli (va_runV (As := [.int (nI (((rn - 0) + 2) / 3))]) (rest := []) ⟨hx, hb, hml, hown, hts⟩ (c_M_free (by omega) (by omega) hfF hfB (by omega) hlB (((rn - 0) + 2) / 3) (by omega) (by omega)) (cwV 1 hts (tbV tw_678 tw_680 tw_61 tw_91 tw_681) rfl rfl rfl (by decide +kernel) ⟨Nat.le_of_ble_eq_true rfl, Nat.le_of_ble_eq_true rfl⟩) ⟨y_blind, va_recv hK hP (ci := 6) (q0 := 0) rfl rfl, y_pre hK hP hD⟩ rfl rfl hl.1 rfl (lv_room (Nat.le_of_ble_eq_true rfl)) dX6_commit_83 ⟨Nat.zero_le _, Nat.zero_le _⟩) hS (fun H locs hP hD hS => ?_)
            have hP : va_P (dC, dI) vwCl (wM b cB cI cL rb rd rq rQ rw ra ro rn rk rv rf fN fF fB fR rl lB lR rt rg rx rz) H := hP
            have hD : va_D A (wM b cB cI cL rb rd rq rQ rw ra ro rn rk rv rf fN fF fB fR rl lB lR rt rg rx rz) := hD
            refine lv_istore (lv' := [(7, .int (oJ (frM (usM rf fF fB rl lB) (((rn - 0) + 2) / 3) (rb - 2) 2 0))), (6, .int (nI (((rn - 0) + 2) / 3))), (5, .int (nI (rn - 0))), (4, .int (nI 0)), (3, .int (nI 0)), (2, .int (nI (ifM fR rf 0 0))), (0, .ref (b 0)), (1, .int (z))]) hx hb dX6_commit_86 hl (by decide) rfl (fun ls hl => ?_)
            refine lv_iload hx hb dX6_commit_88 (lv_at hl 0 rfl) ?_
            refine lv_if_ge (tgt := 96) hx hb dX6_commit_90 (by decide) (fun c90 => ?_) (fun c90 => ?_)
            · exact absurd c90 (by rw [hfr]; decide)
            · refine lv_bipush (v := (-3)) hx hb dX6_commit_93 (by decide) ?_
              exact hret dX6_commit_95 (by rfl) hP hD hS
      · exact absurd c27 (by omega)
    · exact absurd (ho.symm.trans c11) (by decide)
  · exact absurd hz c2

set_option maxHeartbeats 4000000 in
set_option maxRecDepth 100000 in
theorem c_M_commitGMn {l : Launch} {dC : Nat → ClassId} {dI : Nat → Nat → Nat} {A : Nat → Prop} {b : Nat → Nat} {cB cI cL : ClassId} {rb : Nat} {rd : Nat → Nat} {rq : Nat} {rQ rw : Nat → Nat} {ra : Nat} {ro : Bool} {rn : Nat} {rk rv : Nat → Int64} {rf : Nat} {fN fF fB fR : Nat → Nat} {rl : Nat} {lB lR : Nat → Nat} {rt rg rx rz : Nat} (hrb : rb ≤ 64) (hrd : ∀ j, rd j < 256) (hrw : ∀ j, rw j < 256) (hrQ : ∀ j, rQ j < 64) (hrq : rq ≤ 128) (hrn : rn ≤ 210) (hrf : rf ≤ 5) (hfN : ∀ j, fN j < 1048576) (hfF : ∀ j, fF j < 1048576) (hfB : ∀ j, fB j < 1048576) (hfR : ∀ j, fR j < 1048576) (hrl : rl ≤ 62) (hlB : ∀ j, lB j < 1048576) (hrt : rt ≤ rn ∧ rt ≤ 3) (hrg : rg < 2 ^ 30) (hrx : rx < 2 ^ 30 ∧ rt ≤ rx) (hrz : rz < 2 ^ 18) (y : Nat) (K : (Nat → Int64) × (Nat → Int64)) (Z0 : WQ) (z : Int32) (hz : (-1) ≤ z) (hzn : z < 0) (ho : ro = true) (hl0 : ifM fR rf 0 0 < rn) (hm : rf = 5) (hfr : frM (usM rf fF fB rl lB) (((rn - 0) + 2) / 3) (rb - 2) 2 0 = some y) (hq1 : rq + (((rn - 0) + 2) / 3) < 128) (hK0 : srO 0 (rn - (0 + 1)) (0 + 1) (rk, rv) = K) (hZ0 : cqL y (((rn - 0) + 2) / 3) 0 (rn - 0) rz K.1 K.2 (((rn - 0) + 2) / 3) 0 (rq, rQ, ra, rw) = Z0) : Met l yX6_commit (Cond.code yX6_commit cX6_commit 10 (some .int) :: TB) { frames := 3, cells := 0, slots := 0, locals := 72 } (xPre (fun _ => True) (dC, dI) A (tyS cB cI cL) (wM b cB cI cL rb rd rq rQ rw ra ro rn rk rv rf fN fF fB fR rl lB lR rt rg rx rz) [.ref (b 0), .int (z)]) (xQi (dC, dI) A (nI (rg + 1)) (wM b cB cI cL rb ((prO (va_up Z0.2.1 Z0.1 ((rg + 1) % 2)) (whG Z0.1 (0 + 1) rg rx (va_up fN 0 (rz + 1)) (va_up fF 0 y) (va_up fB 0 (((rn - 0) + 2) / 3)) (va_up fR 0 (rn - 0)) Z0.2.2.2) (Z0.1 + 1) 0 (64 * (Z0.1 + 1)) 0 rd).2) 0 (va_up Z0.2.1 Z0.1 ((rg + 1) % 2)) (whG Z0.1 (0 + 1) rg rx (va_up fN 0 (rz + 1)) (va_up fF 0 y) (va_up fB 0 (((rn - 0) + 2) / 3)) (va_up fR 0 (rn - 0)) Z0.2.2.2) (64 * Z0.1) ro rn K.1 K.2 (0 + 1) (va_up fN 0 (rz + 1)) (va_up fF 0 y) (va_up fB 0 (((rn - 0) + 2) / 3)) (va_up fR 0 (rn - 0)) 0 lB lR 0 (rg + 1) rx (rz + 1))) 0 0 A := by
  refine x_ofWi (cc := cX6_commit) (maxL := 10) (by decide) rfl (Nat.le_of_ble_eq_true rfl) ?_
  intro p e s m args below meth c Q hx hb hml hts hown hK hN hP hD hS hret ls hl
  have hl : lv_has ls 10 [(0, .ref (b 0)), (1, .int (z))] := hl
  have hown : s.vm.findClass RX6 = some m.cls := hown
  have hyb := frM_lt (show 0 < (((rn - 0) + 2) / 3) by omega) hfr
  have hyz := frM_end (by decide) hfr
  have f105 := hts _ (List.mem_cons_of_mem _ tw_612)
  have in_X6 := (fun q hq => List.mem_cons_of_mem _ (inX6 q hq) : ∀ q ∈ wsX60, q ∈ (Cond.code yX6_commit cX6_commit 10 (some .int) :: TB))
  have f71 := hts _ (List.mem_cons_of_mem _ tw_613)
  have f74 := hts _ (List.mem_cons_of_mem _ tw_616)
  have f27 := hts _ (List.mem_cons_of_mem _ tw_617)
  have f90 := hts _ (List.mem_cons_of_mem _ tw_627)
  have f30 := hts _ (List.mem_cons_of_mem _ tw_618)
  have f33 := hts _ (List.mem_cons_of_mem _ tw_619)
  have f36 := hts _ (List.mem_cons_of_mem _ tw_620)
  have f58 := hts _ (List.mem_cons_of_mem _ tw_608)
  have f77 := hts _ (List.mem_cons_of_mem _ tw_621)
  have f80 := hts _ (List.mem_cons_of_mem _ tw_624)
  have f83 := hts _ (List.mem_cons_of_mem _ tw_625)
  refine lv_iload_n hx hb dX6_commit_0 rfl (lv_at hl 1 rfl) ?_
  refine lv_iconst (v := (-1)) hx hb dX6_commit_1 (by decide) ?_
  refine lv_icmp_ge (tgt := 7) hx hb dX6_commit_2 (by decide) (fun c2 => ?_) (fun c2 => ?_)
  · refine lv_aload_n hx hb dX6_commit_7 rfl (lv_at hl 0 rfl) ?_
    refine va_get (D := (dC, dI)) (ci := 6) (v := .int (bI ro)) (C := RX6) (T := TX6) (N := 22) hx hb hts in_X6 hown hK hP 0 rfl rfl 6 (by decide) f105 (fun _ h9 => h9) rfl dX6_commit_8 ?_
    refine x_if_ne_b (tgt := 17) hx hb dX6_commit_11 (by decide) (fun c11 => ?_) (fun c11 => ?_)
    · refine lv_aload_n hx hb dX6_commit_17 rfl (lv_at hl 0 rfl) ?_
      refine x_calli (va_runV (As := []) (rest := []) ⟨hx, hb, hml, hown, hts⟩ (c_M_inFiles (by omega) hfR) (cwV 0 hts (tbV tw_726 tw_728 tw_69 tw_91 tw_729) rfl rfl rfl (by decide +kernel) ⟨Nat.le_of_ble_eq_true rfl, Nat.le_of_ble_eq_true rfl⟩) ⟨y_blind, va_recv hK hP (ci := 6) (q0 := 0) rfl rfl, y_pre hK hP hD⟩ rfl rfl hl.1 rfl (lv_room (Nat.le_of_ble_eq_true rfl)) dX6_commit_18 ⟨Nat.zero_le _, Nat.zero_le _⟩) hS (fun H locs hP hD hS => ?_)
      have hP : va_P (dC, dI) vwCl (wM b cB cI cL rb rd rq rQ rw ra ro rn rk rv rf fN fF fB fR rl lB lR rt rg rx rz) H := hP
      have hD : va_D A (wM b cB cI cL rb rd rq rQ rw ra ro rn rk rv rf fN fF fB fR rl lB lR rt rg rx rz) := hD
      have hv18 := ifM_lt hfR rf 0 0
      refine lv_istore_n (lv' := [(2, .int (nI (ifM fR rf 0 0))), (0, .ref (b 0)), (1, .int (z))]) hx hb dX6_commit_21 rfl hl (by decide) rfl (fun ls hl => ?_)
      refine lv_aload_n hx hb dX6_commit_22 rfl (lv_at hl 1 rfl) ?_
      refine va_get (D := (dC, dI)) (ci := 6) (v := .int (nI rn)) (C := RX6) (T := TX6) (N := 22) hx hb hts in_X6 hown hK hP 0 rfl rfl 7 (by decide) f71 (fun _ h9 => h9) rfl dX6_commit_23 ?_
      refine lv_iload_n hx hb dX6_commit_26 rfl (lv_at hl 0 rfl) ?_
      refine x_icmp_ne (tgt := 32) hx hb dX6_commit_27 (by decide) (by omega) (by omega) (fun c27 => ?_) (fun c27 => ?_)
      · refine lv_aload_n hx hb dX6_commit_32 rfl (lv_at hl 1 rfl) ?_
        refine va_get (D := (dC, dI)) (ci := 6) (v := .int (nI rf)) (C := RX6) (T := TX6) (N := 22) hx hb hts in_X6 hown hK hP 0 rfl rfl 10 (by decide) f74 (fun _ h9 => h9) rfl dX6_commit_33 ?_
        refine lv_iconst (v := nI 5) hx hb dX6_commit_36 (by decide) ?_
        refine x_icmp_ne (tgt := 44) hx hb dX6_commit_37 (by decide) (by omega) (by omega) (fun c37 => ?_) (fun c37 => ?_)
        · exact absurd hm c37
        · refine lv_iconst (v := nI 0) hx hb dX6_commit_40 (by decide) ?_
          refine lv_goto (tgt := 45) hx hb dX6_commit_41 (by decide) ?_
          refine lv_istore_n (lv' := [(3, .int (nI 0)), (2, .int (nI (ifM fR rf 0 0))), (0, .ref (b 0)), (1, .int (z))]) hx hb dX6_commit_45 rfl hl (by decide) rfl (fun ls hl => ?_)
          refine lv_aload_n hx hb dX6_commit_46 rfl (lv_at hl 2 rfl) ?_
          refine va_get (D := (dC, dI)) (ci := 6) (v := .int (nI rf)) (C := RX6) (T := TX6) (N := 22) hx hb hts in_X6 hown hK hP 0 rfl rfl 10 (by decide) f74 (fun _ h9 => h9) rfl dX6_commit_47 ?_
          refine lv_iconst (v := nI 5) hx hb dX6_commit_50 (by decide) ?_
          refine x_icmp_ne (tgt := 58) hx hb dX6_commit_51 (by decide) (by omega) (by omega) (fun c51 => ?_) (fun c51 => ?_)
          · exact absurd hm c51
          · refine lv_iconst (v := nI 0) hx hb dX6_commit_54 (by decide) ?_
            refine lv_goto (tgt := 62) hx hb dX6_commit_55 (by decide) ?_
            refine lv_istore (lv' := [(4, .int (nI 0)), (3, .int (nI 0)), (2, .int (nI (ifM fR rf 0 0))), (0, .ref (b 0)), (1, .int (z))]) hx hb dX6_commit_62 hl (by decide) rfl (fun ls hl => ?_)
            refine lv_aload_n hx hb dX6_commit_64 rfl (lv_at hl 3 rfl) ?_
            refine va_get (D := (dC, dI)) (ci := 6) (v := .int (nI rn)) (C := RX6) (T := TX6) (N := 22) hx hb hts in_X6 hown hK hP 0 rfl rfl 7 (by decide) f71 (fun _ h9 => h9) rfl dX6_commit_65 ?_
            refine lv_iload_n hx hb dX6_commit_68 rfl (lv_at hl 1 rfl) ?_
            refine x_isub hx hb dX6_commit_69 (by omega) ?_
            refine lv_istore (lv' := [(5, .int (nI (rn - 0))), (4, .int (nI 0)), (3, .int (nI 0)), (2, .int (nI (ifM fR rf 0 0))), (0, .ref (b 0)), (1, .int (z))]) hx hb dX6_commit_70 hl (by decide) rfl (fun ls hl => ?_)
            refine lv_iload hx hb dX6_commit_72 (lv_at hl 0 rfl) ?_
            refine lv_iconst (v := nI 2) hx hb dX6_commit_74 (by decide) ?_
            refine x_iadd hx hb dX6_commit_75 ?_
            refine lv_iconst (v := nI 3) hx hb dX6_commit_76 (by decide) ?_
            refine x_idiv hx hb dX6_commit_77 (by omega) (by omega) (by omega) ?_
            refine lv_istore (lv' := [(6, .int (nI (((rn - 0) + 2) / 3))), (5, .int (nI (rn - 0))), (4, .int (nI 0)), (3, .int (nI 0)), (2, .int (nI (ifM fR rf 0 0))), (0, .ref (b 0)), (1, .int (z))]) hx hb dX6_commit_78 hl (by decide) rfl (fun ls hl => ?_)
            refine lv_aload_n hx hb dX6_commit_80 rfl (lv_at hl 5 rfl) ?_
            refine lv_iload hx hb dX6_commit_81 (lv_at hl 0 rfl) ?_
            refine x_calli (va_runV (As := [.int (nI (((rn - 0) + 2) / 3))]) (rest := []) ⟨hx, hb, hml, hown, hts⟩ (c_M_free (by omega) (by omega) hfF hfB (by omega) hlB (((rn - 0) + 2) / 3) (by omega) (by omega)) (cwV 1 hts (tbV tw_678 tw_680 tw_61 tw_91 tw_681) rfl rfl rfl (by decide +kernel) ⟨Nat.le_of_ble_eq_true rfl, Nat.le_of_ble_eq_true rfl⟩) ⟨y_blind, va_recv hK hP (ci := 6) (q0 := 0) rfl rfl, y_pre hK hP hD⟩ rfl rfl hl.1 rfl (lv_room (Nat.le_of_ble_eq_true rfl)) dX6_commit_83 ⟨Nat.zero_le _, Nat.zero_le _⟩) hS (fun H locs hP hD hS => ?_)
            have hP : va_P (dC, dI) vwCl (wM b cB cI cL rb rd rq rQ rw ra ro rn rk rv rf fN fF fB fR rl lB lR rt rg rx rz) H := hP
            have hD : va_D A (wM b cB cI cL rb rd rq rQ rw ra ro rn rk rv rf fN fF fB fR rl lB lR rt rg rx rz) := hD
            refine lv_istore (lv' := [(7, .int (oJ (frM (usM rf fF fB rl lB) (((rn - 0) + 2) / 3) (rb - 2) 2 0))), (6, .int (nI (((rn - 0) + 2) / 3))), (5, .int (nI (rn - 0))), (4, .int (nI 0)), (3, .int (nI 0)), (2, .int (nI (ifM fR rf 0 0))), (0, .ref (b 0)), (1, .int (z))]) hx hb dX6_commit_86 hl (by decide) rfl (fun ls hl => ?_)
            rw [hfr] at hl
            have hl : lv_has ls 10 [(7, .int (nI y)), (6, .int (nI (((rn - 0) + 2) / 3))), (5, .int (nI (rn - 0))), (4, .int (nI 0)), (3, .int (nI 0)), (2, .int (nI (ifM fR rf 0 0))), (0, .ref (b 0)), (1, .int (z))] := hl
            refine lv_iload hx hb dX6_commit_88 (lv_at hl 0 rfl) ?_
            refine x_if_ge (tgt := 96) hx hb dX6_commit_90 (by decide) (by omega) ?_
            refine lv_aload_n hx hb dX6_commit_96 rfl (lv_at hl 6 rfl) ?_
            refine lv_iload_n hx hb dX6_commit_97 rfl (lv_at hl 4 rfl) ?_
            refine x_callv (va_runV (As := [.int (nI 0)]) (rest := []) ⟨hx, hb, hml, hown, hts⟩ (c_M_sort (by omega) 0 (by omega)) (cwV 1 hts (tbV tw_730 tw_732 tw_70 tw_91 tw_733) rfl rfl rfl (by decide +kernel) ⟨Nat.le_of_ble_eq_true rfl, Nat.le_of_ble_eq_true rfl⟩) ⟨y_blind, va_recv hK hP (ci := 6) (q0 := 0) rfl rfl, y_pre hK hP hD⟩ rfl rfl hl.1 rfl (lv_room (Nat.le_of_ble_eq_true rfl)) dX6_commit_98 ⟨Nat.zero_le _, Nat.zero_le _⟩) hS (fun H locs hP hD hS => ?_)
            have hP : va_P (dC, dI) vwCl (wM b cB cI cL rb rd rq rQ rw ra ro rn ((srO 0 (rn - (0 + 1)) (0 + 1) (rk, rv)).1) ((srO 0 (rn - (0 + 1)) (0 + 1) (rk, rv)).2) rf fN fF fB fR rl lB lR rt rg rx rz) H := hP
            have hD : va_D A (wM b cB cI cL rb rd rq rQ rw ra ro rn ((srO 0 (rn - (0 + 1)) (0 + 1) (rk, rv)).1) ((srO 0 (rn - (0 + 1)) (0 + 1) (rk, rv)).2) rf fN fF fB fR rl lB lR rt rg rx rz) := hD
            rw [hK0] at hP hD
            refine lv_iconst (v := nI 0) hx hb dX6_commit_101 (by decide) ?_
            refine lv_istore (lv' := [(8, .int (nI 0)), (7, .int (nI y)), (6, .int (nI (((rn - 0) + 2) / 3))), (5, .int (nI (rn - 0))), (4, .int (nI 0)), (3, .int (nI 0)), (2, .int (nI (ifM fR rf 0 0))), (0, .ref (b 0)), (1, .int (z))]) hx hb dX6_commit_102 hl (by decide) rfl (fun ls hl => ?_)
            have L104 : ∀ (fu104 : Nat) (p1 : Nat) (Z' : WQ), ((((rn - 0) + 2) / 3) - p1 < fu104) → (p1 ≤ (((rn - 0) + 2) / 3)) → (Z'.1 = rq + p1) → (∀ q, Z'.2.1 q < 64) → (∀ q, Z'.2.2.2 q < 256) → (cqL y (((rn - 0) + 2) / 3) 0 (rn - 0) rz K.1 K.2 ((((rn - 0) + 2) / 3) - p1) p1 Z' = Z0) → ∀ (H : Heap) (locs : List Loc), va_P (dC, dI) vwCl (wM b cB cI cL rb rd Z'.1 Z'.2.1 Z'.2.2.2 Z'.2.2.1 ro rn K.1 K.2 rf fN fF fB fR rl lB lR rt rg rx rz) H → va_D A (wM b cB cI cL rb rd Z'.1 Z'.2.1 Z'.2.2.2 Z'.2.2.1 ro rn K.1 K.2 rf fN fF fB fR rl lB lR rt rg rx rz) → va_S A s.heap H locs → ∀ (ls : Array Slot), lv_has ls 10 [(0, .ref (b 0)), (1, .int (z)), (2, .int (nI (ifM fR rf 0 0))), (3, .int (nI 0)), (4, .int (nI 0)), (5, .int (nI (rn - 0))), (6, .int (nI (((rn - 0) + 2) / 3))), (7, .int (nI y)), (8, .int (nI p1))] → W p l e { frames := 3, cells := 0, slots := 0, locals := 72 } s m args below meth c H locs 0 0 Q (F0 m 104 ls []) := by
              intro fu104
              induction fu104 with
              | zero => intro p1 Z' hm; exact absurd hm (Nat.not_lt_zero _)
              | succ fu104 ih104 =>
                intro p1 Z' hm i104_0 i104_1 i104_2 i104_3 i104_4 H locs hP hD hS ls hl
                refine lv_iload hx hb dX6_commit_104 (lv_at hl 8 rfl) ?_
                refine lv_iload hx hb dX6_commit_106 (lv_at hl 6 rfl) ?_
                refine x_icmp_ge (tgt := 130) hx hb dX6_commit_108 (by decide) (by omega) (by omega) (fun c108 => ?_) (fun c108 => ?_)
                · have zz1 : Z0 = Z' := by
                    have h := i104_4
                    rw [show (((rn - 0) + 2) / 3) - p1 = 0 by omega, cqL] at h
                    exact h.symm
                  subst zz1
                  have hq9 := i104_1
                  refine lv_aload_n hx hb dX6_commit_130 rfl (lv_at hl 0 rfl) ?_
                  refine va_get (D := (dC, dI)) (ci := 6) (v := .ref (b 6)) (C := RX6) (T := TX6) (N := 22) hx hb hts in_X6 hown hK hP 0 rfl rfl 11 (by decide) f27 (fun _ h9 => h9) rfl dX6_commit_131 ?_
                  refine lv_iload hx hb dX6_commit_134 (lv_at hl 4 rfl) ?_
                  refine lv_aload_n hx hb dX6_commit_136 rfl (lv_at hl 0 rfl) ?_
                  refine va_get (D := (dC, dI)) (ci := 6) (v := .int (nI rz)) (C := RX6) (T := TX6) (N := 22) hx hb hts in_X6 hown hK hP 0 rfl rfl 21 (by decide) f90 (fun _ h9 => h9) rfl dX6_commit_137 ?_
                  refine lv_iconst (v := nI 1) hx hb dX6_commit_140 (by decide) ?_
                  refine x_iadd hx hb dX6_commit_141 ?_
                  refine x_iast hx hb hK hP hD hS 6 1 rfl rfl (by omega) (by decide) dX6_commit_142 (fun H locs hP hD hS => ?_)
                  have hP : va_P (dC, dI) vwCl (wM b cB cI cL rb rd Z0.1 Z0.2.1 Z0.2.2.2 Z0.2.2.1 ro rn K.1 K.2 rf (va_up fN 0 (rz + 1)) fF fB fR rl lB lR rt rg rx rz) H := hP
                  have hD : va_D A (wM b cB cI cL rb rd Z0.1 Z0.2.1 Z0.2.2.2 Z0.2.2.1 ro rn K.1 K.2 rf (va_up fN 0 (rz + 1)) fF fB fR rl lB lR rt rg rx rz) := hD
                  refine lv_aload_n hx hb dX6_commit_143 rfl (lv_at hl 0 rfl) ?_
                  refine va_get (D := (dC, dI)) (ci := 6) (v := .ref (b 7)) (C := RX6) (T := TX6) (N := 22) hx hb hts in_X6 hown hK hP 0 rfl rfl 12 (by decide) f30 (fun _ h9 => h9) rfl dX6_commit_144 ?_
                  refine lv_iload hx hb dX6_commit_147 (lv_at hl 4 rfl) ?_
                  refine lv_iload hx hb dX6_commit_149 (lv_at hl 7 rfl) ?_
                  refine x_iast hx hb hK hP hD hS 7 1 rfl rfl (by omega) (by decide) dX6_commit_151 (fun H locs hP hD hS => ?_)
                  have hP : va_P (dC, dI) vwCl (wM b cB cI cL rb rd Z0.1 Z0.2.1 Z0.2.2.2 Z0.2.2.1 ro rn K.1 K.2 rf (va_up fN 0 (rz + 1)) (va_up fF 0 y) fB fR rl lB lR rt rg rx rz) H := hP
                  have hD : va_D A (wM b cB cI cL rb rd Z0.1 Z0.2.1 Z0.2.2.2 Z0.2.2.1 ro rn K.1 K.2 rf (va_up fN 0 (rz + 1)) (va_up fF 0 y) fB fR rl lB lR rt rg rx rz) := hD
                  refine lv_aload_n hx hb dX6_commit_152 rfl (lv_at hl 0 rfl) ?_
                  refine va_get (D := (dC, dI)) (ci := 6) (v := .ref (b 8)) (C := RX6) (T := TX6) (N := 22) hx hb hts in_X6 hown hK hP 0 rfl rfl 13 (by decide) f33 (fun _ h9 => h9) rfl dX6_commit_153 ?_
                  refine lv_iload hx hb dX6_commit_156 (lv_at hl 4 rfl) ?_
                  refine lv_iload hx hb dX6_commit_158 (lv_at hl 6 rfl) ?_
                  refine x_iast hx hb hK hP hD hS 8 1 rfl rfl (by omega) (by decide) dX6_commit_160 (fun H locs hP hD hS => ?_)
                  have hP : va_P (dC, dI) vwCl (wM b cB cI cL rb rd Z0.1 Z0.2.1 Z0.2.2.2 Z0.2.2.1 ro rn K.1 K.2 rf (va_up fN 0 (rz + 1)) (va_up fF 0 y) (va_up fB 0 (((rn - 0) + 2) / 3)) fR rl lB lR rt rg rx rz) H := hP
                  have hD : va_D A (wM b cB cI cL rb rd Z0.1 Z0.2.1 Z0.2.2.2 Z0.2.2.1 ro rn K.1 K.2 rf (va_up fN 0 (rz + 1)) (va_up fF 0 y) (va_up fB 0 (((rn - 0) + 2) / 3)) fR rl lB lR rt rg rx rz) := hD
                  refine lv_aload_n hx hb dX6_commit_161 rfl (lv_at hl 0 rfl) ?_
                  refine va_get (D := (dC, dI)) (ci := 6) (v := .ref (b 9)) (C := RX6) (T := TX6) (N := 22) hx hb hts in_X6 hown hK hP 0 rfl rfl 14 (by decide) f36 (fun _ h9 => h9) rfl dX6_commit_162 ?_
                  refine lv_iload hx hb dX6_commit_165 (lv_at hl 4 rfl) ?_
                  refine lv_iload hx hb dX6_commit_167 (lv_at hl 5 rfl) ?_
                  refine x_iast hx hb hK hP hD hS 9 1 rfl rfl (by omega) (by decide) dX6_commit_169 (fun H locs hP hD hS => ?_)
                  have hP : va_P (dC, dI) vwCl (wM b cB cI cL rb rd Z0.1 Z0.2.1 Z0.2.2.2 Z0.2.2.1 ro rn K.1 K.2 rf (va_up fN 0 (rz + 1)) (va_up fF 0 y) (va_up fB 0 (((rn - 0) + 2) / 3)) (va_up fR 0 (rn - 0)) rl lB lR rt rg rx rz) H := hP
                  have hD : va_D A (wM b cB cI cL rb rd Z0.1 Z0.2.1 Z0.2.2.2 Z0.2.2.1 ro rn K.1 K.2 rf (va_up fN 0 (rz + 1)) (va_up fF 0 y) (va_up fB 0 (((rn - 0) + 2) / 3)) (va_up fR 0 (rn - 0)) rl lB lR rt rg rx rz) := hD
                  refine lv_aload_n hx hb dX6_commit_170 rfl (lv_at hl 0 rfl) ?_
                  refine lv_iload hx hb dX6_commit_171 (lv_at hl 4 rfl) ?_
                  refine lv_iconst (v := nI 1) hx hb dX6_commit_173 (by decide) ?_
                  refine x_iadd hx hb dX6_commit_174 ?_
                  refine x_callv (va_runV (As := [.int (nI (0 + 1))]) (rest := []) ⟨hx, hb, hml, hown, hts⟩ (c_M_writesHead i104_3 i104_2 (va_up_lt hfN (by omega)) (va_up_lt hfF (by omega)) (va_up_lt hfB (by omega)) (va_up_lt hfR (by omega)) (by omega) (by omega) (0 + 1) (by omega) (by omega)) (cwV 1 hts (tbV tw_739 tw_741 tw_72 tw_91 tw_742) rfl rfl rfl (by decide +kernel) ⟨Nat.le_of_ble_eq_true rfl, Nat.le_of_ble_eq_true rfl⟩) ⟨y_blind, va_recv hK hP (ci := 6) (q0 := 0) rfl rfl, y_pre hK hP hD⟩ rfl rfl hl.1 rfl (lv_room (Nat.le_of_ble_eq_true rfl)) dX6_commit_175 ⟨Nat.zero_le _, Nat.zero_le _⟩) hS (fun H locs hP hD hS => ?_)
                  have hP : va_P (dC, dI) vwCl (wM b cB cI cL rb rd (Z0.1 + 1) (va_up Z0.2.1 Z0.1 ((rg + 1) % 2)) (whG Z0.1 (0 + 1) rg rx (va_up fN 0 (rz + 1)) (va_up fF 0 y) (va_up fB 0 (((rn - 0) + 2) / 3)) (va_up fR 0 (rn - 0)) Z0.2.2.2) (64 * Z0.1) ro rn K.1 K.2 rf (va_up fN 0 (rz + 1)) (va_up fF 0 y) (va_up fB 0 (((rn - 0) + 2) / 3)) (va_up fR 0 (rn - 0)) rl lB lR rt rg rx rz) H := hP
                  have hD : va_D A (wM b cB cI cL rb rd (Z0.1 + 1) (va_up Z0.2.1 Z0.1 ((rg + 1) % 2)) (whG Z0.1 (0 + 1) rg rx (va_up fN 0 (rz + 1)) (va_up fF 0 y) (va_up fB 0 (((rn - 0) + 2) / 3)) (va_up fR 0 (rn - 0)) Z0.2.2.2) (64 * Z0.1) ro rn K.1 K.2 rf (va_up fN 0 (rz + 1)) (va_up fF 0 y) (va_up fB 0 (((rn - 0) + 2) / 3)) (va_up fR 0 (rn - 0)) rl lB lR rt rg rx rz) := hD
                  refine lv_ldc2 (v := lN 64) hx hb hown (hts _ (List.mem_cons_of_mem _ tw_598)) dX6_commit_178 ?_
                  refine lv_aload_n hx hb dX6_commit_181 rfl (lv_at hl 0 rfl) ?_
                  refine va_get (D := (dC, dI)) (ci := 6) (v := .int (nI (Z0.1 + 1))) (C := RX6) (T := TX6) (N := 22) hx hb hts in_X6 hown hK hP 0 rfl rfl 2 (by decide) f58 (fun _ h9 => h9) rfl dX6_commit_182 ?_
                  refine lv_i2l (v := lN (Z0.1 + 1)) hx hb dX6_commit_185 (nI_l (by omega)) ?_
                  refine lv_lmul hx hb dX6_commit_186 ?_
                  refine x_topl (y := lN (64 * (Z0.1 + 1))) (lN_mul _ _) ?_
                  refine lv_lstore (lv' := [(8, .long (lN (64 * (Z0.1 + 1)))), (0, .ref (b 0)), (1, .int (z)), (2, .int (nI (ifM fR rf 0 0))), (3, .int (nI 0)), (4, .int (nI 0)), (5, .int (nI (rn - 0))), (6, .int (nI (((rn - 0) + 2) / 3))), (7, .int (nI y))]) hx hb dX6_commit_187 hl (by decide) rfl (fun ls hl => ?_)
                  refine lv_iload_n hx hb dX6_commit_189 rfl (lv_at hl 2 rfl) ?_
                  refine lv_if_lt (tgt := 215) hx hb dX6_commit_190 (by decide) (fun c190 => ?_) (fun c190 => ?_)
                  · refine lv_aload_n hx hb dX6_commit_215 rfl (lv_at hl 1 rfl) ?_
                    refine lv_lload hx hb dX6_commit_216 (lv_at hl 0 rfl) ?_
                    refine x_calli (va_runV (As := [.long (lN (64 * (Z0.1 + 1)))]) (rest := []) ⟨hx, hb, hml, hown, hts⟩ (c_M_pours hrd (whG_lt i104_3) (va_up_lt i104_2 (by omega)) (by omega) (64 * (Z0.1 + 1)) (by omega)) (cwV 1 hts (tbV tw_718 tw_720 tw_68 tw_91 tw_721) rfl rfl rfl (by decide +kernel) ⟨Nat.le_of_ble_eq_true rfl, Nat.le_of_ble_eq_true rfl⟩) ⟨y_blind, va_recv hK hP (ci := 6) (q0 := 0) rfl rfl, y_pre hK hP hD⟩ rfl rfl hl.1 rfl (lv_room (Nat.le_of_ble_eq_true rfl)) dX6_commit_218 ⟨Nat.zero_le _, Nat.zero_le _⟩) hS (fun H locs hP hD hS => ?_)
                    have hP : va_P (dC, dI) vwCl (wM b cB cI cL rb ((prO (va_up Z0.2.1 Z0.1 ((rg + 1) % 2)) (whG Z0.1 (0 + 1) rg rx (va_up fN 0 (rz + 1)) (va_up fF 0 y) (va_up fB 0 (((rn - 0) + 2) / 3)) (va_up fR 0 (rn - 0)) Z0.2.2.2) (Z0.1 + 1) 0 (64 * (Z0.1 + 1)) 0 rd).2) 0 (va_up Z0.2.1 Z0.1 ((rg + 1) % 2)) (whG Z0.1 (0 + 1) rg rx (va_up fN 0 (rz + 1)) (va_up fF 0 y) (va_up fB 0 (((rn - 0) + 2) / 3)) (va_up fR 0 (rn - 0)) Z0.2.2.2) (64 * Z0.1) ro rn K.1 K.2 rf (va_up fN 0 (rz + 1)) (va_up fF 0 y) (va_up fB 0 (((rn - 0) + 2) / 3)) (va_up fR 0 (rn - 0)) rl lB lR rt rg rx rz) H := hP
                    have hD : va_D A (wM b cB cI cL rb ((prO (va_up Z0.2.1 Z0.1 ((rg + 1) % 2)) (whG Z0.1 (0 + 1) rg rx (va_up fN 0 (rz + 1)) (va_up fF 0 y) (va_up fB 0 (((rn - 0) + 2) / 3)) (va_up fR 0 (rn - 0)) Z0.2.2.2) (Z0.1 + 1) 0 (64 * (Z0.1 + 1)) 0 rd).2) 0 (va_up Z0.2.1 Z0.1 ((rg + 1) % 2)) (whG Z0.1 (0 + 1) rg rx (va_up fN 0 (rz + 1)) (va_up fF 0 y) (va_up fB 0 (((rn - 0) + 2) / 3)) (va_up fR 0 (rn - 0)) Z0.2.2.2) (64 * Z0.1) ro rn K.1 K.2 rf (va_up fN 0 (rz + 1)) (va_up fF 0 y) (va_up fB 0 (((rn - 0) + 2) / 3)) (va_up fR 0 (rn - 0)) rl lB lR rt rg rx rz) := hD
                    refine lv_pop hx hb dX6_commit_221 rfl ?_
                    refine lv_aload_n hx hb dX6_commit_222 rfl (lv_at hl 1 rfl) ?_
                    refine lv_iload hx hb dX6_commit_223 (lv_at hl 5 rfl) ?_
                    refine lv_iconst (v := nI 1) hx hb dX6_commit_225 (by decide) ?_
                    refine x_iadd hx hb dX6_commit_226 ?_
                    refine va_put (D := (dC, dI)) (ci := 6) (v := .int (nI (0 + 1))) (ty := .int) (C := RX6) (T := TX6) (N := 22) hx hb hts in_X6 tyX6 tyX6_ok nmX6 hown hK hP hD hS 0 rfl rfl 10 (by decide) f74 (fun _ h9 => h9) rfl (by decide +kernel) rfl rfl (Nat.le_of_ble_eq_true rfl) dX6_commit_227 (fun H locs hP hD hS => ?_)
                    have hP : va_P (dC, dI) vwCl (wM b cB cI cL rb ((prO (va_up Z0.2.1 Z0.1 ((rg + 1) % 2)) (whG Z0.1 (0 + 1) rg rx (va_up fN 0 (rz + 1)) (va_up fF 0 y) (va_up fB 0 (((rn - 0) + 2) / 3)) (va_up fR 0 (rn - 0)) Z0.2.2.2) (Z0.1 + 1) 0 (64 * (Z0.1 + 1)) 0 rd).2) 0 (va_up Z0.2.1 Z0.1 ((rg + 1) % 2)) (whG Z0.1 (0 + 1) rg rx (va_up fN 0 (rz + 1)) (va_up fF 0 y) (va_up fB 0 (((rn - 0) + 2) / 3)) (va_up fR 0 (rn - 0)) Z0.2.2.2) (64 * Z0.1) ro rn K.1 K.2 (0 + 1) (va_up fN 0 (rz + 1)) (va_up fF 0 y) (va_up fB 0 (((rn - 0) + 2) / 3)) (va_up fR 0 (rn - 0)) rl lB lR rt rg rx rz) H := hP
                    have hD : va_D A (wM b cB cI cL rb ((prO (va_up Z0.2.1 Z0.1 ((rg + 1) % 2)) (whG Z0.1 (0 + 1) rg rx (va_up fN 0 (rz + 1)) (va_up fF 0 y) (va_up fB 0 (((rn - 0) + 2) / 3)) (va_up fR 0 (rn - 0)) Z0.2.2.2) (Z0.1 + 1) 0 (64 * (Z0.1 + 1)) 0 rd).2) 0 (va_up Z0.2.1 Z0.1 ((rg + 1) % 2)) (whG Z0.1 (0 + 1) rg rx (va_up fN 0 (rz + 1)) (va_up fF 0 y) (va_up fB 0 (((rn - 0) + 2) / 3)) (va_up fR 0 (rn - 0)) Z0.2.2.2) (64 * Z0.1) ro rn K.1 K.2 (0 + 1) (va_up fN 0 (rz + 1)) (va_up fF 0 y) (va_up fB 0 (((rn - 0) + 2) / 3)) (va_up fR 0 (rn - 0)) rl lB lR rt rg rx rz) := hD
                    refine lv_aload_n hx hb dX6_commit_230 rfl (lv_at hl 1 rfl) ?_
                    refine lv_iconst (v := nI 0) hx hb dX6_commit_231 (by decide) ?_
                    refine va_put (D := (dC, dI)) (ci := 6) (v := .int (nI 0)) (ty := .int) (C := RX6) (T := TX6) (N := 22) hx hb hts in_X6 tyX6 tyX6_ok nmX6 hown hK hP hD hS 0 rfl rfl 15 (by decide) f77 (fun _ h9 => h9) rfl (by decide +kernel) rfl rfl (Nat.le_of_ble_eq_true rfl) dX6_commit_232 (fun H locs hP hD hS => ?_)
                    have hP : va_P (dC, dI) vwCl (wM b cB cI cL rb ((prO (va_up Z0.2.1 Z0.1 ((rg + 1) % 2)) (whG Z0.1 (0 + 1) rg rx (va_up fN 0 (rz + 1)) (va_up fF 0 y) (va_up fB 0 (((rn - 0) + 2) / 3)) (va_up fR 0 (rn - 0)) Z0.2.2.2) (Z0.1 + 1) 0 (64 * (Z0.1 + 1)) 0 rd).2) 0 (va_up Z0.2.1 Z0.1 ((rg + 1) % 2)) (whG Z0.1 (0 + 1) rg rx (va_up fN 0 (rz + 1)) (va_up fF 0 y) (va_up fB 0 (((rn - 0) + 2) / 3)) (va_up fR 0 (rn - 0)) Z0.2.2.2) (64 * Z0.1) ro rn K.1 K.2 (0 + 1) (va_up fN 0 (rz + 1)) (va_up fF 0 y) (va_up fB 0 (((rn - 0) + 2) / 3)) (va_up fR 0 (rn - 0)) 0 lB lR rt rg rx rz) H := hP
                    have hD : va_D A (wM b cB cI cL rb ((prO (va_up Z0.2.1 Z0.1 ((rg + 1) % 2)) (whG Z0.1 (0 + 1) rg rx (va_up fN 0 (rz + 1)) (va_up fF 0 y) (va_up fB 0 (((rn - 0) + 2) / 3)) (va_up fR 0 (rn - 0)) Z0.2.2.2) (Z0.1 + 1) 0 (64 * (Z0.1 + 1)) 0 rd).2) 0 (va_up Z0.2.1 Z0.1 ((rg + 1) % 2)) (whG Z0.1 (0 + 1) rg rx (va_up fN 0 (rz + 1)) (va_up fF 0 y) (va_up fB 0 (((rn - 0) + 2) / 3)) (va_up fR 0 (rn - 0)) Z0.2.2.2) (64 * Z0.1) ro rn K.1 K.2 (0 + 1) (va_up fN 0 (rz + 1)) (va_up fF 0 y) (va_up fB 0 (((rn - 0) + 2) / 3)) (va_up fR 0 (rn - 0)) 0 lB lR rt rg rx rz) := hD
                    refine lv_aload_n hx hb dX6_commit_235 rfl (lv_at hl 1 rfl) ?_
                    refine lv_iconst (v := nI 0) hx hb dX6_commit_236 (by decide) ?_
                    refine va_put (D := (dC, dI)) (ci := 6) (v := .int (nI 0)) (ty := .int) (C := RX6) (T := TX6) (N := 22) hx hb hts in_X6 tyX6 tyX6_ok nmX6 hown hK hP hD hS 0 rfl rfl 18 (by decide) f80 (fun _ h9 => h9) rfl (by decide +kernel) rfl rfl (Nat.le_of_ble_eq_true rfl) dX6_commit_237 (fun H locs hP hD hS => ?_)
                    have hP : va_P (dC, dI) vwCl (wM b cB cI cL rb ((prO (va_up Z0.2.1 Z0.1 ((rg + 1) % 2)) (whG Z0.1 (0 + 1) rg rx (va_up fN 0 (rz + 1)) (va_up fF 0 y) (va_up fB 0 (((rn - 0) + 2) / 3)) (va_up fR 0 (rn - 0)) Z0.2.2.2) (Z0.1 + 1) 0 (64 * (Z0.1 + 1)) 0 rd).2) 0 (va_up Z0.2.1 Z0.1 ((rg + 1) % 2)) (whG Z0.1 (0 + 1) rg rx (va_up fN 0 (rz + 1)) (va_up fF 0 y) (va_up fB 0 (((rn - 0) + 2) / 3)) (va_up fR 0 (rn - 0)) Z0.2.2.2) (64 * Z0.1) ro rn K.1 K.2 (0 + 1) (va_up fN 0 (rz + 1)) (va_up fF 0 y) (va_up fB 0 (((rn - 0) + 2) / 3)) (va_up fR 0 (rn - 0)) 0 lB lR 0 rg rx rz) H := hP
                    have hD : va_D A (wM b cB cI cL rb ((prO (va_up Z0.2.1 Z0.1 ((rg + 1) % 2)) (whG Z0.1 (0 + 1) rg rx (va_up fN 0 (rz + 1)) (va_up fF 0 y) (va_up fB 0 (((rn - 0) + 2) / 3)) (va_up fR 0 (rn - 0)) Z0.2.2.2) (Z0.1 + 1) 0 (64 * (Z0.1 + 1)) 0 rd).2) 0 (va_up Z0.2.1 Z0.1 ((rg + 1) % 2)) (whG Z0.1 (0 + 1) rg rx (va_up fN 0 (rz + 1)) (va_up fF 0 y) (va_up fB 0 (((rn - 0) + 2) / 3)) (va_up fR 0 (rn - 0)) Z0.2.2.2) (64 * Z0.1) ro rn K.1 K.2 (0 + 1) (va_up fN 0 (rz + 1)) (va_up fF 0 y) (va_up fB 0 (((rn - 0) + 2) / 3)) (va_up fR 0 (rn - 0)) 0 lB lR 0 rg rx rz) := hD
                    refine lv_aload_n hx hb dX6_commit_240 rfl (lv_at hl 1 rfl) ?_
                    refine lv_dup hx hb dX6_commit_241 rfl ?_
                    refine va_get (D := (dC, dI)) (ci := 6) (v := .int (nI rz)) (C := RX6) (T := TX6) (N := 22) hx hb hts in_X6 hown hK hP 0 rfl rfl 21 (by decide) f90 (fun _ h9 => h9) rfl dX6_commit_242 ?_
                    refine lv_iconst (v := nI 1) hx hb dX6_commit_245 (by decide) ?_
                    refine x_iadd hx hb dX6_commit_246 ?_
                    refine va_put (D := (dC, dI)) (ci := 6) (v := .int (nI (rz + 1))) (ty := .int) (C := RX6) (T := TX6) (N := 22) hx hb hts in_X6 tyX6 tyX6_ok nmX6 hown hK hP hD hS 0 rfl rfl 21 (by decide) f90 (fun _ h9 => h9) rfl (by decide +kernel) rfl rfl (Nat.le_of_ble_eq_true rfl) dX6_commit_247 (fun H locs hP hD hS => ?_)
                    have hP : va_P (dC, dI) vwCl (wM b cB cI cL rb ((prO (va_up Z0.2.1 Z0.1 ((rg + 1) % 2)) (whG Z0.1 (0 + 1) rg rx (va_up fN 0 (rz + 1)) (va_up fF 0 y) (va_up fB 0 (((rn - 0) + 2) / 3)) (va_up fR 0 (rn - 0)) Z0.2.2.2) (Z0.1 + 1) 0 (64 * (Z0.1 + 1)) 0 rd).2) 0 (va_up Z0.2.1 Z0.1 ((rg + 1) % 2)) (whG Z0.1 (0 + 1) rg rx (va_up fN 0 (rz + 1)) (va_up fF 0 y) (va_up fB 0 (((rn - 0) + 2) / 3)) (va_up fR 0 (rn - 0)) Z0.2.2.2) (64 * Z0.1) ro rn K.1 K.2 (0 + 1) (va_up fN 0 (rz + 1)) (va_up fF 0 y) (va_up fB 0 (((rn - 0) + 2) / 3)) (va_up fR 0 (rn - 0)) 0 lB lR 0 rg rx (rz + 1)) H := hP
                    have hD : va_D A (wM b cB cI cL rb ((prO (va_up Z0.2.1 Z0.1 ((rg + 1) % 2)) (whG Z0.1 (0 + 1) rg rx (va_up fN 0 (rz + 1)) (va_up fF 0 y) (va_up fB 0 (((rn - 0) + 2) / 3)) (va_up fR 0 (rn - 0)) Z0.2.2.2) (Z0.1 + 1) 0 (64 * (Z0.1 + 1)) 0 rd).2) 0 (va_up Z0.2.1 Z0.1 ((rg + 1) % 2)) (whG Z0.1 (0 + 1) rg rx (va_up fN 0 (rz + 1)) (va_up fF 0 y) (va_up fB 0 (((rn - 0) + 2) / 3)) (va_up fR 0 (rn - 0)) Z0.2.2.2) (64 * Z0.1) ro rn K.1 K.2 (0 + 1) (va_up fN 0 (rz + 1)) (va_up fF 0 y) (va_up fB 0 (((rn - 0) + 2) / 3)) (va_up fR 0 (rn - 0)) 0 lB lR 0 rg rx (rz + 1)) := hD
                    refine lv_aload_n hx hb dX6_commit_250 rfl (lv_at hl 1 rfl) ?_
                    refine lv_dup hx hb dX6_commit_251 rfl ?_
                    refine va_get (D := (dC, dI)) (ci := 6) (v := .long (lN rg)) (C := RX6) (T := TX6) (N := 22) hx hb hts in_X6 hown hK hP 0 rfl rfl 19 (by decide) f83 (fun _ h9 => h9) rfl dX6_commit_252 ?_
                    refine lv_lconst (v := lN 1) hx hb dX6_commit_255 rfl ?_
                    refine lv_ladd hx hb dX6_commit_256 ?_
                    refine x_topl (y := lN (rg + 1)) (lN_add _ _) ?_
                    refine va_put (D := (dC, dI)) (ci := 6) (v := .long (lN (rg + 1))) (ty := .long) (C := RX6) (T := TX6) (N := 22) hx hb hts in_X6 tyX6 tyX6_ok nmX6 hown hK hP hD hS 0 rfl rfl 19 (by decide) f83 (fun _ h9 => h9) rfl (by decide +kernel) rfl rfl (Nat.le_of_ble_eq_true rfl) dX6_commit_257 (fun H locs hP hD hS => ?_)
                    have hP : va_P (dC, dI) vwCl (wM b cB cI cL rb ((prO (va_up Z0.2.1 Z0.1 ((rg + 1) % 2)) (whG Z0.1 (0 + 1) rg rx (va_up fN 0 (rz + 1)) (va_up fF 0 y) (va_up fB 0 (((rn - 0) + 2) / 3)) (va_up fR 0 (rn - 0)) Z0.2.2.2) (Z0.1 + 1) 0 (64 * (Z0.1 + 1)) 0 rd).2) 0 (va_up Z0.2.1 Z0.1 ((rg + 1) % 2)) (whG Z0.1 (0 + 1) rg rx (va_up fN 0 (rz + 1)) (va_up fF 0 y) (va_up fB 0 (((rn - 0) + 2) / 3)) (va_up fR 0 (rn - 0)) Z0.2.2.2) (64 * Z0.1) ro rn K.1 K.2 (0 + 1) (va_up fN 0 (rz + 1)) (va_up fF 0 y) (va_up fB 0 (((rn - 0) + 2) / 3)) (va_up fR 0 (rn - 0)) 0 lB lR 0 (rg + 1) rx (rz + 1)) H := hP
                    have hD : va_D A (wM b cB cI cL rb ((prO (va_up Z0.2.1 Z0.1 ((rg + 1) % 2)) (whG Z0.1 (0 + 1) rg rx (va_up fN 0 (rz + 1)) (va_up fF 0 y) (va_up fB 0 (((rn - 0) + 2) / 3)) (va_up fR 0 (rn - 0)) Z0.2.2.2) (Z0.1 + 1) 0 (64 * (Z0.1 + 1)) 0 rd).2) 0 (va_up Z0.2.1 Z0.1 ((rg + 1) % 2)) (whG Z0.1 (0 + 1) rg rx (va_up fN 0 (rz + 1)) (va_up fF 0 y) (va_up fB 0 (((rn - 0) + 2) / 3)) (va_up fR 0 (rn - 0)) Z0.2.2.2) (64 * Z0.1) ro rn K.1 K.2 (0 + 1) (va_up fN 0 (rz + 1)) (va_up fF 0 y) (va_up fB 0 (((rn - 0) + 2) / 3)) (va_up fR 0 (rn - 0)) 0 lB lR 0 (rg + 1) rx (rz + 1)) := hD
                    refine lv_aload_n hx hb dX6_commit_260 rfl (lv_at hl 1 rfl) ?_
                    refine va_get (D := (dC, dI)) (ci := 6) (v := .long (lN (rg + 1))) (C := RX6) (T := TX6) (N := 22) hx hb hts in_X6 hown hK hP 0 rfl rfl 19 (by decide) f83 (fun _ h9 => h9) rfl dX6_commit_261 ?_
                    refine lv_l2i (v := nI (rg + 1)) hx hb dX6_commit_264 (lN_i _) ?_
                    exact hret dX6_commit_265 (by rfl) hP hD hS
                  · exact absurd hzn c190
                · refine lv_aload_n hx hb dX6_commit_111 rfl (lv_at hl 0 rfl) ?_
                  refine lv_iload hx hb dX6_commit_112 (lv_at hl 7 rfl) ?_
                  refine lv_iload hx hb dX6_commit_114 (lv_at hl 8 rfl) ?_
                  refine lv_iload hx hb dX6_commit_116 (lv_at hl 6 rfl) ?_
                  refine lv_iload_n hx hb dX6_commit_118 rfl (lv_at hl 3 rfl) ?_
                  refine lv_iload hx hb dX6_commit_119 (lv_at hl 5 rfl) ?_
                  refine x_callv (va_runV (As := [.int (nI y), .int (nI p1), .int (nI (((rn - 0) + 2) / 3)), .int (nI 0), .int (nI (rn - 0))]) (rest := []) ⟨hx, hb, hml, hown, hts⟩ (c_M_writesFile i104_3 i104_2 (by omega) (by omega) y p1 (((rn - 0) + 2) / 3) 0 (rn - 0) (by omega) (by omega) (by omega) (by omega) (by omega)) (cwV 5 hts (tbV tw_734 tw_736 tw_71 tw_91 tw_737) rfl rfl rfl (by decide +kernel) ⟨Nat.le_of_ble_eq_true rfl, Nat.le_of_ble_eq_true rfl⟩) ⟨y_blind, va_recv hK hP (ci := 6) (q0 := 0) rfl rfl, y_pre hK hP hD⟩ rfl rfl hl.1 rfl (lv_room (Nat.le_of_ble_eq_true rfl)) dX6_commit_121 ⟨Nat.zero_le _, Nat.zero_le _⟩) hS (fun H locs hP hD hS => ?_)
                  have hP : va_P (dC, dI) vwCl (wM b cB cI cL rb rd (Z'.1 + 1) (va_up Z'.2.1 Z'.1 (y + p1)) (wfG Z'.1 y p1 (((rn - 0) + 2) / 3) 0 (rn - 0) rz K.1 K.2 Z'.2.2.2) (64 * Z'.1) ro rn K.1 K.2 rf fN fF fB fR rl lB lR rt rg rx rz) H := hP
                  have hD : va_D A (wM b cB cI cL rb rd (Z'.1 + 1) (va_up Z'.2.1 Z'.1 (y + p1)) (wfG Z'.1 y p1 (((rn - 0) + 2) / 3) 0 (rn - 0) rz K.1 K.2 Z'.2.2.2) (64 * Z'.1) ro rn K.1 K.2 rf fN fF fB fR rl lB lR rt rg rx rz) := hD
                  refine lv_iinc (v := nI (p1 + 1)) (lv' := [(8, .int (nI (p1 + 1))), (0, .ref (b 0)), (1, .int (z)), (2, .int (nI (ifM fR rf 0 0))), (3, .int (nI 0)), (4, .int (nI 0)), (5, .int (nI (rn - 0))), (6, .int (nI (((rn - 0) + 2) / 3))), (7, .int (nI y))]) hx hb dX6_commit_124 hl (k := 8) rfl (x_inc _) (by decide) rfl (fun ls hl => ?_)
                  refine lv_goto (tgt := 104) hx hb dX6_commit_127 (by decide) ?_
                  have e1 : (Z'.1 + 1) = ((cqS y (((rn - 0) + 2) / 3) 0 (rn - 0) rz K.1 K.2 p1 Z').1) := by rfl
                  have e2 : (va_up Z'.2.1 Z'.1 (y + p1)) = ((cqS y (((rn - 0) + 2) / 3) 0 (rn - 0) rz K.1 K.2 p1 Z').2.1) := by rfl
                  have e3 : (wfG Z'.1 y p1 (((rn - 0) + 2) / 3) 0 (rn - 0) rz K.1 K.2 Z'.2.2.2) = ((cqS y (((rn - 0) + 2) / 3) 0 (rn - 0) rz K.1 K.2 p1 Z').2.2.2) := by rfl
                  have e4 : (64 * Z'.1) = ((cqS y (((rn - 0) + 2) / 3) 0 (rn - 0) rz K.1 K.2 p1 Z').2.2.1) := by rfl
                  exact ih104 (p1 + 1) (cqS y (((rn - 0) + 2) / 3) 0 (rn - 0) rz K.1 K.2 p1 Z') (by omega) (by omega) (by show Z'.1 + 1 = rq + (p1 + 1); omega) (by exact va_up_lt i104_2 (by omega)) (by exact wfG_lt i104_3) (by have h := i104_4; rw [show (((rn - 0) + 2) / 3) - p1 = ((((rn - 0) + 2) / 3) - (p1 + 1)) + 1 by omega, cqL] at h; exact h) _ _ (x_wP (by rw [← e1, ← e2, e3, ← e4]) hP) (x_wD (by rw [← e1, ← e2, e3, ← e4]) hD) hS ls (lv_sub hl [1, 2, 3, 4, 5, 6, 7, 8, 0] rfl)
            have e5 : rq = ((rq, rQ, ra, rw).1) := by rfl
            have e6 : rQ = ((rq, rQ, ra, rw).2.1) := by rfl
            have e7 : rw = ((rq, rQ, ra, rw).2.2.2) := by rfl
            have e8 : ra = ((rq, rQ, ra, rw).2.2.1) := by rfl
            exact L104 ((((rn - 0) + 2) / 3) - 0 + 1) 0 (rq, rQ, ra, rw) (by omega) (by omega) (by rfl) (by exact hrQ) (by exact hrw) (by exact hZ0) _ _ (x_wP (by rw [← e5, ← e6, ← e7, ← e8]) hP) (x_wD (by rw [← e5, ← e6, ← e7, ← e8]) hD) hS ls (lv_sub hl [7, 8, 6, 5, 4, 3, 2, 1, 0] rfl)
      · exact absurd c27 (by omega)
    · exact absurd (ho.symm.trans c11) (by decide)
  · exact absurd hz c2

set_option maxHeartbeats 4000000 in
set_option maxRecDepth 100000 in
theorem c_M_commitGMp {l : Launch} {dC : Nat → ClassId} {dI : Nat → Nat → Nat} {A : Nat → Prop} {b : Nat → Nat} {cB cI cL : ClassId} {rb : Nat} {rd : Nat → Nat} {rq : Nat} {rQ rw : Nat → Nat} {ra : Nat} {ro : Bool} {rn : Nat} {rk rv : Nat → Int64} {rf : Nat} {fN fF fB fR : Nat → Nat} {rl : Nat} {lB lR : Nat → Nat} {rt rg rx rz : Nat} (hrb : rb ≤ 64) (hrd : ∀ j, rd j < 256) (hrw : ∀ j, rw j < 256) (hrQ : ∀ j, rQ j < 64) (hrq : rq ≤ 128) (hrn : rn ≤ 210) (hrf : rf ≤ 5) (hfN : ∀ j, fN j < 1048576) (hfF : ∀ j, fF j < 1048576) (hfB : ∀ j, fB j < 1048576) (hfR : ∀ j, fR j < 1048576) (hrl : rl ≤ 62) (hlB : ∀ j, lB j < 1048576) (hrt : rt ≤ rn ∧ rt ≤ 3) (hrg : rg < 2 ^ 30) (hrx : rx < 2 ^ 30 ∧ rt ≤ rx) (hrz : rz < 2 ^ 18) (y : Nat) (K : (Nat → Int64) × (Nat → Int64)) (Z0 : WQ) (n : Nat) (hn1 : n < 2 ^ 31) (hnq : 64 * (Z0.1 + 1) ≤ n) (ho : ro = true) (hl0 : ifM fR rf 0 0 < rn) (hm : rf = 5) (hfr : frM (usM rf fF fB rl lB) (((rn - 0) + 2) / 3) (rb - 2) 2 0 = some y) (hq1 : rq + (((rn - 0) + 2) / 3) < 128) (hK0 : srO 0 (rn - (0 + 1)) (0 + 1) (rk, rv) = K) (hZ0 : cqL y (((rn - 0) + 2) / 3) 0 (rn - 0) rz K.1 K.2 (((rn - 0) + 2) / 3) 0 (rq, rQ, ra, rw) = Z0) : Met l yX6_commit (Cond.code yX6_commit cX6_commit 10 (some .int) :: TB) { frames := 3, cells := 0, slots := 0, locals := 72 } (xPre (fun _ => True) (dC, dI) A (tyS cB cI cL) (wM b cB cI cL rb rd rq rQ rw ra ro rn rk rv rf fN fF fB fR rl lB lR rt rg rx rz) [.ref (b 0), .int (nI n)]) (xQi (dC, dI) A (nI (rg + 1)) (wM b cB cI cL rb ((prO (va_up Z0.2.1 Z0.1 ((rg + 1) % 2)) (whG Z0.1 (0 + 1) rg rx (va_up fN 0 (rz + 1)) (va_up fF 0 y) (va_up fB 0 (((rn - 0) + 2) / 3)) (va_up fR 0 (rn - 0)) Z0.2.2.2) (Z0.1 + 1) 0 (64 * (Z0.1 + 1)) 0 rd).2) 0 (va_up Z0.2.1 Z0.1 ((rg + 1) % 2)) (whG Z0.1 (0 + 1) rg rx (va_up fN 0 (rz + 1)) (va_up fF 0 y) (va_up fB 0 (((rn - 0) + 2) / 3)) (va_up fR 0 (rn - 0)) Z0.2.2.2) (64 * Z0.1) ro rn K.1 K.2 (0 + 1) (va_up fN 0 (rz + 1)) (va_up fF 0 y) (va_up fB 0 (((rn - 0) + 2) / 3)) (va_up fR 0 (rn - 0)) 0 lB lR 0 (rg + 1) rx (rz + 1))) 0 0 A := by
  refine x_ofWi (cc := cX6_commit) (maxL := 10) (by decide) rfl (Nat.le_of_ble_eq_true rfl) ?_
  intro p e s m args below meth c Q hx hb hml hts hown hK hN hP hD hS hret ls hl
  have hl : lv_has ls 10 [(0, .ref (b 0)), (1, .int (nI n))] := hl
  have hown : s.vm.findClass RX6 = some m.cls := hown
  have hyb := frM_lt (show 0 < (((rn - 0) + 2) / 3) by omega) hfr
  have hyz := frM_end (by decide) hfr
  have f105 := hts _ (List.mem_cons_of_mem _ tw_612)
  have in_X6 := (fun q hq => List.mem_cons_of_mem _ (inX6 q hq) : ∀ q ∈ wsX60, q ∈ (Cond.code yX6_commit cX6_commit 10 (some .int) :: TB))
  have f71 := hts _ (List.mem_cons_of_mem _ tw_613)
  have f74 := hts _ (List.mem_cons_of_mem _ tw_616)
  have f27 := hts _ (List.mem_cons_of_mem _ tw_617)
  have f90 := hts _ (List.mem_cons_of_mem _ tw_627)
  have f30 := hts _ (List.mem_cons_of_mem _ tw_618)
  have f33 := hts _ (List.mem_cons_of_mem _ tw_619)
  have f36 := hts _ (List.mem_cons_of_mem _ tw_620)
  have f58 := hts _ (List.mem_cons_of_mem _ tw_608)
  have f77 := hts _ (List.mem_cons_of_mem _ tw_621)
  have f80 := hts _ (List.mem_cons_of_mem _ tw_624)
  have f83 := hts _ (List.mem_cons_of_mem _ tw_625)
  refine lv_iload_n hx hb dX6_commit_0 rfl (lv_at hl 1 rfl) ?_
  refine lv_iconst (v := (-1)) hx hb dX6_commit_1 (by decide) ?_
  refine lv_icmp_ge (tgt := 7) hx hb dX6_commit_2 (by decide) (fun c2 => ?_) (fun c2 => ?_)
  · refine lv_aload_n hx hb dX6_commit_7 rfl (lv_at hl 0 rfl) ?_
    refine va_get (D := (dC, dI)) (ci := 6) (v := .int (bI ro)) (C := RX6) (T := TX6) (N := 22) hx hb hts in_X6 hown hK hP 0 rfl rfl 6 (by decide) f105 (fun _ h9 => h9) rfl dX6_commit_8 ?_
    refine x_if_ne_b (tgt := 17) hx hb dX6_commit_11 (by decide) (fun c11 => ?_) (fun c11 => ?_)
    · refine lv_aload_n hx hb dX6_commit_17 rfl (lv_at hl 0 rfl) ?_
      refine x_calli (va_runV (As := []) (rest := []) ⟨hx, hb, hml, hown, hts⟩ (c_M_inFiles (by omega) hfR) (cwV 0 hts (tbV tw_726 tw_728 tw_69 tw_91 tw_729) rfl rfl rfl (by decide +kernel) ⟨Nat.le_of_ble_eq_true rfl, Nat.le_of_ble_eq_true rfl⟩) ⟨y_blind, va_recv hK hP (ci := 6) (q0 := 0) rfl rfl, y_pre hK hP hD⟩ rfl rfl hl.1 rfl (lv_room (Nat.le_of_ble_eq_true rfl)) dX6_commit_18 ⟨Nat.zero_le _, Nat.zero_le _⟩) hS (fun H locs hP hD hS => ?_)
      have hP : va_P (dC, dI) vwCl (wM b cB cI cL rb rd rq rQ rw ra ro rn rk rv rf fN fF fB fR rl lB lR rt rg rx rz) H := hP
      have hD : va_D A (wM b cB cI cL rb rd rq rQ rw ra ro rn rk rv rf fN fF fB fR rl lB lR rt rg rx rz) := hD
      have hv18 := ifM_lt hfR rf 0 0
      refine lv_istore_n (lv' := [(2, .int (nI (ifM fR rf 0 0))), (0, .ref (b 0)), (1, .int (nI n))]) hx hb dX6_commit_21 rfl hl (by decide) rfl (fun ls hl => ?_)
      refine lv_aload_n hx hb dX6_commit_22 rfl (lv_at hl 1 rfl) ?_
      refine va_get (D := (dC, dI)) (ci := 6) (v := .int (nI rn)) (C := RX6) (T := TX6) (N := 22) hx hb hts in_X6 hown hK hP 0 rfl rfl 7 (by decide) f71 (fun _ h9 => h9) rfl dX6_commit_23 ?_
      refine lv_iload_n hx hb dX6_commit_26 rfl (lv_at hl 0 rfl) ?_
      refine x_icmp_ne (tgt := 32) hx hb dX6_commit_27 (by decide) (by omega) (by omega) (fun c27 => ?_) (fun c27 => ?_)
      · refine lv_aload_n hx hb dX6_commit_32 rfl (lv_at hl 1 rfl) ?_
        refine va_get (D := (dC, dI)) (ci := 6) (v := .int (nI rf)) (C := RX6) (T := TX6) (N := 22) hx hb hts in_X6 hown hK hP 0 rfl rfl 10 (by decide) f74 (fun _ h9 => h9) rfl dX6_commit_33 ?_
        refine lv_iconst (v := nI 5) hx hb dX6_commit_36 (by decide) ?_
        refine x_icmp_ne (tgt := 44) hx hb dX6_commit_37 (by decide) (by omega) (by omega) (fun c37 => ?_) (fun c37 => ?_)
        · exact absurd hm c37
        · refine lv_iconst (v := nI 0) hx hb dX6_commit_40 (by decide) ?_
          refine lv_goto (tgt := 45) hx hb dX6_commit_41 (by decide) ?_
          refine lv_istore_n (lv' := [(3, .int (nI 0)), (2, .int (nI (ifM fR rf 0 0))), (0, .ref (b 0)), (1, .int (nI n))]) hx hb dX6_commit_45 rfl hl (by decide) rfl (fun ls hl => ?_)
          refine lv_aload_n hx hb dX6_commit_46 rfl (lv_at hl 2 rfl) ?_
          refine va_get (D := (dC, dI)) (ci := 6) (v := .int (nI rf)) (C := RX6) (T := TX6) (N := 22) hx hb hts in_X6 hown hK hP 0 rfl rfl 10 (by decide) f74 (fun _ h9 => h9) rfl dX6_commit_47 ?_
          refine lv_iconst (v := nI 5) hx hb dX6_commit_50 (by decide) ?_
          refine x_icmp_ne (tgt := 58) hx hb dX6_commit_51 (by decide) (by omega) (by omega) (fun c51 => ?_) (fun c51 => ?_)
          · exact absurd hm c51
          · refine lv_iconst (v := nI 0) hx hb dX6_commit_54 (by decide) ?_
            refine lv_goto (tgt := 62) hx hb dX6_commit_55 (by decide) ?_
            refine lv_istore (lv' := [(4, .int (nI 0)), (3, .int (nI 0)), (2, .int (nI (ifM fR rf 0 0))), (0, .ref (b 0)), (1, .int (nI n))]) hx hb dX6_commit_62 hl (by decide) rfl (fun ls hl => ?_)
            refine lv_aload_n hx hb dX6_commit_64 rfl (lv_at hl 3 rfl) ?_
            refine va_get (D := (dC, dI)) (ci := 6) (v := .int (nI rn)) (C := RX6) (T := TX6) (N := 22) hx hb hts in_X6 hown hK hP 0 rfl rfl 7 (by decide) f71 (fun _ h9 => h9) rfl dX6_commit_65 ?_
            refine lv_iload_n hx hb dX6_commit_68 rfl (lv_at hl 1 rfl) ?_
            refine x_isub hx hb dX6_commit_69 (by omega) ?_
            refine lv_istore (lv' := [(5, .int (nI (rn - 0))), (4, .int (nI 0)), (3, .int (nI 0)), (2, .int (nI (ifM fR rf 0 0))), (0, .ref (b 0)), (1, .int (nI n))]) hx hb dX6_commit_70 hl (by decide) rfl (fun ls hl => ?_)
            refine lv_iload hx hb dX6_commit_72 (lv_at hl 0 rfl) ?_
            refine lv_iconst (v := nI 2) hx hb dX6_commit_74 (by decide) ?_
            refine x_iadd hx hb dX6_commit_75 ?_
            refine lv_iconst (v := nI 3) hx hb dX6_commit_76 (by decide) ?_
            refine x_idiv hx hb dX6_commit_77 (by omega) (by omega) (by omega) ?_
            refine lv_istore (lv' := [(6, .int (nI (((rn - 0) + 2) / 3))), (5, .int (nI (rn - 0))), (4, .int (nI 0)), (3, .int (nI 0)), (2, .int (nI (ifM fR rf 0 0))), (0, .ref (b 0)), (1, .int (nI n))]) hx hb dX6_commit_78 hl (by decide) rfl (fun ls hl => ?_)
            refine lv_aload_n hx hb dX6_commit_80 rfl (lv_at hl 5 rfl) ?_
            refine lv_iload hx hb dX6_commit_81 (lv_at hl 0 rfl) ?_
            refine x_calli (va_runV (As := [.int (nI (((rn - 0) + 2) / 3))]) (rest := []) ⟨hx, hb, hml, hown, hts⟩ (c_M_free (by omega) (by omega) hfF hfB (by omega) hlB (((rn - 0) + 2) / 3) (by omega) (by omega)) (cwV 1 hts (tbV tw_678 tw_680 tw_61 tw_91 tw_681) rfl rfl rfl (by decide +kernel) ⟨Nat.le_of_ble_eq_true rfl, Nat.le_of_ble_eq_true rfl⟩) ⟨y_blind, va_recv hK hP (ci := 6) (q0 := 0) rfl rfl, y_pre hK hP hD⟩ rfl rfl hl.1 rfl (lv_room (Nat.le_of_ble_eq_true rfl)) dX6_commit_83 ⟨Nat.zero_le _, Nat.zero_le _⟩) hS (fun H locs hP hD hS => ?_)
            have hP : va_P (dC, dI) vwCl (wM b cB cI cL rb rd rq rQ rw ra ro rn rk rv rf fN fF fB fR rl lB lR rt rg rx rz) H := hP
            have hD : va_D A (wM b cB cI cL rb rd rq rQ rw ra ro rn rk rv rf fN fF fB fR rl lB lR rt rg rx rz) := hD
            refine lv_istore (lv' := [(7, .int (oJ (frM (usM rf fF fB rl lB) (((rn - 0) + 2) / 3) (rb - 2) 2 0))), (6, .int (nI (((rn - 0) + 2) / 3))), (5, .int (nI (rn - 0))), (4, .int (nI 0)), (3, .int (nI 0)), (2, .int (nI (ifM fR rf 0 0))), (0, .ref (b 0)), (1, .int (nI n))]) hx hb dX6_commit_86 hl (by decide) rfl (fun ls hl => ?_)
            rw [hfr] at hl
            have hl : lv_has ls 10 [(7, .int (nI y)), (6, .int (nI (((rn - 0) + 2) / 3))), (5, .int (nI (rn - 0))), (4, .int (nI 0)), (3, .int (nI 0)), (2, .int (nI (ifM fR rf 0 0))), (0, .ref (b 0)), (1, .int (nI n))] := hl
            refine lv_iload hx hb dX6_commit_88 (lv_at hl 0 rfl) ?_
            refine x_if_ge (tgt := 96) hx hb dX6_commit_90 (by decide) (by omega) ?_
            refine lv_aload_n hx hb dX6_commit_96 rfl (lv_at hl 6 rfl) ?_
            refine lv_iload_n hx hb dX6_commit_97 rfl (lv_at hl 4 rfl) ?_
            refine x_callv (va_runV (As := [.int (nI 0)]) (rest := []) ⟨hx, hb, hml, hown, hts⟩ (c_M_sort (by omega) 0 (by omega)) (cwV 1 hts (tbV tw_730 tw_732 tw_70 tw_91 tw_733) rfl rfl rfl (by decide +kernel) ⟨Nat.le_of_ble_eq_true rfl, Nat.le_of_ble_eq_true rfl⟩) ⟨y_blind, va_recv hK hP (ci := 6) (q0 := 0) rfl rfl, y_pre hK hP hD⟩ rfl rfl hl.1 rfl (lv_room (Nat.le_of_ble_eq_true rfl)) dX6_commit_98 ⟨Nat.zero_le _, Nat.zero_le _⟩) hS (fun H locs hP hD hS => ?_)
            have hP : va_P (dC, dI) vwCl (wM b cB cI cL rb rd rq rQ rw ra ro rn ((srO 0 (rn - (0 + 1)) (0 + 1) (rk, rv)).1) ((srO 0 (rn - (0 + 1)) (0 + 1) (rk, rv)).2) rf fN fF fB fR rl lB lR rt rg rx rz) H := hP
            have hD : va_D A (wM b cB cI cL rb rd rq rQ rw ra ro rn ((srO 0 (rn - (0 + 1)) (0 + 1) (rk, rv)).1) ((srO 0 (rn - (0 + 1)) (0 + 1) (rk, rv)).2) rf fN fF fB fR rl lB lR rt rg rx rz) := hD
            rw [hK0] at hP hD
            refine lv_iconst (v := nI 0) hx hb dX6_commit_101 (by decide) ?_
            refine lv_istore (lv' := [(8, .int (nI 0)), (7, .int (nI y)), (6, .int (nI (((rn - 0) + 2) / 3))), (5, .int (nI (rn - 0))), (4, .int (nI 0)), (3, .int (nI 0)), (2, .int (nI (ifM fR rf 0 0))), (0, .ref (b 0)), (1, .int (nI n))]) hx hb dX6_commit_102 hl (by decide) rfl (fun ls hl => ?_)
            have L104 : ∀ (fu104 : Nat) (p1 : Nat) (Z' : WQ), ((((rn - 0) + 2) / 3) - p1 < fu104) → (p1 ≤ (((rn - 0) + 2) / 3)) → (Z'.1 = rq + p1) → (∀ q, Z'.2.1 q < 64) → (∀ q, Z'.2.2.2 q < 256) → (cqL y (((rn - 0) + 2) / 3) 0 (rn - 0) rz K.1 K.2 ((((rn - 0) + 2) / 3) - p1) p1 Z' = Z0) → ∀ (H : Heap) (locs : List Loc), va_P (dC, dI) vwCl (wM b cB cI cL rb rd Z'.1 Z'.2.1 Z'.2.2.2 Z'.2.2.1 ro rn K.1 K.2 rf fN fF fB fR rl lB lR rt rg rx rz) H → va_D A (wM b cB cI cL rb rd Z'.1 Z'.2.1 Z'.2.2.2 Z'.2.2.1 ro rn K.1 K.2 rf fN fF fB fR rl lB lR rt rg rx rz) → va_S A s.heap H locs → ∀ (ls : Array Slot), lv_has ls 10 [(0, .ref (b 0)), (1, .int (nI n)), (2, .int (nI (ifM fR rf 0 0))), (3, .int (nI 0)), (4, .int (nI 0)), (5, .int (nI (rn - 0))), (6, .int (nI (((rn - 0) + 2) / 3))), (7, .int (nI y)), (8, .int (nI p1))] → W p l e { frames := 3, cells := 0, slots := 0, locals := 72 } s m args below meth c H locs 0 0 Q (F0 m 104 ls []) := by
              intro fu104
              induction fu104 with
              | zero => intro p1 Z' hm; exact absurd hm (Nat.not_lt_zero _)
              | succ fu104 ih104 =>
                intro p1 Z' hm i104_0 i104_1 i104_2 i104_3 i104_4 H locs hP hD hS ls hl
                refine lv_iload hx hb dX6_commit_104 (lv_at hl 8 rfl) ?_
                refine lv_iload hx hb dX6_commit_106 (lv_at hl 6 rfl) ?_
                refine x_icmp_ge (tgt := 130) hx hb dX6_commit_108 (by decide) (by omega) (by omega) (fun c108 => ?_) (fun c108 => ?_)
                · have zz1 : Z0 = Z' := by
                    have h := i104_4
                    rw [show (((rn - 0) + 2) / 3) - p1 = 0 by omega, cqL] at h
                    exact h.symm
                  subst zz1
                  have hq9 := i104_1
                  refine lv_aload_n hx hb dX6_commit_130 rfl (lv_at hl 0 rfl) ?_
                  refine va_get (D := (dC, dI)) (ci := 6) (v := .ref (b 6)) (C := RX6) (T := TX6) (N := 22) hx hb hts in_X6 hown hK hP 0 rfl rfl 11 (by decide) f27 (fun _ h9 => h9) rfl dX6_commit_131 ?_
                  refine lv_iload hx hb dX6_commit_134 (lv_at hl 4 rfl) ?_
                  refine lv_aload_n hx hb dX6_commit_136 rfl (lv_at hl 0 rfl) ?_
                  refine va_get (D := (dC, dI)) (ci := 6) (v := .int (nI rz)) (C := RX6) (T := TX6) (N := 22) hx hb hts in_X6 hown hK hP 0 rfl rfl 21 (by decide) f90 (fun _ h9 => h9) rfl dX6_commit_137 ?_
                  refine lv_iconst (v := nI 1) hx hb dX6_commit_140 (by decide) ?_
                  refine x_iadd hx hb dX6_commit_141 ?_
                  refine x_iast hx hb hK hP hD hS 6 1 rfl rfl (by omega) (by decide) dX6_commit_142 (fun H locs hP hD hS => ?_)
                  have hP : va_P (dC, dI) vwCl (wM b cB cI cL rb rd Z0.1 Z0.2.1 Z0.2.2.2 Z0.2.2.1 ro rn K.1 K.2 rf (va_up fN 0 (rz + 1)) fF fB fR rl lB lR rt rg rx rz) H := hP
                  have hD : va_D A (wM b cB cI cL rb rd Z0.1 Z0.2.1 Z0.2.2.2 Z0.2.2.1 ro rn K.1 K.2 rf (va_up fN 0 (rz + 1)) fF fB fR rl lB lR rt rg rx rz) := hD
                  refine lv_aload_n hx hb dX6_commit_143 rfl (lv_at hl 0 rfl) ?_
                  refine va_get (D := (dC, dI)) (ci := 6) (v := .ref (b 7)) (C := RX6) (T := TX6) (N := 22) hx hb hts in_X6 hown hK hP 0 rfl rfl 12 (by decide) f30 (fun _ h9 => h9) rfl dX6_commit_144 ?_
                  refine lv_iload hx hb dX6_commit_147 (lv_at hl 4 rfl) ?_
                  refine lv_iload hx hb dX6_commit_149 (lv_at hl 7 rfl) ?_
                  refine x_iast hx hb hK hP hD hS 7 1 rfl rfl (by omega) (by decide) dX6_commit_151 (fun H locs hP hD hS => ?_)
                  have hP : va_P (dC, dI) vwCl (wM b cB cI cL rb rd Z0.1 Z0.2.1 Z0.2.2.2 Z0.2.2.1 ro rn K.1 K.2 rf (va_up fN 0 (rz + 1)) (va_up fF 0 y) fB fR rl lB lR rt rg rx rz) H := hP
                  have hD : va_D A (wM b cB cI cL rb rd Z0.1 Z0.2.1 Z0.2.2.2 Z0.2.2.1 ro rn K.1 K.2 rf (va_up fN 0 (rz + 1)) (va_up fF 0 y) fB fR rl lB lR rt rg rx rz) := hD
                  refine lv_aload_n hx hb dX6_commit_152 rfl (lv_at hl 0 rfl) ?_
                  refine va_get (D := (dC, dI)) (ci := 6) (v := .ref (b 8)) (C := RX6) (T := TX6) (N := 22) hx hb hts in_X6 hown hK hP 0 rfl rfl 13 (by decide) f33 (fun _ h9 => h9) rfl dX6_commit_153 ?_
                  refine lv_iload hx hb dX6_commit_156 (lv_at hl 4 rfl) ?_
                  refine lv_iload hx hb dX6_commit_158 (lv_at hl 6 rfl) ?_
                  refine x_iast hx hb hK hP hD hS 8 1 rfl rfl (by omega) (by decide) dX6_commit_160 (fun H locs hP hD hS => ?_)
                  have hP : va_P (dC, dI) vwCl (wM b cB cI cL rb rd Z0.1 Z0.2.1 Z0.2.2.2 Z0.2.2.1 ro rn K.1 K.2 rf (va_up fN 0 (rz + 1)) (va_up fF 0 y) (va_up fB 0 (((rn - 0) + 2) / 3)) fR rl lB lR rt rg rx rz) H := hP
                  have hD : va_D A (wM b cB cI cL rb rd Z0.1 Z0.2.1 Z0.2.2.2 Z0.2.2.1 ro rn K.1 K.2 rf (va_up fN 0 (rz + 1)) (va_up fF 0 y) (va_up fB 0 (((rn - 0) + 2) / 3)) fR rl lB lR rt rg rx rz) := hD
                  refine lv_aload_n hx hb dX6_commit_161 rfl (lv_at hl 0 rfl) ?_
                  refine va_get (D := (dC, dI)) (ci := 6) (v := .ref (b 9)) (C := RX6) (T := TX6) (N := 22) hx hb hts in_X6 hown hK hP 0 rfl rfl 14 (by decide) f36 (fun _ h9 => h9) rfl dX6_commit_162 ?_
                  refine lv_iload hx hb dX6_commit_165 (lv_at hl 4 rfl) ?_
                  refine lv_iload hx hb dX6_commit_167 (lv_at hl 5 rfl) ?_
                  refine x_iast hx hb hK hP hD hS 9 1 rfl rfl (by omega) (by decide) dX6_commit_169 (fun H locs hP hD hS => ?_)
                  have hP : va_P (dC, dI) vwCl (wM b cB cI cL rb rd Z0.1 Z0.2.1 Z0.2.2.2 Z0.2.2.1 ro rn K.1 K.2 rf (va_up fN 0 (rz + 1)) (va_up fF 0 y) (va_up fB 0 (((rn - 0) + 2) / 3)) (va_up fR 0 (rn - 0)) rl lB lR rt rg rx rz) H := hP
                  have hD : va_D A (wM b cB cI cL rb rd Z0.1 Z0.2.1 Z0.2.2.2 Z0.2.2.1 ro rn K.1 K.2 rf (va_up fN 0 (rz + 1)) (va_up fF 0 y) (va_up fB 0 (((rn - 0) + 2) / 3)) (va_up fR 0 (rn - 0)) rl lB lR rt rg rx rz) := hD
                  refine lv_aload_n hx hb dX6_commit_170 rfl (lv_at hl 0 rfl) ?_
                  refine lv_iload hx hb dX6_commit_171 (lv_at hl 4 rfl) ?_
                  refine lv_iconst (v := nI 1) hx hb dX6_commit_173 (by decide) ?_
                  refine x_iadd hx hb dX6_commit_174 ?_
                  refine x_callv (va_runV (As := [.int (nI (0 + 1))]) (rest := []) ⟨hx, hb, hml, hown, hts⟩ (c_M_writesHead i104_3 i104_2 (va_up_lt hfN (by omega)) (va_up_lt hfF (by omega)) (va_up_lt hfB (by omega)) (va_up_lt hfR (by omega)) (by omega) (by omega) (0 + 1) (by omega) (by omega)) (cwV 1 hts (tbV tw_739 tw_741 tw_72 tw_91 tw_742) rfl rfl rfl (by decide +kernel) ⟨Nat.le_of_ble_eq_true rfl, Nat.le_of_ble_eq_true rfl⟩) ⟨y_blind, va_recv hK hP (ci := 6) (q0 := 0) rfl rfl, y_pre hK hP hD⟩ rfl rfl hl.1 rfl (lv_room (Nat.le_of_ble_eq_true rfl)) dX6_commit_175 ⟨Nat.zero_le _, Nat.zero_le _⟩) hS (fun H locs hP hD hS => ?_)
                  have hP : va_P (dC, dI) vwCl (wM b cB cI cL rb rd (Z0.1 + 1) (va_up Z0.2.1 Z0.1 ((rg + 1) % 2)) (whG Z0.1 (0 + 1) rg rx (va_up fN 0 (rz + 1)) (va_up fF 0 y) (va_up fB 0 (((rn - 0) + 2) / 3)) (va_up fR 0 (rn - 0)) Z0.2.2.2) (64 * Z0.1) ro rn K.1 K.2 rf (va_up fN 0 (rz + 1)) (va_up fF 0 y) (va_up fB 0 (((rn - 0) + 2) / 3)) (va_up fR 0 (rn - 0)) rl lB lR rt rg rx rz) H := hP
                  have hD : va_D A (wM b cB cI cL rb rd (Z0.1 + 1) (va_up Z0.2.1 Z0.1 ((rg + 1) % 2)) (whG Z0.1 (0 + 1) rg rx (va_up fN 0 (rz + 1)) (va_up fF 0 y) (va_up fB 0 (((rn - 0) + 2) / 3)) (va_up fR 0 (rn - 0)) Z0.2.2.2) (64 * Z0.1) ro rn K.1 K.2 rf (va_up fN 0 (rz + 1)) (va_up fF 0 y) (va_up fB 0 (((rn - 0) + 2) / 3)) (va_up fR 0 (rn - 0)) rl lB lR rt rg rx rz) := hD
                  refine lv_ldc2 (v := lN 64) hx hb hown (hts _ (List.mem_cons_of_mem _ tw_598)) dX6_commit_178 ?_
                  refine lv_aload_n hx hb dX6_commit_181 rfl (lv_at hl 0 rfl) ?_
                  refine va_get (D := (dC, dI)) (ci := 6) (v := .int (nI (Z0.1 + 1))) (C := RX6) (T := TX6) (N := 22) hx hb hts in_X6 hown hK hP 0 rfl rfl 2 (by decide) f58 (fun _ h9 => h9) rfl dX6_commit_182 ?_
                  refine lv_i2l (v := lN (Z0.1 + 1)) hx hb dX6_commit_185 (nI_l (by omega)) ?_
                  refine lv_lmul hx hb dX6_commit_186 ?_
                  refine x_topl (y := lN (64 * (Z0.1 + 1))) (lN_mul _ _) ?_
                  refine lv_lstore (lv' := [(8, .long (lN (64 * (Z0.1 + 1)))), (0, .ref (b 0)), (1, .int (nI n)), (2, .int (nI (ifM fR rf 0 0))), (3, .int (nI 0)), (4, .int (nI 0)), (5, .int (nI (rn - 0))), (6, .int (nI (((rn - 0) + 2) / 3))), (7, .int (nI y))]) hx hb dX6_commit_187 hl (by decide) rfl (fun ls hl => ?_)
                  refine lv_iload_n hx hb dX6_commit_189 rfl (lv_at hl 2 rfl) ?_
                  refine x_if_lt (tgt := 215) hx hb dX6_commit_190 (by decide) (by omega) ?_
                  refine lv_iload_n hx hb dX6_commit_193 rfl (lv_at hl 2 rfl) ?_
                  refine lv_i2l (v := lN n) hx hb dX6_commit_194 (nI_l (by omega)) ?_
                  refine lv_lload hx hb dX6_commit_195 (lv_at hl 0 rfl) ?_
                  refine W.lcmp hx hb dX6_commit_197 ?_
                  refine x_lif_ge (tgt := 215) hx hb dX6_commit_198 (by decide) (fun c198 => ?_) (fun c198 => ?_)
                  · refine lv_aload_n hx hb dX6_commit_215 rfl (lv_at hl 1 rfl) ?_
                    refine lv_lload hx hb dX6_commit_216 (lv_at hl 0 rfl) ?_
                    refine x_calli (va_runV (As := [.long (lN (64 * (Z0.1 + 1)))]) (rest := []) ⟨hx, hb, hml, hown, hts⟩ (c_M_pours hrd (whG_lt i104_3) (va_up_lt i104_2 (by omega)) (by omega) (64 * (Z0.1 + 1)) (by omega)) (cwV 1 hts (tbV tw_718 tw_720 tw_68 tw_91 tw_721) rfl rfl rfl (by decide +kernel) ⟨Nat.le_of_ble_eq_true rfl, Nat.le_of_ble_eq_true rfl⟩) ⟨y_blind, va_recv hK hP (ci := 6) (q0 := 0) rfl rfl, y_pre hK hP hD⟩ rfl rfl hl.1 rfl (lv_room (Nat.le_of_ble_eq_true rfl)) dX6_commit_218 ⟨Nat.zero_le _, Nat.zero_le _⟩) hS (fun H locs hP hD hS => ?_)
                    have hP : va_P (dC, dI) vwCl (wM b cB cI cL rb ((prO (va_up Z0.2.1 Z0.1 ((rg + 1) % 2)) (whG Z0.1 (0 + 1) rg rx (va_up fN 0 (rz + 1)) (va_up fF 0 y) (va_up fB 0 (((rn - 0) + 2) / 3)) (va_up fR 0 (rn - 0)) Z0.2.2.2) (Z0.1 + 1) 0 (64 * (Z0.1 + 1)) 0 rd).2) 0 (va_up Z0.2.1 Z0.1 ((rg + 1) % 2)) (whG Z0.1 (0 + 1) rg rx (va_up fN 0 (rz + 1)) (va_up fF 0 y) (va_up fB 0 (((rn - 0) + 2) / 3)) (va_up fR 0 (rn - 0)) Z0.2.2.2) (64 * Z0.1) ro rn K.1 K.2 rf (va_up fN 0 (rz + 1)) (va_up fF 0 y) (va_up fB 0 (((rn - 0) + 2) / 3)) (va_up fR 0 (rn - 0)) rl lB lR rt rg rx rz) H := hP
                    have hD : va_D A (wM b cB cI cL rb ((prO (va_up Z0.2.1 Z0.1 ((rg + 1) % 2)) (whG Z0.1 (0 + 1) rg rx (va_up fN 0 (rz + 1)) (va_up fF 0 y) (va_up fB 0 (((rn - 0) + 2) / 3)) (va_up fR 0 (rn - 0)) Z0.2.2.2) (Z0.1 + 1) 0 (64 * (Z0.1 + 1)) 0 rd).2) 0 (va_up Z0.2.1 Z0.1 ((rg + 1) % 2)) (whG Z0.1 (0 + 1) rg rx (va_up fN 0 (rz + 1)) (va_up fF 0 y) (va_up fB 0 (((rn - 0) + 2) / 3)) (va_up fR 0 (rn - 0)) Z0.2.2.2) (64 * Z0.1) ro rn K.1 K.2 rf (va_up fN 0 (rz + 1)) (va_up fF 0 y) (va_up fB 0 (((rn - 0) + 2) / 3)) (va_up fR 0 (rn - 0)) rl lB lR rt rg rx rz) := hD
                    refine lv_pop hx hb dX6_commit_221 rfl ?_
                    refine lv_aload_n hx hb dX6_commit_222 rfl (lv_at hl 1 rfl) ?_
                    refine lv_iload hx hb dX6_commit_223 (lv_at hl 5 rfl) ?_
                    refine lv_iconst (v := nI 1) hx hb dX6_commit_225 (by decide) ?_
                    refine x_iadd hx hb dX6_commit_226 ?_
                    refine va_put (D := (dC, dI)) (ci := 6) (v := .int (nI (0 + 1))) (ty := .int) (C := RX6) (T := TX6) (N := 22) hx hb hts in_X6 tyX6 tyX6_ok nmX6 hown hK hP hD hS 0 rfl rfl 10 (by decide) f74 (fun _ h9 => h9) rfl (by decide +kernel) rfl rfl (Nat.le_of_ble_eq_true rfl) dX6_commit_227 (fun H locs hP hD hS => ?_)
                    have hP : va_P (dC, dI) vwCl (wM b cB cI cL rb ((prO (va_up Z0.2.1 Z0.1 ((rg + 1) % 2)) (whG Z0.1 (0 + 1) rg rx (va_up fN 0 (rz + 1)) (va_up fF 0 y) (va_up fB 0 (((rn - 0) + 2) / 3)) (va_up fR 0 (rn - 0)) Z0.2.2.2) (Z0.1 + 1) 0 (64 * (Z0.1 + 1)) 0 rd).2) 0 (va_up Z0.2.1 Z0.1 ((rg + 1) % 2)) (whG Z0.1 (0 + 1) rg rx (va_up fN 0 (rz + 1)) (va_up fF 0 y) (va_up fB 0 (((rn - 0) + 2) / 3)) (va_up fR 0 (rn - 0)) Z0.2.2.2) (64 * Z0.1) ro rn K.1 K.2 (0 + 1) (va_up fN 0 (rz + 1)) (va_up fF 0 y) (va_up fB 0 (((rn - 0) + 2) / 3)) (va_up fR 0 (rn - 0)) rl lB lR rt rg rx rz) H := hP
                    have hD : va_D A (wM b cB cI cL rb ((prO (va_up Z0.2.1 Z0.1 ((rg + 1) % 2)) (whG Z0.1 (0 + 1) rg rx (va_up fN 0 (rz + 1)) (va_up fF 0 y) (va_up fB 0 (((rn - 0) + 2) / 3)) (va_up fR 0 (rn - 0)) Z0.2.2.2) (Z0.1 + 1) 0 (64 * (Z0.1 + 1)) 0 rd).2) 0 (va_up Z0.2.1 Z0.1 ((rg + 1) % 2)) (whG Z0.1 (0 + 1) rg rx (va_up fN 0 (rz + 1)) (va_up fF 0 y) (va_up fB 0 (((rn - 0) + 2) / 3)) (va_up fR 0 (rn - 0)) Z0.2.2.2) (64 * Z0.1) ro rn K.1 K.2 (0 + 1) (va_up fN 0 (rz + 1)) (va_up fF 0 y) (va_up fB 0 (((rn - 0) + 2) / 3)) (va_up fR 0 (rn - 0)) rl lB lR rt rg rx rz) := hD
                    refine lv_aload_n hx hb dX6_commit_230 rfl (lv_at hl 1 rfl) ?_
                    refine lv_iconst (v := nI 0) hx hb dX6_commit_231 (by decide) ?_
                    refine va_put (D := (dC, dI)) (ci := 6) (v := .int (nI 0)) (ty := .int) (C := RX6) (T := TX6) (N := 22) hx hb hts in_X6 tyX6 tyX6_ok nmX6 hown hK hP hD hS 0 rfl rfl 15 (by decide) f77 (fun _ h9 => h9) rfl (by decide +kernel) rfl rfl (Nat.le_of_ble_eq_true rfl) dX6_commit_232 (fun H locs hP hD hS => ?_)
                    have hP : va_P (dC, dI) vwCl (wM b cB cI cL rb ((prO (va_up Z0.2.1 Z0.1 ((rg + 1) % 2)) (whG Z0.1 (0 + 1) rg rx (va_up fN 0 (rz + 1)) (va_up fF 0 y) (va_up fB 0 (((rn - 0) + 2) / 3)) (va_up fR 0 (rn - 0)) Z0.2.2.2) (Z0.1 + 1) 0 (64 * (Z0.1 + 1)) 0 rd).2) 0 (va_up Z0.2.1 Z0.1 ((rg + 1) % 2)) (whG Z0.1 (0 + 1) rg rx (va_up fN 0 (rz + 1)) (va_up fF 0 y) (va_up fB 0 (((rn - 0) + 2) / 3)) (va_up fR 0 (rn - 0)) Z0.2.2.2) (64 * Z0.1) ro rn K.1 K.2 (0 + 1) (va_up fN 0 (rz + 1)) (va_up fF 0 y) (va_up fB 0 (((rn - 0) + 2) / 3)) (va_up fR 0 (rn - 0)) 0 lB lR rt rg rx rz) H := hP
                    have hD : va_D A (wM b cB cI cL rb ((prO (va_up Z0.2.1 Z0.1 ((rg + 1) % 2)) (whG Z0.1 (0 + 1) rg rx (va_up fN 0 (rz + 1)) (va_up fF 0 y) (va_up fB 0 (((rn - 0) + 2) / 3)) (va_up fR 0 (rn - 0)) Z0.2.2.2) (Z0.1 + 1) 0 (64 * (Z0.1 + 1)) 0 rd).2) 0 (va_up Z0.2.1 Z0.1 ((rg + 1) % 2)) (whG Z0.1 (0 + 1) rg rx (va_up fN 0 (rz + 1)) (va_up fF 0 y) (va_up fB 0 (((rn - 0) + 2) / 3)) (va_up fR 0 (rn - 0)) Z0.2.2.2) (64 * Z0.1) ro rn K.1 K.2 (0 + 1) (va_up fN 0 (rz + 1)) (va_up fF 0 y) (va_up fB 0 (((rn - 0) + 2) / 3)) (va_up fR 0 (rn - 0)) 0 lB lR rt rg rx rz) := hD
                    refine lv_aload_n hx hb dX6_commit_235 rfl (lv_at hl 1 rfl) ?_
                    refine lv_iconst (v := nI 0) hx hb dX6_commit_236 (by decide) ?_
                    refine va_put (D := (dC, dI)) (ci := 6) (v := .int (nI 0)) (ty := .int) (C := RX6) (T := TX6) (N := 22) hx hb hts in_X6 tyX6 tyX6_ok nmX6 hown hK hP hD hS 0 rfl rfl 18 (by decide) f80 (fun _ h9 => h9) rfl (by decide +kernel) rfl rfl (Nat.le_of_ble_eq_true rfl) dX6_commit_237 (fun H locs hP hD hS => ?_)
                    have hP : va_P (dC, dI) vwCl (wM b cB cI cL rb ((prO (va_up Z0.2.1 Z0.1 ((rg + 1) % 2)) (whG Z0.1 (0 + 1) rg rx (va_up fN 0 (rz + 1)) (va_up fF 0 y) (va_up fB 0 (((rn - 0) + 2) / 3)) (va_up fR 0 (rn - 0)) Z0.2.2.2) (Z0.1 + 1) 0 (64 * (Z0.1 + 1)) 0 rd).2) 0 (va_up Z0.2.1 Z0.1 ((rg + 1) % 2)) (whG Z0.1 (0 + 1) rg rx (va_up fN 0 (rz + 1)) (va_up fF 0 y) (va_up fB 0 (((rn - 0) + 2) / 3)) (va_up fR 0 (rn - 0)) Z0.2.2.2) (64 * Z0.1) ro rn K.1 K.2 (0 + 1) (va_up fN 0 (rz + 1)) (va_up fF 0 y) (va_up fB 0 (((rn - 0) + 2) / 3)) (va_up fR 0 (rn - 0)) 0 lB lR 0 rg rx rz) H := hP
                    have hD : va_D A (wM b cB cI cL rb ((prO (va_up Z0.2.1 Z0.1 ((rg + 1) % 2)) (whG Z0.1 (0 + 1) rg rx (va_up fN 0 (rz + 1)) (va_up fF 0 y) (va_up fB 0 (((rn - 0) + 2) / 3)) (va_up fR 0 (rn - 0)) Z0.2.2.2) (Z0.1 + 1) 0 (64 * (Z0.1 + 1)) 0 rd).2) 0 (va_up Z0.2.1 Z0.1 ((rg + 1) % 2)) (whG Z0.1 (0 + 1) rg rx (va_up fN 0 (rz + 1)) (va_up fF 0 y) (va_up fB 0 (((rn - 0) + 2) / 3)) (va_up fR 0 (rn - 0)) Z0.2.2.2) (64 * Z0.1) ro rn K.1 K.2 (0 + 1) (va_up fN 0 (rz + 1)) (va_up fF 0 y) (va_up fB 0 (((rn - 0) + 2) / 3)) (va_up fR 0 (rn - 0)) 0 lB lR 0 rg rx rz) := hD
                    refine lv_aload_n hx hb dX6_commit_240 rfl (lv_at hl 1 rfl) ?_
                    refine lv_dup hx hb dX6_commit_241 rfl ?_
                    refine va_get (D := (dC, dI)) (ci := 6) (v := .int (nI rz)) (C := RX6) (T := TX6) (N := 22) hx hb hts in_X6 hown hK hP 0 rfl rfl 21 (by decide) f90 (fun _ h9 => h9) rfl dX6_commit_242 ?_
                    refine lv_iconst (v := nI 1) hx hb dX6_commit_245 (by decide) ?_
                    refine x_iadd hx hb dX6_commit_246 ?_
                    refine va_put (D := (dC, dI)) (ci := 6) (v := .int (nI (rz + 1))) (ty := .int) (C := RX6) (T := TX6) (N := 22) hx hb hts in_X6 tyX6 tyX6_ok nmX6 hown hK hP hD hS 0 rfl rfl 21 (by decide) f90 (fun _ h9 => h9) rfl (by decide +kernel) rfl rfl (Nat.le_of_ble_eq_true rfl) dX6_commit_247 (fun H locs hP hD hS => ?_)
                    have hP : va_P (dC, dI) vwCl (wM b cB cI cL rb ((prO (va_up Z0.2.1 Z0.1 ((rg + 1) % 2)) (whG Z0.1 (0 + 1) rg rx (va_up fN 0 (rz + 1)) (va_up fF 0 y) (va_up fB 0 (((rn - 0) + 2) / 3)) (va_up fR 0 (rn - 0)) Z0.2.2.2) (Z0.1 + 1) 0 (64 * (Z0.1 + 1)) 0 rd).2) 0 (va_up Z0.2.1 Z0.1 ((rg + 1) % 2)) (whG Z0.1 (0 + 1) rg rx (va_up fN 0 (rz + 1)) (va_up fF 0 y) (va_up fB 0 (((rn - 0) + 2) / 3)) (va_up fR 0 (rn - 0)) Z0.2.2.2) (64 * Z0.1) ro rn K.1 K.2 (0 + 1) (va_up fN 0 (rz + 1)) (va_up fF 0 y) (va_up fB 0 (((rn - 0) + 2) / 3)) (va_up fR 0 (rn - 0)) 0 lB lR 0 rg rx (rz + 1)) H := hP
                    have hD : va_D A (wM b cB cI cL rb ((prO (va_up Z0.2.1 Z0.1 ((rg + 1) % 2)) (whG Z0.1 (0 + 1) rg rx (va_up fN 0 (rz + 1)) (va_up fF 0 y) (va_up fB 0 (((rn - 0) + 2) / 3)) (va_up fR 0 (rn - 0)) Z0.2.2.2) (Z0.1 + 1) 0 (64 * (Z0.1 + 1)) 0 rd).2) 0 (va_up Z0.2.1 Z0.1 ((rg + 1) % 2)) (whG Z0.1 (0 + 1) rg rx (va_up fN 0 (rz + 1)) (va_up fF 0 y) (va_up fB 0 (((rn - 0) + 2) / 3)) (va_up fR 0 (rn - 0)) Z0.2.2.2) (64 * Z0.1) ro rn K.1 K.2 (0 + 1) (va_up fN 0 (rz + 1)) (va_up fF 0 y) (va_up fB 0 (((rn - 0) + 2) / 3)) (va_up fR 0 (rn - 0)) 0 lB lR 0 rg rx (rz + 1)) := hD
                    refine lv_aload_n hx hb dX6_commit_250 rfl (lv_at hl 1 rfl) ?_
                    refine lv_dup hx hb dX6_commit_251 rfl ?_
                    refine va_get (D := (dC, dI)) (ci := 6) (v := .long (lN rg)) (C := RX6) (T := TX6) (N := 22) hx hb hts in_X6 hown hK hP 0 rfl rfl 19 (by decide) f83 (fun _ h9 => h9) rfl dX6_commit_252 ?_
                    refine lv_lconst (v := lN 1) hx hb dX6_commit_255 rfl ?_
                    refine lv_ladd hx hb dX6_commit_256 ?_
                    refine x_topl (y := lN (rg + 1)) (lN_add _ _) ?_
                    refine va_put (D := (dC, dI)) (ci := 6) (v := .long (lN (rg + 1))) (ty := .long) (C := RX6) (T := TX6) (N := 22) hx hb hts in_X6 tyX6 tyX6_ok nmX6 hown hK hP hD hS 0 rfl rfl 19 (by decide) f83 (fun _ h9 => h9) rfl (by decide +kernel) rfl rfl (Nat.le_of_ble_eq_true rfl) dX6_commit_257 (fun H locs hP hD hS => ?_)
                    have hP : va_P (dC, dI) vwCl (wM b cB cI cL rb ((prO (va_up Z0.2.1 Z0.1 ((rg + 1) % 2)) (whG Z0.1 (0 + 1) rg rx (va_up fN 0 (rz + 1)) (va_up fF 0 y) (va_up fB 0 (((rn - 0) + 2) / 3)) (va_up fR 0 (rn - 0)) Z0.2.2.2) (Z0.1 + 1) 0 (64 * (Z0.1 + 1)) 0 rd).2) 0 (va_up Z0.2.1 Z0.1 ((rg + 1) % 2)) (whG Z0.1 (0 + 1) rg rx (va_up fN 0 (rz + 1)) (va_up fF 0 y) (va_up fB 0 (((rn - 0) + 2) / 3)) (va_up fR 0 (rn - 0)) Z0.2.2.2) (64 * Z0.1) ro rn K.1 K.2 (0 + 1) (va_up fN 0 (rz + 1)) (va_up fF 0 y) (va_up fB 0 (((rn - 0) + 2) / 3)) (va_up fR 0 (rn - 0)) 0 lB lR 0 (rg + 1) rx (rz + 1)) H := hP
                    have hD : va_D A (wM b cB cI cL rb ((prO (va_up Z0.2.1 Z0.1 ((rg + 1) % 2)) (whG Z0.1 (0 + 1) rg rx (va_up fN 0 (rz + 1)) (va_up fF 0 y) (va_up fB 0 (((rn - 0) + 2) / 3)) (va_up fR 0 (rn - 0)) Z0.2.2.2) (Z0.1 + 1) 0 (64 * (Z0.1 + 1)) 0 rd).2) 0 (va_up Z0.2.1 Z0.1 ((rg + 1) % 2)) (whG Z0.1 (0 + 1) rg rx (va_up fN 0 (rz + 1)) (va_up fF 0 y) (va_up fB 0 (((rn - 0) + 2) / 3)) (va_up fR 0 (rn - 0)) Z0.2.2.2) (64 * Z0.1) ro rn K.1 K.2 (0 + 1) (va_up fN 0 (rz + 1)) (va_up fF 0 y) (va_up fB 0 (((rn - 0) + 2) / 3)) (va_up fR 0 (rn - 0)) 0 lB lR 0 (rg + 1) rx (rz + 1)) := hD
                    refine lv_aload_n hx hb dX6_commit_260 rfl (lv_at hl 1 rfl) ?_
                    refine va_get (D := (dC, dI)) (ci := 6) (v := .long (lN (rg + 1))) (C := RX6) (T := TX6) (N := 22) hx hb hts in_X6 hown hK hP 0 rfl rfl 19 (by decide) f83 (fun _ h9 => h9) rfl dX6_commit_261 ?_
                    refine lv_l2i (v := nI (rg + 1)) hx hb dX6_commit_264 (lN_i _) ?_
                    exact hret dX6_commit_265 (by rfl) hP hD hS
                  · exact absurd ((pk_lLE (by omega) (by omega)).mpr hnq) c198
                · refine lv_aload_n hx hb dX6_commit_111 rfl (lv_at hl 0 rfl) ?_
                  refine lv_iload hx hb dX6_commit_112 (lv_at hl 7 rfl) ?_
                  refine lv_iload hx hb dX6_commit_114 (lv_at hl 8 rfl) ?_
                  refine lv_iload hx hb dX6_commit_116 (lv_at hl 6 rfl) ?_
                  refine lv_iload_n hx hb dX6_commit_118 rfl (lv_at hl 3 rfl) ?_
                  refine lv_iload hx hb dX6_commit_119 (lv_at hl 5 rfl) ?_
                  refine x_callv (va_runV (As := [.int (nI y), .int (nI p1), .int (nI (((rn - 0) + 2) / 3)), .int (nI 0), .int (nI (rn - 0))]) (rest := []) ⟨hx, hb, hml, hown, hts⟩ (c_M_writesFile i104_3 i104_2 (by omega) (by omega) y p1 (((rn - 0) + 2) / 3) 0 (rn - 0) (by omega) (by omega) (by omega) (by omega) (by omega)) (cwV 5 hts (tbV tw_734 tw_736 tw_71 tw_91 tw_737) rfl rfl rfl (by decide +kernel) ⟨Nat.le_of_ble_eq_true rfl, Nat.le_of_ble_eq_true rfl⟩) ⟨y_blind, va_recv hK hP (ci := 6) (q0 := 0) rfl rfl, y_pre hK hP hD⟩ rfl rfl hl.1 rfl (lv_room (Nat.le_of_ble_eq_true rfl)) dX6_commit_121 ⟨Nat.zero_le _, Nat.zero_le _⟩) hS (fun H locs hP hD hS => ?_)
                  have hP : va_P (dC, dI) vwCl (wM b cB cI cL rb rd (Z'.1 + 1) (va_up Z'.2.1 Z'.1 (y + p1)) (wfG Z'.1 y p1 (((rn - 0) + 2) / 3) 0 (rn - 0) rz K.1 K.2 Z'.2.2.2) (64 * Z'.1) ro rn K.1 K.2 rf fN fF fB fR rl lB lR rt rg rx rz) H := hP
                  have hD : va_D A (wM b cB cI cL rb rd (Z'.1 + 1) (va_up Z'.2.1 Z'.1 (y + p1)) (wfG Z'.1 y p1 (((rn - 0) + 2) / 3) 0 (rn - 0) rz K.1 K.2 Z'.2.2.2) (64 * Z'.1) ro rn K.1 K.2 rf fN fF fB fR rl lB lR rt rg rx rz) := hD
                  refine lv_iinc (v := nI (p1 + 1)) (lv' := [(8, .int (nI (p1 + 1))), (0, .ref (b 0)), (1, .int (nI n)), (2, .int (nI (ifM fR rf 0 0))), (3, .int (nI 0)), (4, .int (nI 0)), (5, .int (nI (rn - 0))), (6, .int (nI (((rn - 0) + 2) / 3))), (7, .int (nI y))]) hx hb dX6_commit_124 hl (k := 8) rfl (x_inc _) (by decide) rfl (fun ls hl => ?_)
                  refine lv_goto (tgt := 104) hx hb dX6_commit_127 (by decide) ?_
                  have e1 : (Z'.1 + 1) = ((cqS y (((rn - 0) + 2) / 3) 0 (rn - 0) rz K.1 K.2 p1 Z').1) := by rfl
                  have e2 : (va_up Z'.2.1 Z'.1 (y + p1)) = ((cqS y (((rn - 0) + 2) / 3) 0 (rn - 0) rz K.1 K.2 p1 Z').2.1) := by rfl
                  have e3 : (wfG Z'.1 y p1 (((rn - 0) + 2) / 3) 0 (rn - 0) rz K.1 K.2 Z'.2.2.2) = ((cqS y (((rn - 0) + 2) / 3) 0 (rn - 0) rz K.1 K.2 p1 Z').2.2.2) := by rfl
                  have e4 : (64 * Z'.1) = ((cqS y (((rn - 0) + 2) / 3) 0 (rn - 0) rz K.1 K.2 p1 Z').2.2.1) := by rfl
                  exact ih104 (p1 + 1) (cqS y (((rn - 0) + 2) / 3) 0 (rn - 0) rz K.1 K.2 p1 Z') (by omega) (by omega) (by show Z'.1 + 1 = rq + (p1 + 1); omega) (by exact va_up_lt i104_2 (by omega)) (by exact wfG_lt i104_3) (by have h := i104_4; rw [show (((rn - 0) + 2) / 3) - p1 = ((((rn - 0) + 2) / 3) - (p1 + 1)) + 1 by omega, cqL] at h; exact h) _ _ (x_wP (by rw [← e1, ← e2, e3, ← e4]) hP) (x_wD (by rw [← e1, ← e2, e3, ← e4]) hD) hS ls (lv_sub hl [1, 2, 3, 4, 5, 6, 7, 8, 0] rfl)
            have e5 : rq = ((rq, rQ, ra, rw).1) := by rfl
            have e6 : rQ = ((rq, rQ, ra, rw).2.1) := by rfl
            have e7 : rw = ((rq, rQ, ra, rw).2.2.2) := by rfl
            have e8 : ra = ((rq, rQ, ra, rw).2.2.1) := by rfl
            exact L104 ((((rn - 0) + 2) / 3) - 0 + 1) 0 (rq, rQ, ra, rw) (by omega) (by omega) (by rfl) (by exact hrQ) (by exact hrw) (by exact hZ0) _ _ (x_wP (by rw [← e5, ← e6, ← e7, ← e8]) hP) (x_wD (by rw [← e5, ← e6, ← e7, ← e8]) hD) hS ls (lv_sub hl [7, 8, 6, 5, 4, 3, 2, 1, 0] rfl)
      · exact absurd c27 (by omega)
    · exact absurd (ho.symm.trans c11) (by decide)
  · exact absurd (x_m1le hn1) c2

set_option maxHeartbeats 4000000 in
set_option maxRecDepth 100000 in
theorem c_M_commitPM {l : Launch} {dC : Nat → ClassId} {dI : Nat → Nat → Nat} {A : Nat → Prop} {b : Nat → Nat} {cB cI cL : ClassId} {rb : Nat} {rd : Nat → Nat} {rq : Nat} {rQ rw : Nat → Nat} {ra : Nat} {ro : Bool} {rn : Nat} {rk rv : Nat → Int64} {rf : Nat} {fN fF fB fR : Nat → Nat} {rl : Nat} {lB lR : Nat → Nat} {rt rg rx rz : Nat} (hrb : rb ≤ 64) (hrd : ∀ j, rd j < 256) (hrw : ∀ j, rw j < 256) (hrQ : ∀ j, rQ j < 64) (hrq : rq ≤ 128) (hrn : rn ≤ 210) (hrf : rf ≤ 5) (hfN : ∀ j, fN j < 1048576) (hfF : ∀ j, fF j < 1048576) (hfB : ∀ j, fB j < 1048576) (hfR : ∀ j, fR j < 1048576) (hrl : rl ≤ 62) (hlB : ∀ j, lB j < 1048576) (hrt : rt ≤ rn ∧ rt ≤ 3) (hrg : rg < 2 ^ 30) (hrx : rx < 2 ^ 30 ∧ rt ≤ rx) (hrz : rz < 2 ^ 18) (y : Nat) (K : (Nat → Int64) × (Nat → Int64)) (Z0 : WQ) (n : Nat) (hn1 : n < 2 ^ 31) (hnq : n < 64 * (Z0.1 + 1)) (ho : ro = true) (hl0 : ifM fR rf 0 0 < rn) (hm : rf = 5) (hfr : frM (usM rf fF fB rl lB) (((rn - 0) + 2) / 3) (rb - 2) 2 0 = some y) (hq1 : rq + (((rn - 0) + 2) / 3) < 128) (hK0 : srO 0 (rn - (0 + 1)) (0 + 1) (rk, rv) = K) (hZ0 : cqL y (((rn - 0) + 2) / 3) 0 (rn - 0) rz K.1 K.2 (((rn - 0) + 2) / 3) 0 (rq, rQ, ra, rw) = Z0) : Met l yX6_commit (Cond.code yX6_commit cX6_commit 10 (some .int) :: TB) { frames := 3, cells := 0, slots := 0, locals := 72 } (xPre (fun _ => True) (dC, dI) A (tyS cB cI cL) (wM b cB cI cL rb rd rq rQ rw ra ro rn rk rv rf fN fF fB fR rl lB lR rt rg rx rz) [.ref (b 0), .int (nI n)]) (xQi (dC, dI) A ((-2)) (wM b cB cI cL rb ((prO (va_up Z0.2.1 Z0.1 ((rg + 1) % 2)) (whG Z0.1 (0 + 1) rg rx (va_up fN 0 (rz + 1)) (va_up fF 0 y) (va_up fB 0 (((rn - 0) + 2) / 3)) (va_up fR 0 (rn - 0)) Z0.2.2.2) (Z0.1 + 1) 0 n 0 rd).2) 0 (va_up Z0.2.1 Z0.1 ((rg + 1) % 2)) (whG Z0.1 (0 + 1) rg rx (va_up fN 0 (rz + 1)) (va_up fF 0 y) (va_up fB 0 (((rn - 0) + 2) / 3)) (va_up fR 0 (rn - 0)) Z0.2.2.2) (64 * Z0.1) false 0 K.1 K.2 0 (va_up fN 0 (rz + 1)) (va_up fF 0 y) (va_up fB 0 (((rn - 0) + 2) / 3)) (va_up fR 0 (rn - 0)) 0 lB lR 0 0 1 0)) 0 0 A := by
  refine x_ofWi (cc := cX6_commit) (maxL := 10) (by decide) rfl (Nat.le_of_ble_eq_true rfl) ?_
  intro p e s m args below meth c Q hx hb hml hts hown hK hN hP hD hS hret ls hl
  have hl : lv_has ls 10 [(0, .ref (b 0)), (1, .int (nI n))] := hl
  have hown : s.vm.findClass RX6 = some m.cls := hown
  have hyb := frM_lt (show 0 < (((rn - 0) + 2) / 3) by omega) hfr
  have hyz := frM_end (by decide) hfr
  have f105 := hts _ (List.mem_cons_of_mem _ tw_612)
  have in_X6 := (fun q hq => List.mem_cons_of_mem _ (inX6 q hq) : ∀ q ∈ wsX60, q ∈ (Cond.code yX6_commit cX6_commit 10 (some .int) :: TB))
  have f71 := hts _ (List.mem_cons_of_mem _ tw_613)
  have f74 := hts _ (List.mem_cons_of_mem _ tw_616)
  have f27 := hts _ (List.mem_cons_of_mem _ tw_617)
  have f90 := hts _ (List.mem_cons_of_mem _ tw_627)
  have f30 := hts _ (List.mem_cons_of_mem _ tw_618)
  have f33 := hts _ (List.mem_cons_of_mem _ tw_619)
  have f36 := hts _ (List.mem_cons_of_mem _ tw_620)
  have f58 := hts _ (List.mem_cons_of_mem _ tw_608)
  refine lv_iload_n hx hb dX6_commit_0 rfl (lv_at hl 1 rfl) ?_
  refine lv_iconst (v := (-1)) hx hb dX6_commit_1 (by decide) ?_
  refine lv_icmp_ge (tgt := 7) hx hb dX6_commit_2 (by decide) (fun c2 => ?_) (fun c2 => ?_)
  · refine lv_aload_n hx hb dX6_commit_7 rfl (lv_at hl 0 rfl) ?_
    refine va_get (D := (dC, dI)) (ci := 6) (v := .int (bI ro)) (C := RX6) (T := TX6) (N := 22) hx hb hts in_X6 hown hK hP 0 rfl rfl 6 (by decide) f105 (fun _ h9 => h9) rfl dX6_commit_8 ?_
    refine x_if_ne_b (tgt := 17) hx hb dX6_commit_11 (by decide) (fun c11 => ?_) (fun c11 => ?_)
    · refine lv_aload_n hx hb dX6_commit_17 rfl (lv_at hl 0 rfl) ?_
      refine x_calli (va_runV (As := []) (rest := []) ⟨hx, hb, hml, hown, hts⟩ (c_M_inFiles (by omega) hfR) (cwV 0 hts (tbV tw_726 tw_728 tw_69 tw_91 tw_729) rfl rfl rfl (by decide +kernel) ⟨Nat.le_of_ble_eq_true rfl, Nat.le_of_ble_eq_true rfl⟩) ⟨y_blind, va_recv hK hP (ci := 6) (q0 := 0) rfl rfl, y_pre hK hP hD⟩ rfl rfl hl.1 rfl (lv_room (Nat.le_of_ble_eq_true rfl)) dX6_commit_18 ⟨Nat.zero_le _, Nat.zero_le _⟩) hS (fun H locs hP hD hS => ?_)
      have hP : va_P (dC, dI) vwCl (wM b cB cI cL rb rd rq rQ rw ra ro rn rk rv rf fN fF fB fR rl lB lR rt rg rx rz) H := hP
      have hD : va_D A (wM b cB cI cL rb rd rq rQ rw ra ro rn rk rv rf fN fF fB fR rl lB lR rt rg rx rz) := hD
      have hv18 := ifM_lt hfR rf 0 0
      refine lv_istore_n (lv' := [(2, .int (nI (ifM fR rf 0 0))), (0, .ref (b 0)), (1, .int (nI n))]) hx hb dX6_commit_21 rfl hl (by decide) rfl (fun ls hl => ?_)
      refine lv_aload_n hx hb dX6_commit_22 rfl (lv_at hl 1 rfl) ?_
      refine va_get (D := (dC, dI)) (ci := 6) (v := .int (nI rn)) (C := RX6) (T := TX6) (N := 22) hx hb hts in_X6 hown hK hP 0 rfl rfl 7 (by decide) f71 (fun _ h9 => h9) rfl dX6_commit_23 ?_
      refine lv_iload_n hx hb dX6_commit_26 rfl (lv_at hl 0 rfl) ?_
      refine x_icmp_ne (tgt := 32) hx hb dX6_commit_27 (by decide) (by omega) (by omega) (fun c27 => ?_) (fun c27 => ?_)
      · refine lv_aload_n hx hb dX6_commit_32 rfl (lv_at hl 1 rfl) ?_
        refine va_get (D := (dC, dI)) (ci := 6) (v := .int (nI rf)) (C := RX6) (T := TX6) (N := 22) hx hb hts in_X6 hown hK hP 0 rfl rfl 10 (by decide) f74 (fun _ h9 => h9) rfl dX6_commit_33 ?_
        refine lv_iconst (v := nI 5) hx hb dX6_commit_36 (by decide) ?_
        refine x_icmp_ne (tgt := 44) hx hb dX6_commit_37 (by decide) (by omega) (by omega) (fun c37 => ?_) (fun c37 => ?_)
        · exact absurd hm c37
        · refine lv_iconst (v := nI 0) hx hb dX6_commit_40 (by decide) ?_
          refine lv_goto (tgt := 45) hx hb dX6_commit_41 (by decide) ?_
          refine lv_istore_n (lv' := [(3, .int (nI 0)), (2, .int (nI (ifM fR rf 0 0))), (0, .ref (b 0)), (1, .int (nI n))]) hx hb dX6_commit_45 rfl hl (by decide) rfl (fun ls hl => ?_)
          refine lv_aload_n hx hb dX6_commit_46 rfl (lv_at hl 2 rfl) ?_
          refine va_get (D := (dC, dI)) (ci := 6) (v := .int (nI rf)) (C := RX6) (T := TX6) (N := 22) hx hb hts in_X6 hown hK hP 0 rfl rfl 10 (by decide) f74 (fun _ h9 => h9) rfl dX6_commit_47 ?_
          refine lv_iconst (v := nI 5) hx hb dX6_commit_50 (by decide) ?_
          refine x_icmp_ne (tgt := 58) hx hb dX6_commit_51 (by decide) (by omega) (by omega) (fun c51 => ?_) (fun c51 => ?_)
          · exact absurd hm c51
          · refine lv_iconst (v := nI 0) hx hb dX6_commit_54 (by decide) ?_
            refine lv_goto (tgt := 62) hx hb dX6_commit_55 (by decide) ?_
            refine lv_istore (lv' := [(4, .int (nI 0)), (3, .int (nI 0)), (2, .int (nI (ifM fR rf 0 0))), (0, .ref (b 0)), (1, .int (nI n))]) hx hb dX6_commit_62 hl (by decide) rfl (fun ls hl => ?_)
            refine lv_aload_n hx hb dX6_commit_64 rfl (lv_at hl 3 rfl) ?_
            refine va_get (D := (dC, dI)) (ci := 6) (v := .int (nI rn)) (C := RX6) (T := TX6) (N := 22) hx hb hts in_X6 hown hK hP 0 rfl rfl 7 (by decide) f71 (fun _ h9 => h9) rfl dX6_commit_65 ?_
            refine lv_iload_n hx hb dX6_commit_68 rfl (lv_at hl 1 rfl) ?_
            refine x_isub hx hb dX6_commit_69 (by omega) ?_
            refine lv_istore (lv' := [(5, .int (nI (rn - 0))), (4, .int (nI 0)), (3, .int (nI 0)), (2, .int (nI (ifM fR rf 0 0))), (0, .ref (b 0)), (1, .int (nI n))]) hx hb dX6_commit_70 hl (by decide) rfl (fun ls hl => ?_)
            refine lv_iload hx hb dX6_commit_72 (lv_at hl 0 rfl) ?_
            refine lv_iconst (v := nI 2) hx hb dX6_commit_74 (by decide) ?_
            refine x_iadd hx hb dX6_commit_75 ?_
            refine lv_iconst (v := nI 3) hx hb dX6_commit_76 (by decide) ?_
            refine x_idiv hx hb dX6_commit_77 (by omega) (by omega) (by omega) ?_
            refine lv_istore (lv' := [(6, .int (nI (((rn - 0) + 2) / 3))), (5, .int (nI (rn - 0))), (4, .int (nI 0)), (3, .int (nI 0)), (2, .int (nI (ifM fR rf 0 0))), (0, .ref (b 0)), (1, .int (nI n))]) hx hb dX6_commit_78 hl (by decide) rfl (fun ls hl => ?_)
            refine lv_aload_n hx hb dX6_commit_80 rfl (lv_at hl 5 rfl) ?_
            refine lv_iload hx hb dX6_commit_81 (lv_at hl 0 rfl) ?_
            refine x_calli (va_runV (As := [.int (nI (((rn - 0) + 2) / 3))]) (rest := []) ⟨hx, hb, hml, hown, hts⟩ (c_M_free (by omega) (by omega) hfF hfB (by omega) hlB (((rn - 0) + 2) / 3) (by omega) (by omega)) (cwV 1 hts (tbV tw_678 tw_680 tw_61 tw_91 tw_681) rfl rfl rfl (by decide +kernel) ⟨Nat.le_of_ble_eq_true rfl, Nat.le_of_ble_eq_true rfl⟩) ⟨y_blind, va_recv hK hP (ci := 6) (q0 := 0) rfl rfl, y_pre hK hP hD⟩ rfl rfl hl.1 rfl (lv_room (Nat.le_of_ble_eq_true rfl)) dX6_commit_83 ⟨Nat.zero_le _, Nat.zero_le _⟩) hS (fun H locs hP hD hS => ?_)
            have hP : va_P (dC, dI) vwCl (wM b cB cI cL rb rd rq rQ rw ra ro rn rk rv rf fN fF fB fR rl lB lR rt rg rx rz) H := hP
            have hD : va_D A (wM b cB cI cL rb rd rq rQ rw ra ro rn rk rv rf fN fF fB fR rl lB lR rt rg rx rz) := hD
            refine lv_istore (lv' := [(7, .int (oJ (frM (usM rf fF fB rl lB) (((rn - 0) + 2) / 3) (rb - 2) 2 0))), (6, .int (nI (((rn - 0) + 2) / 3))), (5, .int (nI (rn - 0))), (4, .int (nI 0)), (3, .int (nI 0)), (2, .int (nI (ifM fR rf 0 0))), (0, .ref (b 0)), (1, .int (nI n))]) hx hb dX6_commit_86 hl (by decide) rfl (fun ls hl => ?_)
            rw [hfr] at hl
            have hl : lv_has ls 10 [(7, .int (nI y)), (6, .int (nI (((rn - 0) + 2) / 3))), (5, .int (nI (rn - 0))), (4, .int (nI 0)), (3, .int (nI 0)), (2, .int (nI (ifM fR rf 0 0))), (0, .ref (b 0)), (1, .int (nI n))] := hl
            refine lv_iload hx hb dX6_commit_88 (lv_at hl 0 rfl) ?_
            refine x_if_ge (tgt := 96) hx hb dX6_commit_90 (by decide) (by omega) ?_
            refine lv_aload_n hx hb dX6_commit_96 rfl (lv_at hl 6 rfl) ?_
            refine lv_iload_n hx hb dX6_commit_97 rfl (lv_at hl 4 rfl) ?_
            refine x_callv (va_runV (As := [.int (nI 0)]) (rest := []) ⟨hx, hb, hml, hown, hts⟩ (c_M_sort (by omega) 0 (by omega)) (cwV 1 hts (tbV tw_730 tw_732 tw_70 tw_91 tw_733) rfl rfl rfl (by decide +kernel) ⟨Nat.le_of_ble_eq_true rfl, Nat.le_of_ble_eq_true rfl⟩) ⟨y_blind, va_recv hK hP (ci := 6) (q0 := 0) rfl rfl, y_pre hK hP hD⟩ rfl rfl hl.1 rfl (lv_room (Nat.le_of_ble_eq_true rfl)) dX6_commit_98 ⟨Nat.zero_le _, Nat.zero_le _⟩) hS (fun H locs hP hD hS => ?_)
            have hP : va_P (dC, dI) vwCl (wM b cB cI cL rb rd rq rQ rw ra ro rn ((srO 0 (rn - (0 + 1)) (0 + 1) (rk, rv)).1) ((srO 0 (rn - (0 + 1)) (0 + 1) (rk, rv)).2) rf fN fF fB fR rl lB lR rt rg rx rz) H := hP
            have hD : va_D A (wM b cB cI cL rb rd rq rQ rw ra ro rn ((srO 0 (rn - (0 + 1)) (0 + 1) (rk, rv)).1) ((srO 0 (rn - (0 + 1)) (0 + 1) (rk, rv)).2) rf fN fF fB fR rl lB lR rt rg rx rz) := hD
            rw [hK0] at hP hD
            refine lv_iconst (v := nI 0) hx hb dX6_commit_101 (by decide) ?_
            refine lv_istore (lv' := [(8, .int (nI 0)), (7, .int (nI y)), (6, .int (nI (((rn - 0) + 2) / 3))), (5, .int (nI (rn - 0))), (4, .int (nI 0)), (3, .int (nI 0)), (2, .int (nI (ifM fR rf 0 0))), (0, .ref (b 0)), (1, .int (nI n))]) hx hb dX6_commit_102 hl (by decide) rfl (fun ls hl => ?_)
            have L104 : ∀ (fu104 : Nat) (p1 : Nat) (Z' : WQ), ((((rn - 0) + 2) / 3) - p1 < fu104) → (p1 ≤ (((rn - 0) + 2) / 3)) → (Z'.1 = rq + p1) → (∀ q, Z'.2.1 q < 64) → (∀ q, Z'.2.2.2 q < 256) → (cqL y (((rn - 0) + 2) / 3) 0 (rn - 0) rz K.1 K.2 ((((rn - 0) + 2) / 3) - p1) p1 Z' = Z0) → ∀ (H : Heap) (locs : List Loc), va_P (dC, dI) vwCl (wM b cB cI cL rb rd Z'.1 Z'.2.1 Z'.2.2.2 Z'.2.2.1 ro rn K.1 K.2 rf fN fF fB fR rl lB lR rt rg rx rz) H → va_D A (wM b cB cI cL rb rd Z'.1 Z'.2.1 Z'.2.2.2 Z'.2.2.1 ro rn K.1 K.2 rf fN fF fB fR rl lB lR rt rg rx rz) → va_S A s.heap H locs → ∀ (ls : Array Slot), lv_has ls 10 [(0, .ref (b 0)), (1, .int (nI n)), (2, .int (nI (ifM fR rf 0 0))), (3, .int (nI 0)), (4, .int (nI 0)), (5, .int (nI (rn - 0))), (6, .int (nI (((rn - 0) + 2) / 3))), (7, .int (nI y)), (8, .int (nI p1))] → W p l e { frames := 3, cells := 0, slots := 0, locals := 72 } s m args below meth c H locs 0 0 Q (F0 m 104 ls []) := by
              intro fu104
              induction fu104 with
              | zero => intro p1 Z' hm; exact absurd hm (Nat.not_lt_zero _)
              | succ fu104 ih104 =>
                intro p1 Z' hm i104_0 i104_1 i104_2 i104_3 i104_4 H locs hP hD hS ls hl
                refine lv_iload hx hb dX6_commit_104 (lv_at hl 8 rfl) ?_
                refine lv_iload hx hb dX6_commit_106 (lv_at hl 6 rfl) ?_
                refine x_icmp_ge (tgt := 130) hx hb dX6_commit_108 (by decide) (by omega) (by omega) (fun c108 => ?_) (fun c108 => ?_)
                · have zz1 : Z0 = Z' := by
                    have h := i104_4
                    rw [show (((rn - 0) + 2) / 3) - p1 = 0 by omega, cqL] at h
                    exact h.symm
                  subst zz1
                  have hq9 := i104_1
                  refine lv_aload_n hx hb dX6_commit_130 rfl (lv_at hl 0 rfl) ?_
                  refine va_get (D := (dC, dI)) (ci := 6) (v := .ref (b 6)) (C := RX6) (T := TX6) (N := 22) hx hb hts in_X6 hown hK hP 0 rfl rfl 11 (by decide) f27 (fun _ h9 => h9) rfl dX6_commit_131 ?_
                  refine lv_iload hx hb dX6_commit_134 (lv_at hl 4 rfl) ?_
                  refine lv_aload_n hx hb dX6_commit_136 rfl (lv_at hl 0 rfl) ?_
                  refine va_get (D := (dC, dI)) (ci := 6) (v := .int (nI rz)) (C := RX6) (T := TX6) (N := 22) hx hb hts in_X6 hown hK hP 0 rfl rfl 21 (by decide) f90 (fun _ h9 => h9) rfl dX6_commit_137 ?_
                  refine lv_iconst (v := nI 1) hx hb dX6_commit_140 (by decide) ?_
                  refine x_iadd hx hb dX6_commit_141 ?_
                  refine x_iast hx hb hK hP hD hS 6 1 rfl rfl (by omega) (by decide) dX6_commit_142 (fun H locs hP hD hS => ?_)
                  have hP : va_P (dC, dI) vwCl (wM b cB cI cL rb rd Z0.1 Z0.2.1 Z0.2.2.2 Z0.2.2.1 ro rn K.1 K.2 rf (va_up fN 0 (rz + 1)) fF fB fR rl lB lR rt rg rx rz) H := hP
                  have hD : va_D A (wM b cB cI cL rb rd Z0.1 Z0.2.1 Z0.2.2.2 Z0.2.2.1 ro rn K.1 K.2 rf (va_up fN 0 (rz + 1)) fF fB fR rl lB lR rt rg rx rz) := hD
                  refine lv_aload_n hx hb dX6_commit_143 rfl (lv_at hl 0 rfl) ?_
                  refine va_get (D := (dC, dI)) (ci := 6) (v := .ref (b 7)) (C := RX6) (T := TX6) (N := 22) hx hb hts in_X6 hown hK hP 0 rfl rfl 12 (by decide) f30 (fun _ h9 => h9) rfl dX6_commit_144 ?_
                  refine lv_iload hx hb dX6_commit_147 (lv_at hl 4 rfl) ?_
                  refine lv_iload hx hb dX6_commit_149 (lv_at hl 7 rfl) ?_
                  refine x_iast hx hb hK hP hD hS 7 1 rfl rfl (by omega) (by decide) dX6_commit_151 (fun H locs hP hD hS => ?_)
                  have hP : va_P (dC, dI) vwCl (wM b cB cI cL rb rd Z0.1 Z0.2.1 Z0.2.2.2 Z0.2.2.1 ro rn K.1 K.2 rf (va_up fN 0 (rz + 1)) (va_up fF 0 y) fB fR rl lB lR rt rg rx rz) H := hP
                  have hD : va_D A (wM b cB cI cL rb rd Z0.1 Z0.2.1 Z0.2.2.2 Z0.2.2.1 ro rn K.1 K.2 rf (va_up fN 0 (rz + 1)) (va_up fF 0 y) fB fR rl lB lR rt rg rx rz) := hD
                  refine lv_aload_n hx hb dX6_commit_152 rfl (lv_at hl 0 rfl) ?_
                  refine va_get (D := (dC, dI)) (ci := 6) (v := .ref (b 8)) (C := RX6) (T := TX6) (N := 22) hx hb hts in_X6 hown hK hP 0 rfl rfl 13 (by decide) f33 (fun _ h9 => h9) rfl dX6_commit_153 ?_
                  refine lv_iload hx hb dX6_commit_156 (lv_at hl 4 rfl) ?_
                  refine lv_iload hx hb dX6_commit_158 (lv_at hl 6 rfl) ?_
                  refine x_iast hx hb hK hP hD hS 8 1 rfl rfl (by omega) (by decide) dX6_commit_160 (fun H locs hP hD hS => ?_)
                  have hP : va_P (dC, dI) vwCl (wM b cB cI cL rb rd Z0.1 Z0.2.1 Z0.2.2.2 Z0.2.2.1 ro rn K.1 K.2 rf (va_up fN 0 (rz + 1)) (va_up fF 0 y) (va_up fB 0 (((rn - 0) + 2) / 3)) fR rl lB lR rt rg rx rz) H := hP
                  have hD : va_D A (wM b cB cI cL rb rd Z0.1 Z0.2.1 Z0.2.2.2 Z0.2.2.1 ro rn K.1 K.2 rf (va_up fN 0 (rz + 1)) (va_up fF 0 y) (va_up fB 0 (((rn - 0) + 2) / 3)) fR rl lB lR rt rg rx rz) := hD
                  refine lv_aload_n hx hb dX6_commit_161 rfl (lv_at hl 0 rfl) ?_
                  refine va_get (D := (dC, dI)) (ci := 6) (v := .ref (b 9)) (C := RX6) (T := TX6) (N := 22) hx hb hts in_X6 hown hK hP 0 rfl rfl 14 (by decide) f36 (fun _ h9 => h9) rfl dX6_commit_162 ?_
                  refine lv_iload hx hb dX6_commit_165 (lv_at hl 4 rfl) ?_
                  refine lv_iload hx hb dX6_commit_167 (lv_at hl 5 rfl) ?_
                  refine x_iast hx hb hK hP hD hS 9 1 rfl rfl (by omega) (by decide) dX6_commit_169 (fun H locs hP hD hS => ?_)
                  have hP : va_P (dC, dI) vwCl (wM b cB cI cL rb rd Z0.1 Z0.2.1 Z0.2.2.2 Z0.2.2.1 ro rn K.1 K.2 rf (va_up fN 0 (rz + 1)) (va_up fF 0 y) (va_up fB 0 (((rn - 0) + 2) / 3)) (va_up fR 0 (rn - 0)) rl lB lR rt rg rx rz) H := hP
                  have hD : va_D A (wM b cB cI cL rb rd Z0.1 Z0.2.1 Z0.2.2.2 Z0.2.2.1 ro rn K.1 K.2 rf (va_up fN 0 (rz + 1)) (va_up fF 0 y) (va_up fB 0 (((rn - 0) + 2) / 3)) (va_up fR 0 (rn - 0)) rl lB lR rt rg rx rz) := hD
                  refine lv_aload_n hx hb dX6_commit_170 rfl (lv_at hl 0 rfl) ?_
                  refine lv_iload hx hb dX6_commit_171 (lv_at hl 4 rfl) ?_
                  refine lv_iconst (v := nI 1) hx hb dX6_commit_173 (by decide) ?_
                  refine x_iadd hx hb dX6_commit_174 ?_
                  refine x_callv (va_runV (As := [.int (nI (0 + 1))]) (rest := []) ⟨hx, hb, hml, hown, hts⟩ (c_M_writesHead i104_3 i104_2 (va_up_lt hfN (by omega)) (va_up_lt hfF (by omega)) (va_up_lt hfB (by omega)) (va_up_lt hfR (by omega)) (by omega) (by omega) (0 + 1) (by omega) (by omega)) (cwV 1 hts (tbV tw_739 tw_741 tw_72 tw_91 tw_742) rfl rfl rfl (by decide +kernel) ⟨Nat.le_of_ble_eq_true rfl, Nat.le_of_ble_eq_true rfl⟩) ⟨y_blind, va_recv hK hP (ci := 6) (q0 := 0) rfl rfl, y_pre hK hP hD⟩ rfl rfl hl.1 rfl (lv_room (Nat.le_of_ble_eq_true rfl)) dX6_commit_175 ⟨Nat.zero_le _, Nat.zero_le _⟩) hS (fun H locs hP hD hS => ?_)
                  have hP : va_P (dC, dI) vwCl (wM b cB cI cL rb rd (Z0.1 + 1) (va_up Z0.2.1 Z0.1 ((rg + 1) % 2)) (whG Z0.1 (0 + 1) rg rx (va_up fN 0 (rz + 1)) (va_up fF 0 y) (va_up fB 0 (((rn - 0) + 2) / 3)) (va_up fR 0 (rn - 0)) Z0.2.2.2) (64 * Z0.1) ro rn K.1 K.2 rf (va_up fN 0 (rz + 1)) (va_up fF 0 y) (va_up fB 0 (((rn - 0) + 2) / 3)) (va_up fR 0 (rn - 0)) rl lB lR rt rg rx rz) H := hP
                  have hD : va_D A (wM b cB cI cL rb rd (Z0.1 + 1) (va_up Z0.2.1 Z0.1 ((rg + 1) % 2)) (whG Z0.1 (0 + 1) rg rx (va_up fN 0 (rz + 1)) (va_up fF 0 y) (va_up fB 0 (((rn - 0) + 2) / 3)) (va_up fR 0 (rn - 0)) Z0.2.2.2) (64 * Z0.1) ro rn K.1 K.2 rf (va_up fN 0 (rz + 1)) (va_up fF 0 y) (va_up fB 0 (((rn - 0) + 2) / 3)) (va_up fR 0 (rn - 0)) rl lB lR rt rg rx rz) := hD
                  refine lv_ldc2 (v := lN 64) hx hb hown (hts _ (List.mem_cons_of_mem _ tw_598)) dX6_commit_178 ?_
                  refine lv_aload_n hx hb dX6_commit_181 rfl (lv_at hl 0 rfl) ?_
                  refine va_get (D := (dC, dI)) (ci := 6) (v := .int (nI (Z0.1 + 1))) (C := RX6) (T := TX6) (N := 22) hx hb hts in_X6 hown hK hP 0 rfl rfl 2 (by decide) f58 (fun _ h9 => h9) rfl dX6_commit_182 ?_
                  refine lv_i2l (v := lN (Z0.1 + 1)) hx hb dX6_commit_185 (nI_l (by omega)) ?_
                  refine lv_lmul hx hb dX6_commit_186 ?_
                  refine x_topl (y := lN (64 * (Z0.1 + 1))) (lN_mul _ _) ?_
                  refine lv_lstore (lv' := [(8, .long (lN (64 * (Z0.1 + 1)))), (0, .ref (b 0)), (1, .int (nI n)), (2, .int (nI (ifM fR rf 0 0))), (3, .int (nI 0)), (4, .int (nI 0)), (5, .int (nI (rn - 0))), (6, .int (nI (((rn - 0) + 2) / 3))), (7, .int (nI y))]) hx hb dX6_commit_187 hl (by decide) rfl (fun ls hl => ?_)
                  refine lv_iload_n hx hb dX6_commit_189 rfl (lv_at hl 2 rfl) ?_
                  refine x_if_lt (tgt := 215) hx hb dX6_commit_190 (by decide) (by omega) ?_
                  refine lv_iload_n hx hb dX6_commit_193 rfl (lv_at hl 2 rfl) ?_
                  refine lv_i2l (v := lN n) hx hb dX6_commit_194 (nI_l (by omega)) ?_
                  refine lv_lload hx hb dX6_commit_195 (lv_at hl 0 rfl) ?_
                  refine W.lcmp hx hb dX6_commit_197 ?_
                  refine x_lif_ge (tgt := 215) hx hb dX6_commit_198 (by decide) (fun c198 => ?_) (fun c198 => ?_)
                  · exact absurd ((pk_lLE (by omega) (by omega)).mp c198) (by omega)
                  · refine lv_aload_n hx hb dX6_commit_201 rfl (lv_at hl 1 rfl) ?_
                    refine lv_iload_n hx hb dX6_commit_202 rfl (lv_at hl 2 rfl) ?_
                    refine lv_i2l (v := lN n) hx hb dX6_commit_203 (nI_l (by omega)) ?_
                    refine x_calli (va_runV (As := [.long (lN n)]) (rest := []) ⟨hx, hb, hml, hown, hts⟩ (c_M_pours hrd (whG_lt i104_3) (va_up_lt i104_2 (by omega)) (by omega) n (by omega)) (cwV 1 hts (tbV tw_718 tw_720 tw_68 tw_91 tw_721) rfl rfl rfl (by decide +kernel) ⟨Nat.le_of_ble_eq_true rfl, Nat.le_of_ble_eq_true rfl⟩) ⟨y_blind, va_recv hK hP (ci := 6) (q0 := 0) rfl rfl, y_pre hK hP hD⟩ rfl rfl hl.1 rfl (lv_room (Nat.le_of_ble_eq_true rfl)) dX6_commit_204 ⟨Nat.zero_le _, Nat.zero_le _⟩) hS (fun H locs hP hD hS => ?_)
                    have hP : va_P (dC, dI) vwCl (wM b cB cI cL rb ((prO (va_up Z0.2.1 Z0.1 ((rg + 1) % 2)) (whG Z0.1 (0 + 1) rg rx (va_up fN 0 (rz + 1)) (va_up fF 0 y) (va_up fB 0 (((rn - 0) + 2) / 3)) (va_up fR 0 (rn - 0)) Z0.2.2.2) (Z0.1 + 1) 0 n 0 rd).2) 0 (va_up Z0.2.1 Z0.1 ((rg + 1) % 2)) (whG Z0.1 (0 + 1) rg rx (va_up fN 0 (rz + 1)) (va_up fF 0 y) (va_up fB 0 (((rn - 0) + 2) / 3)) (va_up fR 0 (rn - 0)) Z0.2.2.2) (64 * Z0.1) ro rn K.1 K.2 rf (va_up fN 0 (rz + 1)) (va_up fF 0 y) (va_up fB 0 (((rn - 0) + 2) / 3)) (va_up fR 0 (rn - 0)) rl lB lR rt rg rx rz) H := hP
                    have hD : va_D A (wM b cB cI cL rb ((prO (va_up Z0.2.1 Z0.1 ((rg + 1) % 2)) (whG Z0.1 (0 + 1) rg rx (va_up fN 0 (rz + 1)) (va_up fF 0 y) (va_up fB 0 (((rn - 0) + 2) / 3)) (va_up fR 0 (rn - 0)) Z0.2.2.2) (Z0.1 + 1) 0 n 0 rd).2) 0 (va_up Z0.2.1 Z0.1 ((rg + 1) % 2)) (whG Z0.1 (0 + 1) rg rx (va_up fN 0 (rz + 1)) (va_up fF 0 y) (va_up fB 0 (((rn - 0) + 2) / 3)) (va_up fR 0 (rn - 0)) Z0.2.2.2) (64 * Z0.1) ro rn K.1 K.2 rf (va_up fN 0 (rz + 1)) (va_up fF 0 y) (va_up fB 0 (((rn - 0) + 2) / 3)) (va_up fR 0 (rn - 0)) rl lB lR rt rg rx rz) := hD
                    refine lv_pop hx hb dX6_commit_207 rfl ?_
                    refine lv_aload_n hx hb dX6_commit_208 rfl (lv_at hl 1 rfl) ?_
                    refine x_callv (va_runV (As := []) (rest := []) ⟨hx, hb, hml, hown, hts⟩ (c_M_closes) (cwV 0 hts (tbV tw_744 tw_746 tw_73 tw_91 tw_747) rfl rfl rfl (by decide +kernel) ⟨Nat.le_of_ble_eq_true rfl, Nat.le_of_ble_eq_true rfl⟩) ⟨y_blind, va_recv hK hP (ci := 6) (q0 := 0) rfl rfl, y_pre hK hP hD⟩ rfl rfl hl.1 rfl (lv_room (Nat.le_of_ble_eq_true rfl)) dX6_commit_209 ⟨Nat.zero_le _, Nat.zero_le _⟩) hS (fun H locs hP hD hS => ?_)
                    have hP : va_P (dC, dI) vwCl (wM b cB cI cL rb ((prO (va_up Z0.2.1 Z0.1 ((rg + 1) % 2)) (whG Z0.1 (0 + 1) rg rx (va_up fN 0 (rz + 1)) (va_up fF 0 y) (va_up fB 0 (((rn - 0) + 2) / 3)) (va_up fR 0 (rn - 0)) Z0.2.2.2) (Z0.1 + 1) 0 n 0 rd).2) 0 (va_up Z0.2.1 Z0.1 ((rg + 1) % 2)) (whG Z0.1 (0 + 1) rg rx (va_up fN 0 (rz + 1)) (va_up fF 0 y) (va_up fB 0 (((rn - 0) + 2) / 3)) (va_up fR 0 (rn - 0)) Z0.2.2.2) (64 * Z0.1) false 0 K.1 K.2 0 (va_up fN 0 (rz + 1)) (va_up fF 0 y) (va_up fB 0 (((rn - 0) + 2) / 3)) (va_up fR 0 (rn - 0)) 0 lB lR 0 0 1 0) H := hP
                    have hD : va_D A (wM b cB cI cL rb ((prO (va_up Z0.2.1 Z0.1 ((rg + 1) % 2)) (whG Z0.1 (0 + 1) rg rx (va_up fN 0 (rz + 1)) (va_up fF 0 y) (va_up fB 0 (((rn - 0) + 2) / 3)) (va_up fR 0 (rn - 0)) Z0.2.2.2) (Z0.1 + 1) 0 n 0 rd).2) 0 (va_up Z0.2.1 Z0.1 ((rg + 1) % 2)) (whG Z0.1 (0 + 1) rg rx (va_up fN 0 (rz + 1)) (va_up fF 0 y) (va_up fB 0 (((rn - 0) + 2) / 3)) (va_up fR 0 (rn - 0)) Z0.2.2.2) (64 * Z0.1) false 0 K.1 K.2 0 (va_up fN 0 (rz + 1)) (va_up fF 0 y) (va_up fB 0 (((rn - 0) + 2) / 3)) (va_up fR 0 (rn - 0)) 0 lB lR 0 0 1 0) := hD
                    refine lv_bipush (v := (-2)) hx hb dX6_commit_212 (by decide) ?_
                    exact hret dX6_commit_214 (by rfl) hP hD hS
                · refine lv_aload_n hx hb dX6_commit_111 rfl (lv_at hl 0 rfl) ?_
                  refine lv_iload hx hb dX6_commit_112 (lv_at hl 7 rfl) ?_
                  refine lv_iload hx hb dX6_commit_114 (lv_at hl 8 rfl) ?_
                  refine lv_iload hx hb dX6_commit_116 (lv_at hl 6 rfl) ?_
                  refine lv_iload_n hx hb dX6_commit_118 rfl (lv_at hl 3 rfl) ?_
                  refine lv_iload hx hb dX6_commit_119 (lv_at hl 5 rfl) ?_
                  refine x_callv (va_runV (As := [.int (nI y), .int (nI p1), .int (nI (((rn - 0) + 2) / 3)), .int (nI 0), .int (nI (rn - 0))]) (rest := []) ⟨hx, hb, hml, hown, hts⟩ (c_M_writesFile i104_3 i104_2 (by omega) (by omega) y p1 (((rn - 0) + 2) / 3) 0 (rn - 0) (by omega) (by omega) (by omega) (by omega) (by omega)) (cwV 5 hts (tbV tw_734 tw_736 tw_71 tw_91 tw_737) rfl rfl rfl (by decide +kernel) ⟨Nat.le_of_ble_eq_true rfl, Nat.le_of_ble_eq_true rfl⟩) ⟨y_blind, va_recv hK hP (ci := 6) (q0 := 0) rfl rfl, y_pre hK hP hD⟩ rfl rfl hl.1 rfl (lv_room (Nat.le_of_ble_eq_true rfl)) dX6_commit_121 ⟨Nat.zero_le _, Nat.zero_le _⟩) hS (fun H locs hP hD hS => ?_)
                  have hP : va_P (dC, dI) vwCl (wM b cB cI cL rb rd (Z'.1 + 1) (va_up Z'.2.1 Z'.1 (y + p1)) (wfG Z'.1 y p1 (((rn - 0) + 2) / 3) 0 (rn - 0) rz K.1 K.2 Z'.2.2.2) (64 * Z'.1) ro rn K.1 K.2 rf fN fF fB fR rl lB lR rt rg rx rz) H := hP
                  have hD : va_D A (wM b cB cI cL rb rd (Z'.1 + 1) (va_up Z'.2.1 Z'.1 (y + p1)) (wfG Z'.1 y p1 (((rn - 0) + 2) / 3) 0 (rn - 0) rz K.1 K.2 Z'.2.2.2) (64 * Z'.1) ro rn K.1 K.2 rf fN fF fB fR rl lB lR rt rg rx rz) := hD
                  refine lv_iinc (v := nI (p1 + 1)) (lv' := [(8, .int (nI (p1 + 1))), (0, .ref (b 0)), (1, .int (nI n)), (2, .int (nI (ifM fR rf 0 0))), (3, .int (nI 0)), (4, .int (nI 0)), (5, .int (nI (rn - 0))), (6, .int (nI (((rn - 0) + 2) / 3))), (7, .int (nI y))]) hx hb dX6_commit_124 hl (k := 8) rfl (x_inc _) (by decide) rfl (fun ls hl => ?_)
                  refine lv_goto (tgt := 104) hx hb dX6_commit_127 (by decide) ?_
                  have e1 : (Z'.1 + 1) = ((cqS y (((rn - 0) + 2) / 3) 0 (rn - 0) rz K.1 K.2 p1 Z').1) := by rfl
                  have e2 : (va_up Z'.2.1 Z'.1 (y + p1)) = ((cqS y (((rn - 0) + 2) / 3) 0 (rn - 0) rz K.1 K.2 p1 Z').2.1) := by rfl
                  have e3 : (wfG Z'.1 y p1 (((rn - 0) + 2) / 3) 0 (rn - 0) rz K.1 K.2 Z'.2.2.2) = ((cqS y (((rn - 0) + 2) / 3) 0 (rn - 0) rz K.1 K.2 p1 Z').2.2.2) := by rfl
                  have e4 : (64 * Z'.1) = ((cqS y (((rn - 0) + 2) / 3) 0 (rn - 0) rz K.1 K.2 p1 Z').2.2.1) := by rfl
                  exact ih104 (p1 + 1) (cqS y (((rn - 0) + 2) / 3) 0 (rn - 0) rz K.1 K.2 p1 Z') (by omega) (by omega) (by show Z'.1 + 1 = rq + (p1 + 1); omega) (by exact va_up_lt i104_2 (by omega)) (by exact wfG_lt i104_3) (by have h := i104_4; rw [show (((rn - 0) + 2) / 3) - p1 = ((((rn - 0) + 2) / 3) - (p1 + 1)) + 1 by omega, cqL] at h; exact h) _ _ (x_wP (by rw [← e1, ← e2, e3, ← e4]) hP) (x_wD (by rw [← e1, ← e2, e3, ← e4]) hD) hS ls (lv_sub hl [1, 2, 3, 4, 5, 6, 7, 8, 0] rfl)
            have e5 : rq = ((rq, rQ, ra, rw).1) := by rfl
            have e6 : rQ = ((rq, rQ, ra, rw).2.1) := by rfl
            have e7 : rw = ((rq, rQ, ra, rw).2.2.2) := by rfl
            have e8 : ra = ((rq, rQ, ra, rw).2.2.1) := by rfl
            exact L104 ((((rn - 0) + 2) / 3) - 0 + 1) 0 (rq, rQ, ra, rw) (by omega) (by omega) (by rfl) (by exact hrQ) (by exact hrw) (by exact hZ0) _ _ (x_wP (by rw [← e5, ← e6, ← e7, ← e8]) hP) (x_wD (by rw [← e5, ← e6, ← e7, ← e8]) hD) hS ls (lv_sub hl [7, 8, 6, 5, 4, 3, 2, 1, 0] rfl)
      · exact absurd c27 (by omega)
    · exact absurd (ho.symm.trans c11) (by decide)
  · exact absurd (x_m1le hn1) c2

set_option maxHeartbeats 4000000 in
set_option maxRecDepth 100000 in
theorem c_M_commitFA {l : Launch} {dC : Nat → ClassId} {dI : Nat → Nat → Nat} {A : Nat → Prop} {b : Nat → Nat} {cB cI cL : ClassId} {rb : Nat} {rd : Nat → Nat} {rq : Nat} {rQ rw : Nat → Nat} {ra : Nat} {ro : Bool} {rn : Nat} {rk rv : Nat → Int64} {rf : Nat} {fN fF fB fR : Nat → Nat} {rl : Nat} {lB lR : Nat → Nat} {rt rg rx rz : Nat} (hrb : rb ≤ 64) (hrn : rn ≤ 210) (hrf : rf ≤ 5) (hfF : ∀ j, fF j < 1048576) (hfB : ∀ j, fB j < 1048576) (hfR : ∀ j, fR j < 1048576) (hrl : rl ≤ 62) (hlB : ∀ j, lB j < 1048576) (z : Int32) (hz : (-1) ≤ z) (ho : ro = true) (hl0 : ifM fR rf 0 0 < rn) (hm : rf < 5) (hfr : frM (usM rf fF fB rl lB) (((rn - (ifM fR rf 0 0)) + 2) / 3) (rb - 2) 2 0 = none) : Met l yX6_commit (Cond.code yX6_commit cX6_commit 10 (some .int) :: TB) { frames := 3, cells := 0, slots := 0, locals := 72 } (xPre (fun _ => True) (dC, dI) A (tyS cB cI cL) (wM b cB cI cL rb rd rq rQ rw ra ro rn rk rv rf fN fF fB fR rl lB lR rt rg rx rz) [.ref (b 0), .int (z)]) (xQi (dC, dI) A ((-3)) (wM b cB cI cL rb rd rq rQ rw ra ro rn rk rv rf fN fF fB fR rl lB lR rt rg rx rz)) 0 0 A := by
  refine x_ofWi (cc := cX6_commit) (maxL := 10) (by decide) rfl (Nat.le_of_ble_eq_true rfl) ?_
  intro p e s m args below meth c Q hx hb hml hts hown hK hN hP hD hS hret ls hl
  have hl : lv_has ls 10 [(0, .ref (b 0)), (1, .int (z))] := hl
  have hown : s.vm.findClass RX6 = some m.cls := hown
  have f105 := hts _ (List.mem_cons_of_mem _ tw_612)
  have in_X6 := (fun q hq => List.mem_cons_of_mem _ (inX6 q hq) : ∀ q ∈ wsX60, q ∈ (Cond.code yX6_commit cX6_commit 10 (some .int) :: TB))
  have f71 := hts _ (List.mem_cons_of_mem _ tw_613)
  have f74 := hts _ (List.mem_cons_of_mem _ tw_616)
  refine lv_iload_n hx hb dX6_commit_0 rfl (lv_at hl 1 rfl) ?_
  refine lv_iconst (v := (-1)) hx hb dX6_commit_1 (by decide) ?_
  refine lv_icmp_ge (tgt := 7) hx hb dX6_commit_2 (by decide) (fun c2 => ?_) (fun c2 => ?_)
  · refine lv_aload_n hx hb dX6_commit_7 rfl (lv_at hl 0 rfl) ?_
    refine va_get (D := (dC, dI)) (ci := 6) (v := .int (bI ro)) (C := RX6) (T := TX6) (N := 22) hx hb hts in_X6 hown hK hP 0 rfl rfl 6 (by decide) f105 (fun _ h9 => h9) rfl dX6_commit_8 ?_
    refine x_if_ne_b (tgt := 17) hx hb dX6_commit_11 (by decide) (fun c11 => ?_) (fun c11 => ?_)
    · refine lv_aload_n hx hb dX6_commit_17 rfl (lv_at hl 0 rfl) ?_
      refine x_calli (va_runV (As := []) (rest := []) ⟨hx, hb, hml, hown, hts⟩ (c_M_inFiles (by omega) hfR) (cwV 0 hts (tbV tw_726 tw_728 tw_69 tw_91 tw_729) rfl rfl rfl (by decide +kernel) ⟨Nat.le_of_ble_eq_true rfl, Nat.le_of_ble_eq_true rfl⟩) ⟨y_blind, va_recv hK hP (ci := 6) (q0 := 0) rfl rfl, y_pre hK hP hD⟩ rfl rfl hl.1 rfl (lv_room (Nat.le_of_ble_eq_true rfl)) dX6_commit_18 ⟨Nat.zero_le _, Nat.zero_le _⟩) hS (fun H locs hP hD hS => ?_)
      have hP : va_P (dC, dI) vwCl (wM b cB cI cL rb rd rq rQ rw ra ro rn rk rv rf fN fF fB fR rl lB lR rt rg rx rz) H := hP
      have hD : va_D A (wM b cB cI cL rb rd rq rQ rw ra ro rn rk rv rf fN fF fB fR rl lB lR rt rg rx rz) := hD
      have hv18 := ifM_lt hfR rf 0 0
      refine lv_istore_n (lv' := [(2, .int (nI (ifM fR rf 0 0))), (0, .ref (b 0)), (1, .int (z))]) hx hb dX6_commit_21 rfl hl (by decide) rfl (fun ls hl => ?_)
      refine lv_aload_n hx hb dX6_commit_22 rfl (lv_at hl 1 rfl) ?_
      refine va_get (D := (dC, dI)) (ci := 6) (v := .int (nI rn)) (C := RX6) (T := TX6) (N := 22) hx hb hts in_X6 hown hK hP 0 rfl rfl 7 (by decide) f71 (fun _ h9 => h9) rfl dX6_commit_23 ?_
      refine lv_iload_n hx hb dX6_commit_26 rfl (lv_at hl 0 rfl) ?_
      refine x_icmp_ne (tgt := 32) hx hb dX6_commit_27 (by decide) (by omega) (by omega) (fun c27 => ?_) (fun c27 => ?_)
      · refine lv_aload_n hx hb dX6_commit_32 rfl (lv_at hl 1 rfl) ?_
        refine va_get (D := (dC, dI)) (ci := 6) (v := .int (nI rf)) (C := RX6) (T := TX6) (N := 22) hx hb hts in_X6 hown hK hP 0 rfl rfl 10 (by decide) f74 (fun _ h9 => h9) rfl dX6_commit_33 ?_
        refine lv_iconst (v := nI 5) hx hb dX6_commit_36 (by decide) ?_
        refine x_icmp_ne (tgt := 44) hx hb dX6_commit_37 (by decide) (by omega) (by omega) (fun c37 => ?_) (fun c37 => ?_)
        · refine lv_iload_n hx hb dX6_commit_44 rfl (lv_at hl 0 rfl) ?_
          refine lv_istore_n (lv' := [(3, .int (nI (ifM fR rf 0 0))), (2, .int (nI (ifM fR rf 0 0))), (0, .ref (b 0)), (1, .int (z))]) hx hb dX6_commit_45 rfl hl (by decide) rfl (fun ls hl => ?_)
          refine lv_aload_n hx hb dX6_commit_46 rfl (lv_at hl 2 rfl) ?_
          refine va_get (D := (dC, dI)) (ci := 6) (v := .int (nI rf)) (C := RX6) (T := TX6) (N := 22) hx hb hts in_X6 hown hK hP 0 rfl rfl 10 (by decide) f74 (fun _ h9 => h9) rfl dX6_commit_47 ?_
          refine lv_iconst (v := nI 5) hx hb dX6_commit_50 (by decide) ?_
          refine x_icmp_ne (tgt := 58) hx hb dX6_commit_51 (by decide) (by omega) (by omega) (fun c51 => ?_) (fun c51 => ?_)
          · refine lv_aload_n hx hb dX6_commit_58 rfl (lv_at hl 2 rfl) ?_
            refine va_get (D := (dC, dI)) (ci := 6) (v := .int (nI rf)) (C := RX6) (T := TX6) (N := 22) hx hb hts in_X6 hown hK hP 0 rfl rfl 10 (by decide) f74 (fun _ h9 => h9) rfl dX6_commit_59 ?_
            refine lv_istore (lv' := [(4, .int (nI rf)), (3, .int (nI (ifM fR rf 0 0))), (2, .int (nI (ifM fR rf 0 0))), (0, .ref (b 0)), (1, .int (z))]) hx hb dX6_commit_62 hl (by decide) rfl (fun ls hl => ?_)
            refine lv_aload_n hx hb dX6_commit_64 rfl (lv_at hl 3 rfl) ?_
            refine va_get (D := (dC, dI)) (ci := 6) (v := .int (nI rn)) (C := RX6) (T := TX6) (N := 22) hx hb hts in_X6 hown hK hP 0 rfl rfl 7 (by decide) f71 (fun _ h9 => h9) rfl dX6_commit_65 ?_
            refine lv_iload_n hx hb dX6_commit_68 rfl (lv_at hl 1 rfl) ?_
            refine x_isub hx hb dX6_commit_69 (by omega) ?_
            refine lv_istore (lv' := [(5, .int (nI (rn - (ifM fR rf 0 0)))), (4, .int (nI rf)), (3, .int (nI (ifM fR rf 0 0))), (2, .int (nI (ifM fR rf 0 0))), (0, .ref (b 0)), (1, .int (z))]) hx hb dX6_commit_70 hl (by decide) rfl (fun ls hl => ?_)
            refine lv_iload hx hb dX6_commit_72 (lv_at hl 0 rfl) ?_
            refine lv_iconst (v := nI 2) hx hb dX6_commit_74 (by decide) ?_
            refine x_iadd hx hb dX6_commit_75 ?_
            refine lv_iconst (v := nI 3) hx hb dX6_commit_76 (by decide) ?_
            refine x_idiv hx hb dX6_commit_77 (by omega) (by omega) (by omega) ?_
            refine lv_istore (lv' := [(6, .int (nI (((rn - (ifM fR rf 0 0)) + 2) / 3))), (5, .int (nI (rn - (ifM fR rf 0 0)))), (4, .int (nI rf)), (3, .int (nI (ifM fR rf 0 0))), (2, .int (nI (ifM fR rf 0 0))), (0, .ref (b 0)), (1, .int (z))]) hx hb dX6_commit_78 hl (by decide) rfl (fun ls hl => ?_)
            refine lv_aload_n hx hb dX6_commit_80 rfl (lv_at hl 5 rfl) ?_
            refine lv_iload hx hb dX6_commit_81 (lv_at hl 0 rfl) ?_
            refine x_calli (va_runV (As := [.int (nI (((rn - (ifM fR rf 0 0)) + 2) / 3))]) (rest := []) ⟨hx, hb, hml, hown, hts⟩ (c_M_free (by omega) (by omega) hfF hfB (by omega) hlB (((rn - (ifM fR rf 0 0)) + 2) / 3) (by omega) (by omega)) (cwV 1 hts (tbV tw_678 tw_680 tw_61 tw_91 tw_681) rfl rfl rfl (by decide +kernel) ⟨Nat.le_of_ble_eq_true rfl, Nat.le_of_ble_eq_true rfl⟩) ⟨y_blind, va_recv hK hP (ci := 6) (q0 := 0) rfl rfl, y_pre hK hP hD⟩ rfl rfl hl.1 rfl (lv_room (Nat.le_of_ble_eq_true rfl)) dX6_commit_83 ⟨Nat.zero_le _, Nat.zero_le _⟩) hS (fun H locs hP hD hS => ?_)
            have hP : va_P (dC, dI) vwCl (wM b cB cI cL rb rd rq rQ rw ra ro rn rk rv rf fN fF fB fR rl lB lR rt rg rx rz) H := hP
            have hD : va_D A (wM b cB cI cL rb rd rq rQ rw ra ro rn rk rv rf fN fF fB fR rl lB lR rt rg rx rz) := hD
            refine lv_istore (lv' := [(7, .int (oJ (frM (usM rf fF fB rl lB) (((rn - (ifM fR rf 0 0)) + 2) / 3) (rb - 2) 2 0))), (6, .int (nI (((rn - (ifM fR rf 0 0)) + 2) / 3))), (5, .int (nI (rn - (ifM fR rf 0 0)))), (4, .int (nI rf)), (3, .int (nI (ifM fR rf 0 0))), (2, .int (nI (ifM fR rf 0 0))), (0, .ref (b 0)), (1, .int (z))]) hx hb dX6_commit_86 hl (by decide) rfl (fun ls hl => ?_)
            refine lv_iload hx hb dX6_commit_88 (lv_at hl 0 rfl) ?_
            refine lv_if_ge (tgt := 96) hx hb dX6_commit_90 (by decide) (fun c90 => ?_) (fun c90 => ?_)
            · exact absurd c90 (by rw [hfr]; decide)
            · refine lv_bipush (v := (-3)) hx hb dX6_commit_93 (by decide) ?_
              exact hret dX6_commit_95 (by rfl) hP hD hS
          · exact absurd c51 (by omega)
        · exact absurd c37 (by omega)
      · exact absurd c27 (by omega)
    · exact absurd (ho.symm.trans c11) (by decide)
  · exact absurd hz c2

set_option maxHeartbeats 4000000 in
set_option maxRecDepth 100000 in
theorem c_M_commitGAn {l : Launch} {dC : Nat → ClassId} {dI : Nat → Nat → Nat} {A : Nat → Prop} {b : Nat → Nat} {cB cI cL : ClassId} {rb : Nat} {rd : Nat → Nat} {rq : Nat} {rQ rw : Nat → Nat} {ra : Nat} {ro : Bool} {rn : Nat} {rk rv : Nat → Int64} {rf : Nat} {fN fF fB fR : Nat → Nat} {rl : Nat} {lB lR : Nat → Nat} {rt rg rx rz : Nat} (hrb : rb ≤ 64) (hrd : ∀ j, rd j < 256) (hrw : ∀ j, rw j < 256) (hrQ : ∀ j, rQ j < 64) (hrq : rq ≤ 128) (hrn : rn ≤ 210) (hrf : rf ≤ 5) (hfN : ∀ j, fN j < 1048576) (hfF : ∀ j, fF j < 1048576) (hfB : ∀ j, fB j < 1048576) (hfR : ∀ j, fR j < 1048576) (hrl : rl ≤ 62) (hlB : ∀ j, lB j < 1048576) (hrt : rt ≤ rn ∧ rt ≤ 3) (hrg : rg < 2 ^ 30) (hrx : rx < 2 ^ 30 ∧ rt ≤ rx) (hrz : rz < 2 ^ 18) (y : Nat) (K : (Nat → Int64) × (Nat → Int64)) (Z0 : WQ) (z : Int32) (hz : (-1) ≤ z) (hzn : z < 0) (ho : ro = true) (hl0 : ifM fR rf 0 0 < rn) (hm : rf < 5) (hfr : frM (usM rf fF fB rl lB) (((rn - (ifM fR rf 0 0)) + 2) / 3) (rb - 2) 2 0 = some y) (hq1 : rq + (((rn - (ifM fR rf 0 0)) + 2) / 3) < 128) (hK0 : srO (ifM fR rf 0 0) (rn - ((ifM fR rf 0 0) + 1)) ((ifM fR rf 0 0) + 1) (rk, rv) = K) (hZ0 : cqL y (((rn - (ifM fR rf 0 0)) + 2) / 3) (ifM fR rf 0 0) (rn - (ifM fR rf 0 0)) rz K.1 K.2 (((rn - (ifM fR rf 0 0)) + 2) / 3) 0 (rq, rQ, ra, rw) = Z0) : Met l yX6_commit (Cond.code yX6_commit cX6_commit 10 (some .int) :: TB) { frames := 3, cells := 0, slots := 0, locals := 72 } (xPre (fun _ => True) (dC, dI) A (tyS cB cI cL) (wM b cB cI cL rb rd rq rQ rw ra ro rn rk rv rf fN fF fB fR rl lB lR rt rg rx rz) [.ref (b 0), .int (z)]) (xQi (dC, dI) A (nI (rg + 1)) (wM b cB cI cL rb ((prO (va_up Z0.2.1 Z0.1 ((rg + 1) % 2)) (whG Z0.1 (rf + 1) rg rx (va_up fN rf (rz + 1)) (va_up fF rf y) (va_up fB rf (((rn - (ifM fR rf 0 0)) + 2) / 3)) (va_up fR rf (rn - (ifM fR rf 0 0))) Z0.2.2.2) (Z0.1 + 1) 0 (64 * (Z0.1 + 1)) 0 rd).2) 0 (va_up Z0.2.1 Z0.1 ((rg + 1) % 2)) (whG Z0.1 (rf + 1) rg rx (va_up fN rf (rz + 1)) (va_up fF rf y) (va_up fB rf (((rn - (ifM fR rf 0 0)) + 2) / 3)) (va_up fR rf (rn - (ifM fR rf 0 0))) Z0.2.2.2) (64 * Z0.1) ro rn K.1 K.2 (rf + 1) (va_up fN rf (rz + 1)) (va_up fF rf y) (va_up fB rf (((rn - (ifM fR rf 0 0)) + 2) / 3)) (va_up fR rf (rn - (ifM fR rf 0 0))) 0 lB lR 0 (rg + 1) rx (rz + 1))) 0 0 A := by
  refine x_ofWi (cc := cX6_commit) (maxL := 10) (by decide) rfl (Nat.le_of_ble_eq_true rfl) ?_
  intro p e s m args below meth c Q hx hb hml hts hown hK hN hP hD hS hret ls hl
  have hl : lv_has ls 10 [(0, .ref (b 0)), (1, .int (z))] := hl
  have hown : s.vm.findClass RX6 = some m.cls := hown
  have hyb := frM_lt (show 0 < (((rn - (ifM fR rf 0 0)) + 2) / 3) by omega) hfr
  have hyz := frM_end (by decide) hfr
  have f105 := hts _ (List.mem_cons_of_mem _ tw_612)
  have in_X6 := (fun q hq => List.mem_cons_of_mem _ (inX6 q hq) : ∀ q ∈ wsX60, q ∈ (Cond.code yX6_commit cX6_commit 10 (some .int) :: TB))
  have f71 := hts _ (List.mem_cons_of_mem _ tw_613)
  have f74 := hts _ (List.mem_cons_of_mem _ tw_616)
  have f27 := hts _ (List.mem_cons_of_mem _ tw_617)
  have f90 := hts _ (List.mem_cons_of_mem _ tw_627)
  have f30 := hts _ (List.mem_cons_of_mem _ tw_618)
  have f33 := hts _ (List.mem_cons_of_mem _ tw_619)
  have f36 := hts _ (List.mem_cons_of_mem _ tw_620)
  have f58 := hts _ (List.mem_cons_of_mem _ tw_608)
  have f77 := hts _ (List.mem_cons_of_mem _ tw_621)
  have f80 := hts _ (List.mem_cons_of_mem _ tw_624)
  have f83 := hts _ (List.mem_cons_of_mem _ tw_625)
  refine lv_iload_n hx hb dX6_commit_0 rfl (lv_at hl 1 rfl) ?_
  refine lv_iconst (v := (-1)) hx hb dX6_commit_1 (by decide) ?_
  refine lv_icmp_ge (tgt := 7) hx hb dX6_commit_2 (by decide) (fun c2 => ?_) (fun c2 => ?_)
  · refine lv_aload_n hx hb dX6_commit_7 rfl (lv_at hl 0 rfl) ?_
    refine va_get (D := (dC, dI)) (ci := 6) (v := .int (bI ro)) (C := RX6) (T := TX6) (N := 22) hx hb hts in_X6 hown hK hP 0 rfl rfl 6 (by decide) f105 (fun _ h9 => h9) rfl dX6_commit_8 ?_
    refine x_if_ne_b (tgt := 17) hx hb dX6_commit_11 (by decide) (fun c11 => ?_) (fun c11 => ?_)
    · refine lv_aload_n hx hb dX6_commit_17 rfl (lv_at hl 0 rfl) ?_
      refine x_calli (va_runV (As := []) (rest := []) ⟨hx, hb, hml, hown, hts⟩ (c_M_inFiles (by omega) hfR) (cwV 0 hts (tbV tw_726 tw_728 tw_69 tw_91 tw_729) rfl rfl rfl (by decide +kernel) ⟨Nat.le_of_ble_eq_true rfl, Nat.le_of_ble_eq_true rfl⟩) ⟨y_blind, va_recv hK hP (ci := 6) (q0 := 0) rfl rfl, y_pre hK hP hD⟩ rfl rfl hl.1 rfl (lv_room (Nat.le_of_ble_eq_true rfl)) dX6_commit_18 ⟨Nat.zero_le _, Nat.zero_le _⟩) hS (fun H locs hP hD hS => ?_)
      have hP : va_P (dC, dI) vwCl (wM b cB cI cL rb rd rq rQ rw ra ro rn rk rv rf fN fF fB fR rl lB lR rt rg rx rz) H := hP
      have hD : va_D A (wM b cB cI cL rb rd rq rQ rw ra ro rn rk rv rf fN fF fB fR rl lB lR rt rg rx rz) := hD
      have hv18 := ifM_lt hfR rf 0 0
      refine lv_istore_n (lv' := [(2, .int (nI (ifM fR rf 0 0))), (0, .ref (b 0)), (1, .int (z))]) hx hb dX6_commit_21 rfl hl (by decide) rfl (fun ls hl => ?_)
      refine lv_aload_n hx hb dX6_commit_22 rfl (lv_at hl 1 rfl) ?_
      refine va_get (D := (dC, dI)) (ci := 6) (v := .int (nI rn)) (C := RX6) (T := TX6) (N := 22) hx hb hts in_X6 hown hK hP 0 rfl rfl 7 (by decide) f71 (fun _ h9 => h9) rfl dX6_commit_23 ?_
      refine lv_iload_n hx hb dX6_commit_26 rfl (lv_at hl 0 rfl) ?_
      refine x_icmp_ne (tgt := 32) hx hb dX6_commit_27 (by decide) (by omega) (by omega) (fun c27 => ?_) (fun c27 => ?_)
      · refine lv_aload_n hx hb dX6_commit_32 rfl (lv_at hl 1 rfl) ?_
        refine va_get (D := (dC, dI)) (ci := 6) (v := .int (nI rf)) (C := RX6) (T := TX6) (N := 22) hx hb hts in_X6 hown hK hP 0 rfl rfl 10 (by decide) f74 (fun _ h9 => h9) rfl dX6_commit_33 ?_
        refine lv_iconst (v := nI 5) hx hb dX6_commit_36 (by decide) ?_
        refine x_icmp_ne (tgt := 44) hx hb dX6_commit_37 (by decide) (by omega) (by omega) (fun c37 => ?_) (fun c37 => ?_)
        · refine lv_iload_n hx hb dX6_commit_44 rfl (lv_at hl 0 rfl) ?_
          refine lv_istore_n (lv' := [(3, .int (nI (ifM fR rf 0 0))), (2, .int (nI (ifM fR rf 0 0))), (0, .ref (b 0)), (1, .int (z))]) hx hb dX6_commit_45 rfl hl (by decide) rfl (fun ls hl => ?_)
          refine lv_aload_n hx hb dX6_commit_46 rfl (lv_at hl 2 rfl) ?_
          refine va_get (D := (dC, dI)) (ci := 6) (v := .int (nI rf)) (C := RX6) (T := TX6) (N := 22) hx hb hts in_X6 hown hK hP 0 rfl rfl 10 (by decide) f74 (fun _ h9 => h9) rfl dX6_commit_47 ?_
          refine lv_iconst (v := nI 5) hx hb dX6_commit_50 (by decide) ?_
          refine x_icmp_ne (tgt := 58) hx hb dX6_commit_51 (by decide) (by omega) (by omega) (fun c51 => ?_) (fun c51 => ?_)
          · refine lv_aload_n hx hb dX6_commit_58 rfl (lv_at hl 2 rfl) ?_
            refine va_get (D := (dC, dI)) (ci := 6) (v := .int (nI rf)) (C := RX6) (T := TX6) (N := 22) hx hb hts in_X6 hown hK hP 0 rfl rfl 10 (by decide) f74 (fun _ h9 => h9) rfl dX6_commit_59 ?_
            refine lv_istore (lv' := [(4, .int (nI rf)), (3, .int (nI (ifM fR rf 0 0))), (2, .int (nI (ifM fR rf 0 0))), (0, .ref (b 0)), (1, .int (z))]) hx hb dX6_commit_62 hl (by decide) rfl (fun ls hl => ?_)
            refine lv_aload_n hx hb dX6_commit_64 rfl (lv_at hl 3 rfl) ?_
            refine va_get (D := (dC, dI)) (ci := 6) (v := .int (nI rn)) (C := RX6) (T := TX6) (N := 22) hx hb hts in_X6 hown hK hP 0 rfl rfl 7 (by decide) f71 (fun _ h9 => h9) rfl dX6_commit_65 ?_
            refine lv_iload_n hx hb dX6_commit_68 rfl (lv_at hl 1 rfl) ?_
            refine x_isub hx hb dX6_commit_69 (by omega) ?_
            refine lv_istore (lv' := [(5, .int (nI (rn - (ifM fR rf 0 0)))), (4, .int (nI rf)), (3, .int (nI (ifM fR rf 0 0))), (2, .int (nI (ifM fR rf 0 0))), (0, .ref (b 0)), (1, .int (z))]) hx hb dX6_commit_70 hl (by decide) rfl (fun ls hl => ?_)
            refine lv_iload hx hb dX6_commit_72 (lv_at hl 0 rfl) ?_
            refine lv_iconst (v := nI 2) hx hb dX6_commit_74 (by decide) ?_
            refine x_iadd hx hb dX6_commit_75 ?_
            refine lv_iconst (v := nI 3) hx hb dX6_commit_76 (by decide) ?_
            refine x_idiv hx hb dX6_commit_77 (by omega) (by omega) (by omega) ?_
            refine lv_istore (lv' := [(6, .int (nI (((rn - (ifM fR rf 0 0)) + 2) / 3))), (5, .int (nI (rn - (ifM fR rf 0 0)))), (4, .int (nI rf)), (3, .int (nI (ifM fR rf 0 0))), (2, .int (nI (ifM fR rf 0 0))), (0, .ref (b 0)), (1, .int (z))]) hx hb dX6_commit_78 hl (by decide) rfl (fun ls hl => ?_)
            refine lv_aload_n hx hb dX6_commit_80 rfl (lv_at hl 5 rfl) ?_
            refine lv_iload hx hb dX6_commit_81 (lv_at hl 0 rfl) ?_
            refine x_calli (va_runV (As := [.int (nI (((rn - (ifM fR rf 0 0)) + 2) / 3))]) (rest := []) ⟨hx, hb, hml, hown, hts⟩ (c_M_free (by omega) (by omega) hfF hfB (by omega) hlB (((rn - (ifM fR rf 0 0)) + 2) / 3) (by omega) (by omega)) (cwV 1 hts (tbV tw_678 tw_680 tw_61 tw_91 tw_681) rfl rfl rfl (by decide +kernel) ⟨Nat.le_of_ble_eq_true rfl, Nat.le_of_ble_eq_true rfl⟩) ⟨y_blind, va_recv hK hP (ci := 6) (q0 := 0) rfl rfl, y_pre hK hP hD⟩ rfl rfl hl.1 rfl (lv_room (Nat.le_of_ble_eq_true rfl)) dX6_commit_83 ⟨Nat.zero_le _, Nat.zero_le _⟩) hS (fun H locs hP hD hS => ?_)
            have hP : va_P (dC, dI) vwCl (wM b cB cI cL rb rd rq rQ rw ra ro rn rk rv rf fN fF fB fR rl lB lR rt rg rx rz) H := hP
            have hD : va_D A (wM b cB cI cL rb rd rq rQ rw ra ro rn rk rv rf fN fF fB fR rl lB lR rt rg rx rz) := hD
            refine lv_istore (lv' := [(7, .int (oJ (frM (usM rf fF fB rl lB) (((rn - (ifM fR rf 0 0)) + 2) / 3) (rb - 2) 2 0))), (6, .int (nI (((rn - (ifM fR rf 0 0)) + 2) / 3))), (5, .int (nI (rn - (ifM fR rf 0 0)))), (4, .int (nI rf)), (3, .int (nI (ifM fR rf 0 0))), (2, .int (nI (ifM fR rf 0 0))), (0, .ref (b 0)), (1, .int (z))]) hx hb dX6_commit_86 hl (by decide) rfl (fun ls hl => ?_)
            rw [hfr] at hl
            have hl : lv_has ls 10 [(7, .int (nI y)), (6, .int (nI (((rn - (ifM fR rf 0 0)) + 2) / 3))), (5, .int (nI (rn - (ifM fR rf 0 0)))), (4, .int (nI rf)), (3, .int (nI (ifM fR rf 0 0))), (2, .int (nI (ifM fR rf 0 0))), (0, .ref (b 0)), (1, .int (z))] := hl
            refine lv_iload hx hb dX6_commit_88 (lv_at hl 0 rfl) ?_
            refine x_if_ge (tgt := 96) hx hb dX6_commit_90 (by decide) (by omega) ?_
            refine lv_aload_n hx hb dX6_commit_96 rfl (lv_at hl 6 rfl) ?_
            refine lv_iload_n hx hb dX6_commit_97 rfl (lv_at hl 4 rfl) ?_
            refine x_callv (va_runV (As := [.int (nI (ifM fR rf 0 0))]) (rest := []) ⟨hx, hb, hml, hown, hts⟩ (c_M_sort (by omega) (ifM fR rf 0 0) (by omega)) (cwV 1 hts (tbV tw_730 tw_732 tw_70 tw_91 tw_733) rfl rfl rfl (by decide +kernel) ⟨Nat.le_of_ble_eq_true rfl, Nat.le_of_ble_eq_true rfl⟩) ⟨y_blind, va_recv hK hP (ci := 6) (q0 := 0) rfl rfl, y_pre hK hP hD⟩ rfl rfl hl.1 rfl (lv_room (Nat.le_of_ble_eq_true rfl)) dX6_commit_98 ⟨Nat.zero_le _, Nat.zero_le _⟩) hS (fun H locs hP hD hS => ?_)
            have hP : va_P (dC, dI) vwCl (wM b cB cI cL rb rd rq rQ rw ra ro rn ((srO (ifM fR rf 0 0) (rn - ((ifM fR rf 0 0) + 1)) ((ifM fR rf 0 0) + 1) (rk, rv)).1) ((srO (ifM fR rf 0 0) (rn - ((ifM fR rf 0 0) + 1)) ((ifM fR rf 0 0) + 1) (rk, rv)).2) rf fN fF fB fR rl lB lR rt rg rx rz) H := hP
            have hD : va_D A (wM b cB cI cL rb rd rq rQ rw ra ro rn ((srO (ifM fR rf 0 0) (rn - ((ifM fR rf 0 0) + 1)) ((ifM fR rf 0 0) + 1) (rk, rv)).1) ((srO (ifM fR rf 0 0) (rn - ((ifM fR rf 0 0) + 1)) ((ifM fR rf 0 0) + 1) (rk, rv)).2) rf fN fF fB fR rl lB lR rt rg rx rz) := hD
            rw [hK0] at hP hD
            refine lv_iconst (v := nI 0) hx hb dX6_commit_101 (by decide) ?_
            refine lv_istore (lv' := [(8, .int (nI 0)), (7, .int (nI y)), (6, .int (nI (((rn - (ifM fR rf 0 0)) + 2) / 3))), (5, .int (nI (rn - (ifM fR rf 0 0)))), (4, .int (nI rf)), (3, .int (nI (ifM fR rf 0 0))), (2, .int (nI (ifM fR rf 0 0))), (0, .ref (b 0)), (1, .int (z))]) hx hb dX6_commit_102 hl (by decide) rfl (fun ls hl => ?_)
            have L104 : ∀ (fu104 : Nat) (p1 : Nat) (Z' : WQ), ((((rn - (ifM fR rf 0 0)) + 2) / 3) - p1 < fu104) → (p1 ≤ (((rn - (ifM fR rf 0 0)) + 2) / 3)) → (Z'.1 = rq + p1) → (∀ q, Z'.2.1 q < 64) → (∀ q, Z'.2.2.2 q < 256) → (cqL y (((rn - (ifM fR rf 0 0)) + 2) / 3) (ifM fR rf 0 0) (rn - (ifM fR rf 0 0)) rz K.1 K.2 ((((rn - (ifM fR rf 0 0)) + 2) / 3) - p1) p1 Z' = Z0) → ∀ (H : Heap) (locs : List Loc), va_P (dC, dI) vwCl (wM b cB cI cL rb rd Z'.1 Z'.2.1 Z'.2.2.2 Z'.2.2.1 ro rn K.1 K.2 rf fN fF fB fR rl lB lR rt rg rx rz) H → va_D A (wM b cB cI cL rb rd Z'.1 Z'.2.1 Z'.2.2.2 Z'.2.2.1 ro rn K.1 K.2 rf fN fF fB fR rl lB lR rt rg rx rz) → va_S A s.heap H locs → ∀ (ls : Array Slot), lv_has ls 10 [(0, .ref (b 0)), (1, .int (z)), (2, .int (nI (ifM fR rf 0 0))), (3, .int (nI (ifM fR rf 0 0))), (4, .int (nI rf)), (5, .int (nI (rn - (ifM fR rf 0 0)))), (6, .int (nI (((rn - (ifM fR rf 0 0)) + 2) / 3))), (7, .int (nI y)), (8, .int (nI p1))] → W p l e { frames := 3, cells := 0, slots := 0, locals := 72 } s m args below meth c H locs 0 0 Q (F0 m 104 ls []) := by
              intro fu104
              induction fu104 with
              | zero => intro p1 Z' hm; exact absurd hm (Nat.not_lt_zero _)
              | succ fu104 ih104 =>
                intro p1 Z' hm i104_0 i104_1 i104_2 i104_3 i104_4 H locs hP hD hS ls hl
                refine lv_iload hx hb dX6_commit_104 (lv_at hl 8 rfl) ?_
                refine lv_iload hx hb dX6_commit_106 (lv_at hl 6 rfl) ?_
                refine x_icmp_ge (tgt := 130) hx hb dX6_commit_108 (by decide) (by omega) (by omega) (fun c108 => ?_) (fun c108 => ?_)
                · have zz1 : Z0 = Z' := by
                    have h := i104_4
                    rw [show (((rn - (ifM fR rf 0 0)) + 2) / 3) - p1 = 0 by omega, cqL] at h
                    exact h.symm
                  subst zz1
                  have hq9 := i104_1
                  refine lv_aload_n hx hb dX6_commit_130 rfl (lv_at hl 0 rfl) ?_
                  refine va_get (D := (dC, dI)) (ci := 6) (v := .ref (b 6)) (C := RX6) (T := TX6) (N := 22) hx hb hts in_X6 hown hK hP 0 rfl rfl 11 (by decide) f27 (fun _ h9 => h9) rfl dX6_commit_131 ?_
                  refine lv_iload hx hb dX6_commit_134 (lv_at hl 4 rfl) ?_
                  refine lv_aload_n hx hb dX6_commit_136 rfl (lv_at hl 0 rfl) ?_
                  refine va_get (D := (dC, dI)) (ci := 6) (v := .int (nI rz)) (C := RX6) (T := TX6) (N := 22) hx hb hts in_X6 hown hK hP 0 rfl rfl 21 (by decide) f90 (fun _ h9 => h9) rfl dX6_commit_137 ?_
                  refine lv_iconst (v := nI 1) hx hb dX6_commit_140 (by decide) ?_
                  refine x_iadd hx hb dX6_commit_141 ?_
                  refine x_iast hx hb hK hP hD hS 6 1 rfl rfl (by omega) (by decide) dX6_commit_142 (fun H locs hP hD hS => ?_)
                  have hP : va_P (dC, dI) vwCl (wM b cB cI cL rb rd Z0.1 Z0.2.1 Z0.2.2.2 Z0.2.2.1 ro rn K.1 K.2 rf (va_up fN rf (rz + 1)) fF fB fR rl lB lR rt rg rx rz) H := hP
                  have hD : va_D A (wM b cB cI cL rb rd Z0.1 Z0.2.1 Z0.2.2.2 Z0.2.2.1 ro rn K.1 K.2 rf (va_up fN rf (rz + 1)) fF fB fR rl lB lR rt rg rx rz) := hD
                  refine lv_aload_n hx hb dX6_commit_143 rfl (lv_at hl 0 rfl) ?_
                  refine va_get (D := (dC, dI)) (ci := 6) (v := .ref (b 7)) (C := RX6) (T := TX6) (N := 22) hx hb hts in_X6 hown hK hP 0 rfl rfl 12 (by decide) f30 (fun _ h9 => h9) rfl dX6_commit_144 ?_
                  refine lv_iload hx hb dX6_commit_147 (lv_at hl 4 rfl) ?_
                  refine lv_iload hx hb dX6_commit_149 (lv_at hl 7 rfl) ?_
                  refine x_iast hx hb hK hP hD hS 7 1 rfl rfl (by omega) (by decide) dX6_commit_151 (fun H locs hP hD hS => ?_)
                  have hP : va_P (dC, dI) vwCl (wM b cB cI cL rb rd Z0.1 Z0.2.1 Z0.2.2.2 Z0.2.2.1 ro rn K.1 K.2 rf (va_up fN rf (rz + 1)) (va_up fF rf y) fB fR rl lB lR rt rg rx rz) H := hP
                  have hD : va_D A (wM b cB cI cL rb rd Z0.1 Z0.2.1 Z0.2.2.2 Z0.2.2.1 ro rn K.1 K.2 rf (va_up fN rf (rz + 1)) (va_up fF rf y) fB fR rl lB lR rt rg rx rz) := hD
                  refine lv_aload_n hx hb dX6_commit_152 rfl (lv_at hl 0 rfl) ?_
                  refine va_get (D := (dC, dI)) (ci := 6) (v := .ref (b 8)) (C := RX6) (T := TX6) (N := 22) hx hb hts in_X6 hown hK hP 0 rfl rfl 13 (by decide) f33 (fun _ h9 => h9) rfl dX6_commit_153 ?_
                  refine lv_iload hx hb dX6_commit_156 (lv_at hl 4 rfl) ?_
                  refine lv_iload hx hb dX6_commit_158 (lv_at hl 6 rfl) ?_
                  refine x_iast hx hb hK hP hD hS 8 1 rfl rfl (by omega) (by decide) dX6_commit_160 (fun H locs hP hD hS => ?_)
                  have hP : va_P (dC, dI) vwCl (wM b cB cI cL rb rd Z0.1 Z0.2.1 Z0.2.2.2 Z0.2.2.1 ro rn K.1 K.2 rf (va_up fN rf (rz + 1)) (va_up fF rf y) (va_up fB rf (((rn - (ifM fR rf 0 0)) + 2) / 3)) fR rl lB lR rt rg rx rz) H := hP
                  have hD : va_D A (wM b cB cI cL rb rd Z0.1 Z0.2.1 Z0.2.2.2 Z0.2.2.1 ro rn K.1 K.2 rf (va_up fN rf (rz + 1)) (va_up fF rf y) (va_up fB rf (((rn - (ifM fR rf 0 0)) + 2) / 3)) fR rl lB lR rt rg rx rz) := hD
                  refine lv_aload_n hx hb dX6_commit_161 rfl (lv_at hl 0 rfl) ?_
                  refine va_get (D := (dC, dI)) (ci := 6) (v := .ref (b 9)) (C := RX6) (T := TX6) (N := 22) hx hb hts in_X6 hown hK hP 0 rfl rfl 14 (by decide) f36 (fun _ h9 => h9) rfl dX6_commit_162 ?_
                  refine lv_iload hx hb dX6_commit_165 (lv_at hl 4 rfl) ?_
                  refine lv_iload hx hb dX6_commit_167 (lv_at hl 5 rfl) ?_
                  refine x_iast hx hb hK hP hD hS 9 1 rfl rfl (by omega) (by decide) dX6_commit_169 (fun H locs hP hD hS => ?_)
                  have hP : va_P (dC, dI) vwCl (wM b cB cI cL rb rd Z0.1 Z0.2.1 Z0.2.2.2 Z0.2.2.1 ro rn K.1 K.2 rf (va_up fN rf (rz + 1)) (va_up fF rf y) (va_up fB rf (((rn - (ifM fR rf 0 0)) + 2) / 3)) (va_up fR rf (rn - (ifM fR rf 0 0))) rl lB lR rt rg rx rz) H := hP
                  have hD : va_D A (wM b cB cI cL rb rd Z0.1 Z0.2.1 Z0.2.2.2 Z0.2.2.1 ro rn K.1 K.2 rf (va_up fN rf (rz + 1)) (va_up fF rf y) (va_up fB rf (((rn - (ifM fR rf 0 0)) + 2) / 3)) (va_up fR rf (rn - (ifM fR rf 0 0))) rl lB lR rt rg rx rz) := hD
                  refine lv_aload_n hx hb dX6_commit_170 rfl (lv_at hl 0 rfl) ?_
                  refine lv_iload hx hb dX6_commit_171 (lv_at hl 4 rfl) ?_
                  refine lv_iconst (v := nI 1) hx hb dX6_commit_173 (by decide) ?_
                  refine x_iadd hx hb dX6_commit_174 ?_
                  refine x_callv (va_runV (As := [.int (nI (rf + 1))]) (rest := []) ⟨hx, hb, hml, hown, hts⟩ (c_M_writesHead i104_3 i104_2 (va_up_lt hfN (by omega)) (va_up_lt hfF (by omega)) (va_up_lt hfB (by omega)) (va_up_lt hfR (by omega)) (by omega) (by omega) (rf + 1) (by omega) (by omega)) (cwV 1 hts (tbV tw_739 tw_741 tw_72 tw_91 tw_742) rfl rfl rfl (by decide +kernel) ⟨Nat.le_of_ble_eq_true rfl, Nat.le_of_ble_eq_true rfl⟩) ⟨y_blind, va_recv hK hP (ci := 6) (q0 := 0) rfl rfl, y_pre hK hP hD⟩ rfl rfl hl.1 rfl (lv_room (Nat.le_of_ble_eq_true rfl)) dX6_commit_175 ⟨Nat.zero_le _, Nat.zero_le _⟩) hS (fun H locs hP hD hS => ?_)
                  have hP : va_P (dC, dI) vwCl (wM b cB cI cL rb rd (Z0.1 + 1) (va_up Z0.2.1 Z0.1 ((rg + 1) % 2)) (whG Z0.1 (rf + 1) rg rx (va_up fN rf (rz + 1)) (va_up fF rf y) (va_up fB rf (((rn - (ifM fR rf 0 0)) + 2) / 3)) (va_up fR rf (rn - (ifM fR rf 0 0))) Z0.2.2.2) (64 * Z0.1) ro rn K.1 K.2 rf (va_up fN rf (rz + 1)) (va_up fF rf y) (va_up fB rf (((rn - (ifM fR rf 0 0)) + 2) / 3)) (va_up fR rf (rn - (ifM fR rf 0 0))) rl lB lR rt rg rx rz) H := hP
                  have hD : va_D A (wM b cB cI cL rb rd (Z0.1 + 1) (va_up Z0.2.1 Z0.1 ((rg + 1) % 2)) (whG Z0.1 (rf + 1) rg rx (va_up fN rf (rz + 1)) (va_up fF rf y) (va_up fB rf (((rn - (ifM fR rf 0 0)) + 2) / 3)) (va_up fR rf (rn - (ifM fR rf 0 0))) Z0.2.2.2) (64 * Z0.1) ro rn K.1 K.2 rf (va_up fN rf (rz + 1)) (va_up fF rf y) (va_up fB rf (((rn - (ifM fR rf 0 0)) + 2) / 3)) (va_up fR rf (rn - (ifM fR rf 0 0))) rl lB lR rt rg rx rz) := hD
                  refine lv_ldc2 (v := lN 64) hx hb hown (hts _ (List.mem_cons_of_mem _ tw_598)) dX6_commit_178 ?_
                  refine lv_aload_n hx hb dX6_commit_181 rfl (lv_at hl 0 rfl) ?_
                  refine va_get (D := (dC, dI)) (ci := 6) (v := .int (nI (Z0.1 + 1))) (C := RX6) (T := TX6) (N := 22) hx hb hts in_X6 hown hK hP 0 rfl rfl 2 (by decide) f58 (fun _ h9 => h9) rfl dX6_commit_182 ?_
                  refine lv_i2l (v := lN (Z0.1 + 1)) hx hb dX6_commit_185 (nI_l (by omega)) ?_
                  refine lv_lmul hx hb dX6_commit_186 ?_
                  refine x_topl (y := lN (64 * (Z0.1 + 1))) (lN_mul _ _) ?_
                  refine lv_lstore (lv' := [(8, .long (lN (64 * (Z0.1 + 1)))), (0, .ref (b 0)), (1, .int (z)), (2, .int (nI (ifM fR rf 0 0))), (3, .int (nI (ifM fR rf 0 0))), (4, .int (nI rf)), (5, .int (nI (rn - (ifM fR rf 0 0)))), (6, .int (nI (((rn - (ifM fR rf 0 0)) + 2) / 3))), (7, .int (nI y))]) hx hb dX6_commit_187 hl (by decide) rfl (fun ls hl => ?_)
                  refine lv_iload_n hx hb dX6_commit_189 rfl (lv_at hl 2 rfl) ?_
                  refine lv_if_lt (tgt := 215) hx hb dX6_commit_190 (by decide) (fun c190 => ?_) (fun c190 => ?_)
                  · refine lv_aload_n hx hb dX6_commit_215 rfl (lv_at hl 1 rfl) ?_
                    refine lv_lload hx hb dX6_commit_216 (lv_at hl 0 rfl) ?_
                    refine x_calli (va_runV (As := [.long (lN (64 * (Z0.1 + 1)))]) (rest := []) ⟨hx, hb, hml, hown, hts⟩ (c_M_pours hrd (whG_lt i104_3) (va_up_lt i104_2 (by omega)) (by omega) (64 * (Z0.1 + 1)) (by omega)) (cwV 1 hts (tbV tw_718 tw_720 tw_68 tw_91 tw_721) rfl rfl rfl (by decide +kernel) ⟨Nat.le_of_ble_eq_true rfl, Nat.le_of_ble_eq_true rfl⟩) ⟨y_blind, va_recv hK hP (ci := 6) (q0 := 0) rfl rfl, y_pre hK hP hD⟩ rfl rfl hl.1 rfl (lv_room (Nat.le_of_ble_eq_true rfl)) dX6_commit_218 ⟨Nat.zero_le _, Nat.zero_le _⟩) hS (fun H locs hP hD hS => ?_)
                    have hP : va_P (dC, dI) vwCl (wM b cB cI cL rb ((prO (va_up Z0.2.1 Z0.1 ((rg + 1) % 2)) (whG Z0.1 (rf + 1) rg rx (va_up fN rf (rz + 1)) (va_up fF rf y) (va_up fB rf (((rn - (ifM fR rf 0 0)) + 2) / 3)) (va_up fR rf (rn - (ifM fR rf 0 0))) Z0.2.2.2) (Z0.1 + 1) 0 (64 * (Z0.1 + 1)) 0 rd).2) 0 (va_up Z0.2.1 Z0.1 ((rg + 1) % 2)) (whG Z0.1 (rf + 1) rg rx (va_up fN rf (rz + 1)) (va_up fF rf y) (va_up fB rf (((rn - (ifM fR rf 0 0)) + 2) / 3)) (va_up fR rf (rn - (ifM fR rf 0 0))) Z0.2.2.2) (64 * Z0.1) ro rn K.1 K.2 rf (va_up fN rf (rz + 1)) (va_up fF rf y) (va_up fB rf (((rn - (ifM fR rf 0 0)) + 2) / 3)) (va_up fR rf (rn - (ifM fR rf 0 0))) rl lB lR rt rg rx rz) H := hP
                    have hD : va_D A (wM b cB cI cL rb ((prO (va_up Z0.2.1 Z0.1 ((rg + 1) % 2)) (whG Z0.1 (rf + 1) rg rx (va_up fN rf (rz + 1)) (va_up fF rf y) (va_up fB rf (((rn - (ifM fR rf 0 0)) + 2) / 3)) (va_up fR rf (rn - (ifM fR rf 0 0))) Z0.2.2.2) (Z0.1 + 1) 0 (64 * (Z0.1 + 1)) 0 rd).2) 0 (va_up Z0.2.1 Z0.1 ((rg + 1) % 2)) (whG Z0.1 (rf + 1) rg rx (va_up fN rf (rz + 1)) (va_up fF rf y) (va_up fB rf (((rn - (ifM fR rf 0 0)) + 2) / 3)) (va_up fR rf (rn - (ifM fR rf 0 0))) Z0.2.2.2) (64 * Z0.1) ro rn K.1 K.2 rf (va_up fN rf (rz + 1)) (va_up fF rf y) (va_up fB rf (((rn - (ifM fR rf 0 0)) + 2) / 3)) (va_up fR rf (rn - (ifM fR rf 0 0))) rl lB lR rt rg rx rz) := hD
                    refine lv_pop hx hb dX6_commit_221 rfl ?_
                    refine lv_aload_n hx hb dX6_commit_222 rfl (lv_at hl 1 rfl) ?_
                    refine lv_iload hx hb dX6_commit_223 (lv_at hl 5 rfl) ?_
                    refine lv_iconst (v := nI 1) hx hb dX6_commit_225 (by decide) ?_
                    refine x_iadd hx hb dX6_commit_226 ?_
                    refine va_put (D := (dC, dI)) (ci := 6) (v := .int (nI (rf + 1))) (ty := .int) (C := RX6) (T := TX6) (N := 22) hx hb hts in_X6 tyX6 tyX6_ok nmX6 hown hK hP hD hS 0 rfl rfl 10 (by decide) f74 (fun _ h9 => h9) rfl (by decide +kernel) rfl rfl (Nat.le_of_ble_eq_true rfl) dX6_commit_227 (fun H locs hP hD hS => ?_)
                    have hP : va_P (dC, dI) vwCl (wM b cB cI cL rb ((prO (va_up Z0.2.1 Z0.1 ((rg + 1) % 2)) (whG Z0.1 (rf + 1) rg rx (va_up fN rf (rz + 1)) (va_up fF rf y) (va_up fB rf (((rn - (ifM fR rf 0 0)) + 2) / 3)) (va_up fR rf (rn - (ifM fR rf 0 0))) Z0.2.2.2) (Z0.1 + 1) 0 (64 * (Z0.1 + 1)) 0 rd).2) 0 (va_up Z0.2.1 Z0.1 ((rg + 1) % 2)) (whG Z0.1 (rf + 1) rg rx (va_up fN rf (rz + 1)) (va_up fF rf y) (va_up fB rf (((rn - (ifM fR rf 0 0)) + 2) / 3)) (va_up fR rf (rn - (ifM fR rf 0 0))) Z0.2.2.2) (64 * Z0.1) ro rn K.1 K.2 (rf + 1) (va_up fN rf (rz + 1)) (va_up fF rf y) (va_up fB rf (((rn - (ifM fR rf 0 0)) + 2) / 3)) (va_up fR rf (rn - (ifM fR rf 0 0))) rl lB lR rt rg rx rz) H := hP
                    have hD : va_D A (wM b cB cI cL rb ((prO (va_up Z0.2.1 Z0.1 ((rg + 1) % 2)) (whG Z0.1 (rf + 1) rg rx (va_up fN rf (rz + 1)) (va_up fF rf y) (va_up fB rf (((rn - (ifM fR rf 0 0)) + 2) / 3)) (va_up fR rf (rn - (ifM fR rf 0 0))) Z0.2.2.2) (Z0.1 + 1) 0 (64 * (Z0.1 + 1)) 0 rd).2) 0 (va_up Z0.2.1 Z0.1 ((rg + 1) % 2)) (whG Z0.1 (rf + 1) rg rx (va_up fN rf (rz + 1)) (va_up fF rf y) (va_up fB rf (((rn - (ifM fR rf 0 0)) + 2) / 3)) (va_up fR rf (rn - (ifM fR rf 0 0))) Z0.2.2.2) (64 * Z0.1) ro rn K.1 K.2 (rf + 1) (va_up fN rf (rz + 1)) (va_up fF rf y) (va_up fB rf (((rn - (ifM fR rf 0 0)) + 2) / 3)) (va_up fR rf (rn - (ifM fR rf 0 0))) rl lB lR rt rg rx rz) := hD
                    refine lv_aload_n hx hb dX6_commit_230 rfl (lv_at hl 1 rfl) ?_
                    refine lv_iconst (v := nI 0) hx hb dX6_commit_231 (by decide) ?_
                    refine va_put (D := (dC, dI)) (ci := 6) (v := .int (nI 0)) (ty := .int) (C := RX6) (T := TX6) (N := 22) hx hb hts in_X6 tyX6 tyX6_ok nmX6 hown hK hP hD hS 0 rfl rfl 15 (by decide) f77 (fun _ h9 => h9) rfl (by decide +kernel) rfl rfl (Nat.le_of_ble_eq_true rfl) dX6_commit_232 (fun H locs hP hD hS => ?_)
                    have hP : va_P (dC, dI) vwCl (wM b cB cI cL rb ((prO (va_up Z0.2.1 Z0.1 ((rg + 1) % 2)) (whG Z0.1 (rf + 1) rg rx (va_up fN rf (rz + 1)) (va_up fF rf y) (va_up fB rf (((rn - (ifM fR rf 0 0)) + 2) / 3)) (va_up fR rf (rn - (ifM fR rf 0 0))) Z0.2.2.2) (Z0.1 + 1) 0 (64 * (Z0.1 + 1)) 0 rd).2) 0 (va_up Z0.2.1 Z0.1 ((rg + 1) % 2)) (whG Z0.1 (rf + 1) rg rx (va_up fN rf (rz + 1)) (va_up fF rf y) (va_up fB rf (((rn - (ifM fR rf 0 0)) + 2) / 3)) (va_up fR rf (rn - (ifM fR rf 0 0))) Z0.2.2.2) (64 * Z0.1) ro rn K.1 K.2 (rf + 1) (va_up fN rf (rz + 1)) (va_up fF rf y) (va_up fB rf (((rn - (ifM fR rf 0 0)) + 2) / 3)) (va_up fR rf (rn - (ifM fR rf 0 0))) 0 lB lR rt rg rx rz) H := hP
                    have hD : va_D A (wM b cB cI cL rb ((prO (va_up Z0.2.1 Z0.1 ((rg + 1) % 2)) (whG Z0.1 (rf + 1) rg rx (va_up fN rf (rz + 1)) (va_up fF rf y) (va_up fB rf (((rn - (ifM fR rf 0 0)) + 2) / 3)) (va_up fR rf (rn - (ifM fR rf 0 0))) Z0.2.2.2) (Z0.1 + 1) 0 (64 * (Z0.1 + 1)) 0 rd).2) 0 (va_up Z0.2.1 Z0.1 ((rg + 1) % 2)) (whG Z0.1 (rf + 1) rg rx (va_up fN rf (rz + 1)) (va_up fF rf y) (va_up fB rf (((rn - (ifM fR rf 0 0)) + 2) / 3)) (va_up fR rf (rn - (ifM fR rf 0 0))) Z0.2.2.2) (64 * Z0.1) ro rn K.1 K.2 (rf + 1) (va_up fN rf (rz + 1)) (va_up fF rf y) (va_up fB rf (((rn - (ifM fR rf 0 0)) + 2) / 3)) (va_up fR rf (rn - (ifM fR rf 0 0))) 0 lB lR rt rg rx rz) := hD
                    refine lv_aload_n hx hb dX6_commit_235 rfl (lv_at hl 1 rfl) ?_
                    refine lv_iconst (v := nI 0) hx hb dX6_commit_236 (by decide) ?_
                    refine va_put (D := (dC, dI)) (ci := 6) (v := .int (nI 0)) (ty := .int) (C := RX6) (T := TX6) (N := 22) hx hb hts in_X6 tyX6 tyX6_ok nmX6 hown hK hP hD hS 0 rfl rfl 18 (by decide) f80 (fun _ h9 => h9) rfl (by decide +kernel) rfl rfl (Nat.le_of_ble_eq_true rfl) dX6_commit_237 (fun H locs hP hD hS => ?_)
                    have hP : va_P (dC, dI) vwCl (wM b cB cI cL rb ((prO (va_up Z0.2.1 Z0.1 ((rg + 1) % 2)) (whG Z0.1 (rf + 1) rg rx (va_up fN rf (rz + 1)) (va_up fF rf y) (va_up fB rf (((rn - (ifM fR rf 0 0)) + 2) / 3)) (va_up fR rf (rn - (ifM fR rf 0 0))) Z0.2.2.2) (Z0.1 + 1) 0 (64 * (Z0.1 + 1)) 0 rd).2) 0 (va_up Z0.2.1 Z0.1 ((rg + 1) % 2)) (whG Z0.1 (rf + 1) rg rx (va_up fN rf (rz + 1)) (va_up fF rf y) (va_up fB rf (((rn - (ifM fR rf 0 0)) + 2) / 3)) (va_up fR rf (rn - (ifM fR rf 0 0))) Z0.2.2.2) (64 * Z0.1) ro rn K.1 K.2 (rf + 1) (va_up fN rf (rz + 1)) (va_up fF rf y) (va_up fB rf (((rn - (ifM fR rf 0 0)) + 2) / 3)) (va_up fR rf (rn - (ifM fR rf 0 0))) 0 lB lR 0 rg rx rz) H := hP
                    have hD : va_D A (wM b cB cI cL rb ((prO (va_up Z0.2.1 Z0.1 ((rg + 1) % 2)) (whG Z0.1 (rf + 1) rg rx (va_up fN rf (rz + 1)) (va_up fF rf y) (va_up fB rf (((rn - (ifM fR rf 0 0)) + 2) / 3)) (va_up fR rf (rn - (ifM fR rf 0 0))) Z0.2.2.2) (Z0.1 + 1) 0 (64 * (Z0.1 + 1)) 0 rd).2) 0 (va_up Z0.2.1 Z0.1 ((rg + 1) % 2)) (whG Z0.1 (rf + 1) rg rx (va_up fN rf (rz + 1)) (va_up fF rf y) (va_up fB rf (((rn - (ifM fR rf 0 0)) + 2) / 3)) (va_up fR rf (rn - (ifM fR rf 0 0))) Z0.2.2.2) (64 * Z0.1) ro rn K.1 K.2 (rf + 1) (va_up fN rf (rz + 1)) (va_up fF rf y) (va_up fB rf (((rn - (ifM fR rf 0 0)) + 2) / 3)) (va_up fR rf (rn - (ifM fR rf 0 0))) 0 lB lR 0 rg rx rz) := hD
                    refine lv_aload_n hx hb dX6_commit_240 rfl (lv_at hl 1 rfl) ?_
                    refine lv_dup hx hb dX6_commit_241 rfl ?_
                    refine va_get (D := (dC, dI)) (ci := 6) (v := .int (nI rz)) (C := RX6) (T := TX6) (N := 22) hx hb hts in_X6 hown hK hP 0 rfl rfl 21 (by decide) f90 (fun _ h9 => h9) rfl dX6_commit_242 ?_
                    refine lv_iconst (v := nI 1) hx hb dX6_commit_245 (by decide) ?_
                    refine x_iadd hx hb dX6_commit_246 ?_
                    refine va_put (D := (dC, dI)) (ci := 6) (v := .int (nI (rz + 1))) (ty := .int) (C := RX6) (T := TX6) (N := 22) hx hb hts in_X6 tyX6 tyX6_ok nmX6 hown hK hP hD hS 0 rfl rfl 21 (by decide) f90 (fun _ h9 => h9) rfl (by decide +kernel) rfl rfl (Nat.le_of_ble_eq_true rfl) dX6_commit_247 (fun H locs hP hD hS => ?_)
                    have hP : va_P (dC, dI) vwCl (wM b cB cI cL rb ((prO (va_up Z0.2.1 Z0.1 ((rg + 1) % 2)) (whG Z0.1 (rf + 1) rg rx (va_up fN rf (rz + 1)) (va_up fF rf y) (va_up fB rf (((rn - (ifM fR rf 0 0)) + 2) / 3)) (va_up fR rf (rn - (ifM fR rf 0 0))) Z0.2.2.2) (Z0.1 + 1) 0 (64 * (Z0.1 + 1)) 0 rd).2) 0 (va_up Z0.2.1 Z0.1 ((rg + 1) % 2)) (whG Z0.1 (rf + 1) rg rx (va_up fN rf (rz + 1)) (va_up fF rf y) (va_up fB rf (((rn - (ifM fR rf 0 0)) + 2) / 3)) (va_up fR rf (rn - (ifM fR rf 0 0))) Z0.2.2.2) (64 * Z0.1) ro rn K.1 K.2 (rf + 1) (va_up fN rf (rz + 1)) (va_up fF rf y) (va_up fB rf (((rn - (ifM fR rf 0 0)) + 2) / 3)) (va_up fR rf (rn - (ifM fR rf 0 0))) 0 lB lR 0 rg rx (rz + 1)) H := hP
                    have hD : va_D A (wM b cB cI cL rb ((prO (va_up Z0.2.1 Z0.1 ((rg + 1) % 2)) (whG Z0.1 (rf + 1) rg rx (va_up fN rf (rz + 1)) (va_up fF rf y) (va_up fB rf (((rn - (ifM fR rf 0 0)) + 2) / 3)) (va_up fR rf (rn - (ifM fR rf 0 0))) Z0.2.2.2) (Z0.1 + 1) 0 (64 * (Z0.1 + 1)) 0 rd).2) 0 (va_up Z0.2.1 Z0.1 ((rg + 1) % 2)) (whG Z0.1 (rf + 1) rg rx (va_up fN rf (rz + 1)) (va_up fF rf y) (va_up fB rf (((rn - (ifM fR rf 0 0)) + 2) / 3)) (va_up fR rf (rn - (ifM fR rf 0 0))) Z0.2.2.2) (64 * Z0.1) ro rn K.1 K.2 (rf + 1) (va_up fN rf (rz + 1)) (va_up fF rf y) (va_up fB rf (((rn - (ifM fR rf 0 0)) + 2) / 3)) (va_up fR rf (rn - (ifM fR rf 0 0))) 0 lB lR 0 rg rx (rz + 1)) := hD
                    refine lv_aload_n hx hb dX6_commit_250 rfl (lv_at hl 1 rfl) ?_
                    refine lv_dup hx hb dX6_commit_251 rfl ?_
                    refine va_get (D := (dC, dI)) (ci := 6) (v := .long (lN rg)) (C := RX6) (T := TX6) (N := 22) hx hb hts in_X6 hown hK hP 0 rfl rfl 19 (by decide) f83 (fun _ h9 => h9) rfl dX6_commit_252 ?_
                    refine lv_lconst (v := lN 1) hx hb dX6_commit_255 rfl ?_
                    refine lv_ladd hx hb dX6_commit_256 ?_
                    refine x_topl (y := lN (rg + 1)) (lN_add _ _) ?_
                    refine va_put (D := (dC, dI)) (ci := 6) (v := .long (lN (rg + 1))) (ty := .long) (C := RX6) (T := TX6) (N := 22) hx hb hts in_X6 tyX6 tyX6_ok nmX6 hown hK hP hD hS 0 rfl rfl 19 (by decide) f83 (fun _ h9 => h9) rfl (by decide +kernel) rfl rfl (Nat.le_of_ble_eq_true rfl) dX6_commit_257 (fun H locs hP hD hS => ?_)
                    have hP : va_P (dC, dI) vwCl (wM b cB cI cL rb ((prO (va_up Z0.2.1 Z0.1 ((rg + 1) % 2)) (whG Z0.1 (rf + 1) rg rx (va_up fN rf (rz + 1)) (va_up fF rf y) (va_up fB rf (((rn - (ifM fR rf 0 0)) + 2) / 3)) (va_up fR rf (rn - (ifM fR rf 0 0))) Z0.2.2.2) (Z0.1 + 1) 0 (64 * (Z0.1 + 1)) 0 rd).2) 0 (va_up Z0.2.1 Z0.1 ((rg + 1) % 2)) (whG Z0.1 (rf + 1) rg rx (va_up fN rf (rz + 1)) (va_up fF rf y) (va_up fB rf (((rn - (ifM fR rf 0 0)) + 2) / 3)) (va_up fR rf (rn - (ifM fR rf 0 0))) Z0.2.2.2) (64 * Z0.1) ro rn K.1 K.2 (rf + 1) (va_up fN rf (rz + 1)) (va_up fF rf y) (va_up fB rf (((rn - (ifM fR rf 0 0)) + 2) / 3)) (va_up fR rf (rn - (ifM fR rf 0 0))) 0 lB lR 0 (rg + 1) rx (rz + 1)) H := hP
                    have hD : va_D A (wM b cB cI cL rb ((prO (va_up Z0.2.1 Z0.1 ((rg + 1) % 2)) (whG Z0.1 (rf + 1) rg rx (va_up fN rf (rz + 1)) (va_up fF rf y) (va_up fB rf (((rn - (ifM fR rf 0 0)) + 2) / 3)) (va_up fR rf (rn - (ifM fR rf 0 0))) Z0.2.2.2) (Z0.1 + 1) 0 (64 * (Z0.1 + 1)) 0 rd).2) 0 (va_up Z0.2.1 Z0.1 ((rg + 1) % 2)) (whG Z0.1 (rf + 1) rg rx (va_up fN rf (rz + 1)) (va_up fF rf y) (va_up fB rf (((rn - (ifM fR rf 0 0)) + 2) / 3)) (va_up fR rf (rn - (ifM fR rf 0 0))) Z0.2.2.2) (64 * Z0.1) ro rn K.1 K.2 (rf + 1) (va_up fN rf (rz + 1)) (va_up fF rf y) (va_up fB rf (((rn - (ifM fR rf 0 0)) + 2) / 3)) (va_up fR rf (rn - (ifM fR rf 0 0))) 0 lB lR 0 (rg + 1) rx (rz + 1)) := hD
                    refine lv_aload_n hx hb dX6_commit_260 rfl (lv_at hl 1 rfl) ?_
                    refine va_get (D := (dC, dI)) (ci := 6) (v := .long (lN (rg + 1))) (C := RX6) (T := TX6) (N := 22) hx hb hts in_X6 hown hK hP 0 rfl rfl 19 (by decide) f83 (fun _ h9 => h9) rfl dX6_commit_261 ?_
                    refine lv_l2i (v := nI (rg + 1)) hx hb dX6_commit_264 (lN_i _) ?_
                    exact hret dX6_commit_265 (by rfl) hP hD hS
                  · exact absurd hzn c190
                · refine lv_aload_n hx hb dX6_commit_111 rfl (lv_at hl 0 rfl) ?_
                  refine lv_iload hx hb dX6_commit_112 (lv_at hl 7 rfl) ?_
                  refine lv_iload hx hb dX6_commit_114 (lv_at hl 8 rfl) ?_
                  refine lv_iload hx hb dX6_commit_116 (lv_at hl 6 rfl) ?_
                  refine lv_iload_n hx hb dX6_commit_118 rfl (lv_at hl 3 rfl) ?_
                  refine lv_iload hx hb dX6_commit_119 (lv_at hl 5 rfl) ?_
                  refine x_callv (va_runV (As := [.int (nI y), .int (nI p1), .int (nI (((rn - (ifM fR rf 0 0)) + 2) / 3)), .int (nI (ifM fR rf 0 0)), .int (nI (rn - (ifM fR rf 0 0)))]) (rest := []) ⟨hx, hb, hml, hown, hts⟩ (c_M_writesFile i104_3 i104_2 (by omega) (by omega) y p1 (((rn - (ifM fR rf 0 0)) + 2) / 3) (ifM fR rf 0 0) (rn - (ifM fR rf 0 0)) (by omega) (by omega) (by omega) (by omega) (by omega)) (cwV 5 hts (tbV tw_734 tw_736 tw_71 tw_91 tw_737) rfl rfl rfl (by decide +kernel) ⟨Nat.le_of_ble_eq_true rfl, Nat.le_of_ble_eq_true rfl⟩) ⟨y_blind, va_recv hK hP (ci := 6) (q0 := 0) rfl rfl, y_pre hK hP hD⟩ rfl rfl hl.1 rfl (lv_room (Nat.le_of_ble_eq_true rfl)) dX6_commit_121 ⟨Nat.zero_le _, Nat.zero_le _⟩) hS (fun H locs hP hD hS => ?_)
                  have hP : va_P (dC, dI) vwCl (wM b cB cI cL rb rd (Z'.1 + 1) (va_up Z'.2.1 Z'.1 (y + p1)) (wfG Z'.1 y p1 (((rn - (ifM fR rf 0 0)) + 2) / 3) (ifM fR rf 0 0) (rn - (ifM fR rf 0 0)) rz K.1 K.2 Z'.2.2.2) (64 * Z'.1) ro rn K.1 K.2 rf fN fF fB fR rl lB lR rt rg rx rz) H := hP
                  have hD : va_D A (wM b cB cI cL rb rd (Z'.1 + 1) (va_up Z'.2.1 Z'.1 (y + p1)) (wfG Z'.1 y p1 (((rn - (ifM fR rf 0 0)) + 2) / 3) (ifM fR rf 0 0) (rn - (ifM fR rf 0 0)) rz K.1 K.2 Z'.2.2.2) (64 * Z'.1) ro rn K.1 K.2 rf fN fF fB fR rl lB lR rt rg rx rz) := hD
                  refine lv_iinc (v := nI (p1 + 1)) (lv' := [(8, .int (nI (p1 + 1))), (0, .ref (b 0)), (1, .int (z)), (2, .int (nI (ifM fR rf 0 0))), (3, .int (nI (ifM fR rf 0 0))), (4, .int (nI rf)), (5, .int (nI (rn - (ifM fR rf 0 0)))), (6, .int (nI (((rn - (ifM fR rf 0 0)) + 2) / 3))), (7, .int (nI y))]) hx hb dX6_commit_124 hl (k := 8) rfl (x_inc _) (by decide) rfl (fun ls hl => ?_)
                  refine lv_goto (tgt := 104) hx hb dX6_commit_127 (by decide) ?_
                  have e1 : (Z'.1 + 1) = ((cqS y (((rn - (ifM fR rf 0 0)) + 2) / 3) (ifM fR rf 0 0) (rn - (ifM fR rf 0 0)) rz K.1 K.2 p1 Z').1) := by rfl
                  have e2 : (va_up Z'.2.1 Z'.1 (y + p1)) = ((cqS y (((rn - (ifM fR rf 0 0)) + 2) / 3) (ifM fR rf 0 0) (rn - (ifM fR rf 0 0)) rz K.1 K.2 p1 Z').2.1) := by rfl
                  have e3 : (wfG Z'.1 y p1 (((rn - (ifM fR rf 0 0)) + 2) / 3) (ifM fR rf 0 0) (rn - (ifM fR rf 0 0)) rz K.1 K.2 Z'.2.2.2) = ((cqS y (((rn - (ifM fR rf 0 0)) + 2) / 3) (ifM fR rf 0 0) (rn - (ifM fR rf 0 0)) rz K.1 K.2 p1 Z').2.2.2) := by rfl
                  have e4 : (64 * Z'.1) = ((cqS y (((rn - (ifM fR rf 0 0)) + 2) / 3) (ifM fR rf 0 0) (rn - (ifM fR rf 0 0)) rz K.1 K.2 p1 Z').2.2.1) := by rfl
                  exact ih104 (p1 + 1) (cqS y (((rn - (ifM fR rf 0 0)) + 2) / 3) (ifM fR rf 0 0) (rn - (ifM fR rf 0 0)) rz K.1 K.2 p1 Z') (by omega) (by omega) (by show Z'.1 + 1 = rq + (p1 + 1); omega) (by exact va_up_lt i104_2 (by omega)) (by exact wfG_lt i104_3) (by have h := i104_4; rw [show (((rn - (ifM fR rf 0 0)) + 2) / 3) - p1 = ((((rn - (ifM fR rf 0 0)) + 2) / 3) - (p1 + 1)) + 1 by omega, cqL] at h; exact h) _ _ (x_wP (by rw [← e1, ← e2, e3, ← e4]) hP) (x_wD (by rw [← e1, ← e2, e3, ← e4]) hD) hS ls (lv_sub hl [1, 2, 3, 4, 5, 6, 7, 8, 0] rfl)
            have e5 : rq = ((rq, rQ, ra, rw).1) := by rfl
            have e6 : rQ = ((rq, rQ, ra, rw).2.1) := by rfl
            have e7 : rw = ((rq, rQ, ra, rw).2.2.2) := by rfl
            have e8 : ra = ((rq, rQ, ra, rw).2.2.1) := by rfl
            exact L104 ((((rn - (ifM fR rf 0 0)) + 2) / 3) - 0 + 1) 0 (rq, rQ, ra, rw) (by omega) (by omega) (by rfl) (by exact hrQ) (by exact hrw) (by exact hZ0) _ _ (x_wP (by rw [← e5, ← e6, ← e7, ← e8]) hP) (x_wD (by rw [← e5, ← e6, ← e7, ← e8]) hD) hS ls (lv_sub hl [7, 8, 6, 5, 4, 3, 2, 1, 0] rfl)
          · exact absurd c51 (by omega)
        · exact absurd c37 (by omega)
      · exact absurd c27 (by omega)
    · exact absurd (ho.symm.trans c11) (by decide)
  · exact absurd hz c2

set_option maxHeartbeats 4000000 in
set_option maxRecDepth 100000 in
theorem c_M_commitGAp {l : Launch} {dC : Nat → ClassId} {dI : Nat → Nat → Nat} {A : Nat → Prop} {b : Nat → Nat} {cB cI cL : ClassId} {rb : Nat} {rd : Nat → Nat} {rq : Nat} {rQ rw : Nat → Nat} {ra : Nat} {ro : Bool} {rn : Nat} {rk rv : Nat → Int64} {rf : Nat} {fN fF fB fR : Nat → Nat} {rl : Nat} {lB lR : Nat → Nat} {rt rg rx rz : Nat} (hrb : rb ≤ 64) (hrd : ∀ j, rd j < 256) (hrw : ∀ j, rw j < 256) (hrQ : ∀ j, rQ j < 64) (hrq : rq ≤ 128) (hrn : rn ≤ 210) (hrf : rf ≤ 5) (hfN : ∀ j, fN j < 1048576) (hfF : ∀ j, fF j < 1048576) (hfB : ∀ j, fB j < 1048576) (hfR : ∀ j, fR j < 1048576) (hrl : rl ≤ 62) (hlB : ∀ j, lB j < 1048576) (hrt : rt ≤ rn ∧ rt ≤ 3) (hrg : rg < 2 ^ 30) (hrx : rx < 2 ^ 30 ∧ rt ≤ rx) (hrz : rz < 2 ^ 18) (y : Nat) (K : (Nat → Int64) × (Nat → Int64)) (Z0 : WQ) (n : Nat) (hn1 : n < 2 ^ 31) (hnq : 64 * (Z0.1 + 1) ≤ n) (ho : ro = true) (hl0 : ifM fR rf 0 0 < rn) (hm : rf < 5) (hfr : frM (usM rf fF fB rl lB) (((rn - (ifM fR rf 0 0)) + 2) / 3) (rb - 2) 2 0 = some y) (hq1 : rq + (((rn - (ifM fR rf 0 0)) + 2) / 3) < 128) (hK0 : srO (ifM fR rf 0 0) (rn - ((ifM fR rf 0 0) + 1)) ((ifM fR rf 0 0) + 1) (rk, rv) = K) (hZ0 : cqL y (((rn - (ifM fR rf 0 0)) + 2) / 3) (ifM fR rf 0 0) (rn - (ifM fR rf 0 0)) rz K.1 K.2 (((rn - (ifM fR rf 0 0)) + 2) / 3) 0 (rq, rQ, ra, rw) = Z0) : Met l yX6_commit (Cond.code yX6_commit cX6_commit 10 (some .int) :: TB) { frames := 3, cells := 0, slots := 0, locals := 72 } (xPre (fun _ => True) (dC, dI) A (tyS cB cI cL) (wM b cB cI cL rb rd rq rQ rw ra ro rn rk rv rf fN fF fB fR rl lB lR rt rg rx rz) [.ref (b 0), .int (nI n)]) (xQi (dC, dI) A (nI (rg + 1)) (wM b cB cI cL rb ((prO (va_up Z0.2.1 Z0.1 ((rg + 1) % 2)) (whG Z0.1 (rf + 1) rg rx (va_up fN rf (rz + 1)) (va_up fF rf y) (va_up fB rf (((rn - (ifM fR rf 0 0)) + 2) / 3)) (va_up fR rf (rn - (ifM fR rf 0 0))) Z0.2.2.2) (Z0.1 + 1) 0 (64 * (Z0.1 + 1)) 0 rd).2) 0 (va_up Z0.2.1 Z0.1 ((rg + 1) % 2)) (whG Z0.1 (rf + 1) rg rx (va_up fN rf (rz + 1)) (va_up fF rf y) (va_up fB rf (((rn - (ifM fR rf 0 0)) + 2) / 3)) (va_up fR rf (rn - (ifM fR rf 0 0))) Z0.2.2.2) (64 * Z0.1) ro rn K.1 K.2 (rf + 1) (va_up fN rf (rz + 1)) (va_up fF rf y) (va_up fB rf (((rn - (ifM fR rf 0 0)) + 2) / 3)) (va_up fR rf (rn - (ifM fR rf 0 0))) 0 lB lR 0 (rg + 1) rx (rz + 1))) 0 0 A := by
  refine x_ofWi (cc := cX6_commit) (maxL := 10) (by decide) rfl (Nat.le_of_ble_eq_true rfl) ?_
  intro p e s m args below meth c Q hx hb hml hts hown hK hN hP hD hS hret ls hl
  have hl : lv_has ls 10 [(0, .ref (b 0)), (1, .int (nI n))] := hl
  have hown : s.vm.findClass RX6 = some m.cls := hown
  have hyb := frM_lt (show 0 < (((rn - (ifM fR rf 0 0)) + 2) / 3) by omega) hfr
  have hyz := frM_end (by decide) hfr
  have f105 := hts _ (List.mem_cons_of_mem _ tw_612)
  have in_X6 := (fun q hq => List.mem_cons_of_mem _ (inX6 q hq) : ∀ q ∈ wsX60, q ∈ (Cond.code yX6_commit cX6_commit 10 (some .int) :: TB))
  have f71 := hts _ (List.mem_cons_of_mem _ tw_613)
  have f74 := hts _ (List.mem_cons_of_mem _ tw_616)
  have f27 := hts _ (List.mem_cons_of_mem _ tw_617)
  have f90 := hts _ (List.mem_cons_of_mem _ tw_627)
  have f30 := hts _ (List.mem_cons_of_mem _ tw_618)
  have f33 := hts _ (List.mem_cons_of_mem _ tw_619)
  have f36 := hts _ (List.mem_cons_of_mem _ tw_620)
  have f58 := hts _ (List.mem_cons_of_mem _ tw_608)
  have f77 := hts _ (List.mem_cons_of_mem _ tw_621)
  have f80 := hts _ (List.mem_cons_of_mem _ tw_624)
  have f83 := hts _ (List.mem_cons_of_mem _ tw_625)
  refine lv_iload_n hx hb dX6_commit_0 rfl (lv_at hl 1 rfl) ?_
  refine lv_iconst (v := (-1)) hx hb dX6_commit_1 (by decide) ?_
  refine lv_icmp_ge (tgt := 7) hx hb dX6_commit_2 (by decide) (fun c2 => ?_) (fun c2 => ?_)
  · refine lv_aload_n hx hb dX6_commit_7 rfl (lv_at hl 0 rfl) ?_
    refine va_get (D := (dC, dI)) (ci := 6) (v := .int (bI ro)) (C := RX6) (T := TX6) (N := 22) hx hb hts in_X6 hown hK hP 0 rfl rfl 6 (by decide) f105 (fun _ h9 => h9) rfl dX6_commit_8 ?_
    refine x_if_ne_b (tgt := 17) hx hb dX6_commit_11 (by decide) (fun c11 => ?_) (fun c11 => ?_)
    · refine lv_aload_n hx hb dX6_commit_17 rfl (lv_at hl 0 rfl) ?_
      refine x_calli (va_runV (As := []) (rest := []) ⟨hx, hb, hml, hown, hts⟩ (c_M_inFiles (by omega) hfR) (cwV 0 hts (tbV tw_726 tw_728 tw_69 tw_91 tw_729) rfl rfl rfl (by decide +kernel) ⟨Nat.le_of_ble_eq_true rfl, Nat.le_of_ble_eq_true rfl⟩) ⟨y_blind, va_recv hK hP (ci := 6) (q0 := 0) rfl rfl, y_pre hK hP hD⟩ rfl rfl hl.1 rfl (lv_room (Nat.le_of_ble_eq_true rfl)) dX6_commit_18 ⟨Nat.zero_le _, Nat.zero_le _⟩) hS (fun H locs hP hD hS => ?_)
      have hP : va_P (dC, dI) vwCl (wM b cB cI cL rb rd rq rQ rw ra ro rn rk rv rf fN fF fB fR rl lB lR rt rg rx rz) H := hP
      have hD : va_D A (wM b cB cI cL rb rd rq rQ rw ra ro rn rk rv rf fN fF fB fR rl lB lR rt rg rx rz) := hD
      have hv18 := ifM_lt hfR rf 0 0
      refine lv_istore_n (lv' := [(2, .int (nI (ifM fR rf 0 0))), (0, .ref (b 0)), (1, .int (nI n))]) hx hb dX6_commit_21 rfl hl (by decide) rfl (fun ls hl => ?_)
      refine lv_aload_n hx hb dX6_commit_22 rfl (lv_at hl 1 rfl) ?_
      refine va_get (D := (dC, dI)) (ci := 6) (v := .int (nI rn)) (C := RX6) (T := TX6) (N := 22) hx hb hts in_X6 hown hK hP 0 rfl rfl 7 (by decide) f71 (fun _ h9 => h9) rfl dX6_commit_23 ?_
      refine lv_iload_n hx hb dX6_commit_26 rfl (lv_at hl 0 rfl) ?_
      refine x_icmp_ne (tgt := 32) hx hb dX6_commit_27 (by decide) (by omega) (by omega) (fun c27 => ?_) (fun c27 => ?_)
      · refine lv_aload_n hx hb dX6_commit_32 rfl (lv_at hl 1 rfl) ?_
        refine va_get (D := (dC, dI)) (ci := 6) (v := .int (nI rf)) (C := RX6) (T := TX6) (N := 22) hx hb hts in_X6 hown hK hP 0 rfl rfl 10 (by decide) f74 (fun _ h9 => h9) rfl dX6_commit_33 ?_
        refine lv_iconst (v := nI 5) hx hb dX6_commit_36 (by decide) ?_
        refine x_icmp_ne (tgt := 44) hx hb dX6_commit_37 (by decide) (by omega) (by omega) (fun c37 => ?_) (fun c37 => ?_)
        · refine lv_iload_n hx hb dX6_commit_44 rfl (lv_at hl 0 rfl) ?_
          refine lv_istore_n (lv' := [(3, .int (nI (ifM fR rf 0 0))), (2, .int (nI (ifM fR rf 0 0))), (0, .ref (b 0)), (1, .int (nI n))]) hx hb dX6_commit_45 rfl hl (by decide) rfl (fun ls hl => ?_)
          refine lv_aload_n hx hb dX6_commit_46 rfl (lv_at hl 2 rfl) ?_
          refine va_get (D := (dC, dI)) (ci := 6) (v := .int (nI rf)) (C := RX6) (T := TX6) (N := 22) hx hb hts in_X6 hown hK hP 0 rfl rfl 10 (by decide) f74 (fun _ h9 => h9) rfl dX6_commit_47 ?_
          refine lv_iconst (v := nI 5) hx hb dX6_commit_50 (by decide) ?_
          refine x_icmp_ne (tgt := 58) hx hb dX6_commit_51 (by decide) (by omega) (by omega) (fun c51 => ?_) (fun c51 => ?_)
          · refine lv_aload_n hx hb dX6_commit_58 rfl (lv_at hl 2 rfl) ?_
            refine va_get (D := (dC, dI)) (ci := 6) (v := .int (nI rf)) (C := RX6) (T := TX6) (N := 22) hx hb hts in_X6 hown hK hP 0 rfl rfl 10 (by decide) f74 (fun _ h9 => h9) rfl dX6_commit_59 ?_
            refine lv_istore (lv' := [(4, .int (nI rf)), (3, .int (nI (ifM fR rf 0 0))), (2, .int (nI (ifM fR rf 0 0))), (0, .ref (b 0)), (1, .int (nI n))]) hx hb dX6_commit_62 hl (by decide) rfl (fun ls hl => ?_)
            refine lv_aload_n hx hb dX6_commit_64 rfl (lv_at hl 3 rfl) ?_
            refine va_get (D := (dC, dI)) (ci := 6) (v := .int (nI rn)) (C := RX6) (T := TX6) (N := 22) hx hb hts in_X6 hown hK hP 0 rfl rfl 7 (by decide) f71 (fun _ h9 => h9) rfl dX6_commit_65 ?_
            refine lv_iload_n hx hb dX6_commit_68 rfl (lv_at hl 1 rfl) ?_
            refine x_isub hx hb dX6_commit_69 (by omega) ?_
            refine lv_istore (lv' := [(5, .int (nI (rn - (ifM fR rf 0 0)))), (4, .int (nI rf)), (3, .int (nI (ifM fR rf 0 0))), (2, .int (nI (ifM fR rf 0 0))), (0, .ref (b 0)), (1, .int (nI n))]) hx hb dX6_commit_70 hl (by decide) rfl (fun ls hl => ?_)
            refine lv_iload hx hb dX6_commit_72 (lv_at hl 0 rfl) ?_
            refine lv_iconst (v := nI 2) hx hb dX6_commit_74 (by decide) ?_
            refine x_iadd hx hb dX6_commit_75 ?_
            refine lv_iconst (v := nI 3) hx hb dX6_commit_76 (by decide) ?_
            refine x_idiv hx hb dX6_commit_77 (by omega) (by omega) (by omega) ?_
            refine lv_istore (lv' := [(6, .int (nI (((rn - (ifM fR rf 0 0)) + 2) / 3))), (5, .int (nI (rn - (ifM fR rf 0 0)))), (4, .int (nI rf)), (3, .int (nI (ifM fR rf 0 0))), (2, .int (nI (ifM fR rf 0 0))), (0, .ref (b 0)), (1, .int (nI n))]) hx hb dX6_commit_78 hl (by decide) rfl (fun ls hl => ?_)
            refine lv_aload_n hx hb dX6_commit_80 rfl (lv_at hl 5 rfl) ?_
            refine lv_iload hx hb dX6_commit_81 (lv_at hl 0 rfl) ?_
            refine x_calli (va_runV (As := [.int (nI (((rn - (ifM fR rf 0 0)) + 2) / 3))]) (rest := []) ⟨hx, hb, hml, hown, hts⟩ (c_M_free (by omega) (by omega) hfF hfB (by omega) hlB (((rn - (ifM fR rf 0 0)) + 2) / 3) (by omega) (by omega)) (cwV 1 hts (tbV tw_678 tw_680 tw_61 tw_91 tw_681) rfl rfl rfl (by decide +kernel) ⟨Nat.le_of_ble_eq_true rfl, Nat.le_of_ble_eq_true rfl⟩) ⟨y_blind, va_recv hK hP (ci := 6) (q0 := 0) rfl rfl, y_pre hK hP hD⟩ rfl rfl hl.1 rfl (lv_room (Nat.le_of_ble_eq_true rfl)) dX6_commit_83 ⟨Nat.zero_le _, Nat.zero_le _⟩) hS (fun H locs hP hD hS => ?_)
            have hP : va_P (dC, dI) vwCl (wM b cB cI cL rb rd rq rQ rw ra ro rn rk rv rf fN fF fB fR rl lB lR rt rg rx rz) H := hP
            have hD : va_D A (wM b cB cI cL rb rd rq rQ rw ra ro rn rk rv rf fN fF fB fR rl lB lR rt rg rx rz) := hD
            refine lv_istore (lv' := [(7, .int (oJ (frM (usM rf fF fB rl lB) (((rn - (ifM fR rf 0 0)) + 2) / 3) (rb - 2) 2 0))), (6, .int (nI (((rn - (ifM fR rf 0 0)) + 2) / 3))), (5, .int (nI (rn - (ifM fR rf 0 0)))), (4, .int (nI rf)), (3, .int (nI (ifM fR rf 0 0))), (2, .int (nI (ifM fR rf 0 0))), (0, .ref (b 0)), (1, .int (nI n))]) hx hb dX6_commit_86 hl (by decide) rfl (fun ls hl => ?_)
            rw [hfr] at hl
            have hl : lv_has ls 10 [(7, .int (nI y)), (6, .int (nI (((rn - (ifM fR rf 0 0)) + 2) / 3))), (5, .int (nI (rn - (ifM fR rf 0 0)))), (4, .int (nI rf)), (3, .int (nI (ifM fR rf 0 0))), (2, .int (nI (ifM fR rf 0 0))), (0, .ref (b 0)), (1, .int (nI n))] := hl
            refine lv_iload hx hb dX6_commit_88 (lv_at hl 0 rfl) ?_
            refine x_if_ge (tgt := 96) hx hb dX6_commit_90 (by decide) (by omega) ?_
            refine lv_aload_n hx hb dX6_commit_96 rfl (lv_at hl 6 rfl) ?_
            refine lv_iload_n hx hb dX6_commit_97 rfl (lv_at hl 4 rfl) ?_
            refine x_callv (va_runV (As := [.int (nI (ifM fR rf 0 0))]) (rest := []) ⟨hx, hb, hml, hown, hts⟩ (c_M_sort (by omega) (ifM fR rf 0 0) (by omega)) (cwV 1 hts (tbV tw_730 tw_732 tw_70 tw_91 tw_733) rfl rfl rfl (by decide +kernel) ⟨Nat.le_of_ble_eq_true rfl, Nat.le_of_ble_eq_true rfl⟩) ⟨y_blind, va_recv hK hP (ci := 6) (q0 := 0) rfl rfl, y_pre hK hP hD⟩ rfl rfl hl.1 rfl (lv_room (Nat.le_of_ble_eq_true rfl)) dX6_commit_98 ⟨Nat.zero_le _, Nat.zero_le _⟩) hS (fun H locs hP hD hS => ?_)
            have hP : va_P (dC, dI) vwCl (wM b cB cI cL rb rd rq rQ rw ra ro rn ((srO (ifM fR rf 0 0) (rn - ((ifM fR rf 0 0) + 1)) ((ifM fR rf 0 0) + 1) (rk, rv)).1) ((srO (ifM fR rf 0 0) (rn - ((ifM fR rf 0 0) + 1)) ((ifM fR rf 0 0) + 1) (rk, rv)).2) rf fN fF fB fR rl lB lR rt rg rx rz) H := hP
            have hD : va_D A (wM b cB cI cL rb rd rq rQ rw ra ro rn ((srO (ifM fR rf 0 0) (rn - ((ifM fR rf 0 0) + 1)) ((ifM fR rf 0 0) + 1) (rk, rv)).1) ((srO (ifM fR rf 0 0) (rn - ((ifM fR rf 0 0) + 1)) ((ifM fR rf 0 0) + 1) (rk, rv)).2) rf fN fF fB fR rl lB lR rt rg rx rz) := hD
            rw [hK0] at hP hD
            refine lv_iconst (v := nI 0) hx hb dX6_commit_101 (by decide) ?_
            refine lv_istore (lv' := [(8, .int (nI 0)), (7, .int (nI y)), (6, .int (nI (((rn - (ifM fR rf 0 0)) + 2) / 3))), (5, .int (nI (rn - (ifM fR rf 0 0)))), (4, .int (nI rf)), (3, .int (nI (ifM fR rf 0 0))), (2, .int (nI (ifM fR rf 0 0))), (0, .ref (b 0)), (1, .int (nI n))]) hx hb dX6_commit_102 hl (by decide) rfl (fun ls hl => ?_)
            have L104 : ∀ (fu104 : Nat) (p1 : Nat) (Z' : WQ), ((((rn - (ifM fR rf 0 0)) + 2) / 3) - p1 < fu104) → (p1 ≤ (((rn - (ifM fR rf 0 0)) + 2) / 3)) → (Z'.1 = rq + p1) → (∀ q, Z'.2.1 q < 64) → (∀ q, Z'.2.2.2 q < 256) → (cqL y (((rn - (ifM fR rf 0 0)) + 2) / 3) (ifM fR rf 0 0) (rn - (ifM fR rf 0 0)) rz K.1 K.2 ((((rn - (ifM fR rf 0 0)) + 2) / 3) - p1) p1 Z' = Z0) → ∀ (H : Heap) (locs : List Loc), va_P (dC, dI) vwCl (wM b cB cI cL rb rd Z'.1 Z'.2.1 Z'.2.2.2 Z'.2.2.1 ro rn K.1 K.2 rf fN fF fB fR rl lB lR rt rg rx rz) H → va_D A (wM b cB cI cL rb rd Z'.1 Z'.2.1 Z'.2.2.2 Z'.2.2.1 ro rn K.1 K.2 rf fN fF fB fR rl lB lR rt rg rx rz) → va_S A s.heap H locs → ∀ (ls : Array Slot), lv_has ls 10 [(0, .ref (b 0)), (1, .int (nI n)), (2, .int (nI (ifM fR rf 0 0))), (3, .int (nI (ifM fR rf 0 0))), (4, .int (nI rf)), (5, .int (nI (rn - (ifM fR rf 0 0)))), (6, .int (nI (((rn - (ifM fR rf 0 0)) + 2) / 3))), (7, .int (nI y)), (8, .int (nI p1))] → W p l e { frames := 3, cells := 0, slots := 0, locals := 72 } s m args below meth c H locs 0 0 Q (F0 m 104 ls []) := by
              intro fu104
              induction fu104 with
              | zero => intro p1 Z' hm; exact absurd hm (Nat.not_lt_zero _)
              | succ fu104 ih104 =>
                intro p1 Z' hm i104_0 i104_1 i104_2 i104_3 i104_4 H locs hP hD hS ls hl
                refine lv_iload hx hb dX6_commit_104 (lv_at hl 8 rfl) ?_
                refine lv_iload hx hb dX6_commit_106 (lv_at hl 6 rfl) ?_
                refine x_icmp_ge (tgt := 130) hx hb dX6_commit_108 (by decide) (by omega) (by omega) (fun c108 => ?_) (fun c108 => ?_)
                · have zz1 : Z0 = Z' := by
                    have h := i104_4
                    rw [show (((rn - (ifM fR rf 0 0)) + 2) / 3) - p1 = 0 by omega, cqL] at h
                    exact h.symm
                  subst zz1
                  have hq9 := i104_1
                  refine lv_aload_n hx hb dX6_commit_130 rfl (lv_at hl 0 rfl) ?_
                  refine va_get (D := (dC, dI)) (ci := 6) (v := .ref (b 6)) (C := RX6) (T := TX6) (N := 22) hx hb hts in_X6 hown hK hP 0 rfl rfl 11 (by decide) f27 (fun _ h9 => h9) rfl dX6_commit_131 ?_
                  refine lv_iload hx hb dX6_commit_134 (lv_at hl 4 rfl) ?_
                  refine lv_aload_n hx hb dX6_commit_136 rfl (lv_at hl 0 rfl) ?_
                  refine va_get (D := (dC, dI)) (ci := 6) (v := .int (nI rz)) (C := RX6) (T := TX6) (N := 22) hx hb hts in_X6 hown hK hP 0 rfl rfl 21 (by decide) f90 (fun _ h9 => h9) rfl dX6_commit_137 ?_
                  refine lv_iconst (v := nI 1) hx hb dX6_commit_140 (by decide) ?_
                  refine x_iadd hx hb dX6_commit_141 ?_
                  refine x_iast hx hb hK hP hD hS 6 1 rfl rfl (by omega) (by decide) dX6_commit_142 (fun H locs hP hD hS => ?_)
                  have hP : va_P (dC, dI) vwCl (wM b cB cI cL rb rd Z0.1 Z0.2.1 Z0.2.2.2 Z0.2.2.1 ro rn K.1 K.2 rf (va_up fN rf (rz + 1)) fF fB fR rl lB lR rt rg rx rz) H := hP
                  have hD : va_D A (wM b cB cI cL rb rd Z0.1 Z0.2.1 Z0.2.2.2 Z0.2.2.1 ro rn K.1 K.2 rf (va_up fN rf (rz + 1)) fF fB fR rl lB lR rt rg rx rz) := hD
                  refine lv_aload_n hx hb dX6_commit_143 rfl (lv_at hl 0 rfl) ?_
                  refine va_get (D := (dC, dI)) (ci := 6) (v := .ref (b 7)) (C := RX6) (T := TX6) (N := 22) hx hb hts in_X6 hown hK hP 0 rfl rfl 12 (by decide) f30 (fun _ h9 => h9) rfl dX6_commit_144 ?_
                  refine lv_iload hx hb dX6_commit_147 (lv_at hl 4 rfl) ?_
                  refine lv_iload hx hb dX6_commit_149 (lv_at hl 7 rfl) ?_
                  refine x_iast hx hb hK hP hD hS 7 1 rfl rfl (by omega) (by decide) dX6_commit_151 (fun H locs hP hD hS => ?_)
                  have hP : va_P (dC, dI) vwCl (wM b cB cI cL rb rd Z0.1 Z0.2.1 Z0.2.2.2 Z0.2.2.1 ro rn K.1 K.2 rf (va_up fN rf (rz + 1)) (va_up fF rf y) fB fR rl lB lR rt rg rx rz) H := hP
                  have hD : va_D A (wM b cB cI cL rb rd Z0.1 Z0.2.1 Z0.2.2.2 Z0.2.2.1 ro rn K.1 K.2 rf (va_up fN rf (rz + 1)) (va_up fF rf y) fB fR rl lB lR rt rg rx rz) := hD
                  refine lv_aload_n hx hb dX6_commit_152 rfl (lv_at hl 0 rfl) ?_
                  refine va_get (D := (dC, dI)) (ci := 6) (v := .ref (b 8)) (C := RX6) (T := TX6) (N := 22) hx hb hts in_X6 hown hK hP 0 rfl rfl 13 (by decide) f33 (fun _ h9 => h9) rfl dX6_commit_153 ?_
                  refine lv_iload hx hb dX6_commit_156 (lv_at hl 4 rfl) ?_
                  refine lv_iload hx hb dX6_commit_158 (lv_at hl 6 rfl) ?_
                  refine x_iast hx hb hK hP hD hS 8 1 rfl rfl (by omega) (by decide) dX6_commit_160 (fun H locs hP hD hS => ?_)
                  have hP : va_P (dC, dI) vwCl (wM b cB cI cL rb rd Z0.1 Z0.2.1 Z0.2.2.2 Z0.2.2.1 ro rn K.1 K.2 rf (va_up fN rf (rz + 1)) (va_up fF rf y) (va_up fB rf (((rn - (ifM fR rf 0 0)) + 2) / 3)) fR rl lB lR rt rg rx rz) H := hP
                  have hD : va_D A (wM b cB cI cL rb rd Z0.1 Z0.2.1 Z0.2.2.2 Z0.2.2.1 ro rn K.1 K.2 rf (va_up fN rf (rz + 1)) (va_up fF rf y) (va_up fB rf (((rn - (ifM fR rf 0 0)) + 2) / 3)) fR rl lB lR rt rg rx rz) := hD
                  refine lv_aload_n hx hb dX6_commit_161 rfl (lv_at hl 0 rfl) ?_
                  refine va_get (D := (dC, dI)) (ci := 6) (v := .ref (b 9)) (C := RX6) (T := TX6) (N := 22) hx hb hts in_X6 hown hK hP 0 rfl rfl 14 (by decide) f36 (fun _ h9 => h9) rfl dX6_commit_162 ?_
                  refine lv_iload hx hb dX6_commit_165 (lv_at hl 4 rfl) ?_
                  refine lv_iload hx hb dX6_commit_167 (lv_at hl 5 rfl) ?_
                  refine x_iast hx hb hK hP hD hS 9 1 rfl rfl (by omega) (by decide) dX6_commit_169 (fun H locs hP hD hS => ?_)
                  have hP : va_P (dC, dI) vwCl (wM b cB cI cL rb rd Z0.1 Z0.2.1 Z0.2.2.2 Z0.2.2.1 ro rn K.1 K.2 rf (va_up fN rf (rz + 1)) (va_up fF rf y) (va_up fB rf (((rn - (ifM fR rf 0 0)) + 2) / 3)) (va_up fR rf (rn - (ifM fR rf 0 0))) rl lB lR rt rg rx rz) H := hP
                  have hD : va_D A (wM b cB cI cL rb rd Z0.1 Z0.2.1 Z0.2.2.2 Z0.2.2.1 ro rn K.1 K.2 rf (va_up fN rf (rz + 1)) (va_up fF rf y) (va_up fB rf (((rn - (ifM fR rf 0 0)) + 2) / 3)) (va_up fR rf (rn - (ifM fR rf 0 0))) rl lB lR rt rg rx rz) := hD
                  refine lv_aload_n hx hb dX6_commit_170 rfl (lv_at hl 0 rfl) ?_
                  refine lv_iload hx hb dX6_commit_171 (lv_at hl 4 rfl) ?_
                  refine lv_iconst (v := nI 1) hx hb dX6_commit_173 (by decide) ?_
                  refine x_iadd hx hb dX6_commit_174 ?_
                  refine x_callv (va_runV (As := [.int (nI (rf + 1))]) (rest := []) ⟨hx, hb, hml, hown, hts⟩ (c_M_writesHead i104_3 i104_2 (va_up_lt hfN (by omega)) (va_up_lt hfF (by omega)) (va_up_lt hfB (by omega)) (va_up_lt hfR (by omega)) (by omega) (by omega) (rf + 1) (by omega) (by omega)) (cwV 1 hts (tbV tw_739 tw_741 tw_72 tw_91 tw_742) rfl rfl rfl (by decide +kernel) ⟨Nat.le_of_ble_eq_true rfl, Nat.le_of_ble_eq_true rfl⟩) ⟨y_blind, va_recv hK hP (ci := 6) (q0 := 0) rfl rfl, y_pre hK hP hD⟩ rfl rfl hl.1 rfl (lv_room (Nat.le_of_ble_eq_true rfl)) dX6_commit_175 ⟨Nat.zero_le _, Nat.zero_le _⟩) hS (fun H locs hP hD hS => ?_)
                  have hP : va_P (dC, dI) vwCl (wM b cB cI cL rb rd (Z0.1 + 1) (va_up Z0.2.1 Z0.1 ((rg + 1) % 2)) (whG Z0.1 (rf + 1) rg rx (va_up fN rf (rz + 1)) (va_up fF rf y) (va_up fB rf (((rn - (ifM fR rf 0 0)) + 2) / 3)) (va_up fR rf (rn - (ifM fR rf 0 0))) Z0.2.2.2) (64 * Z0.1) ro rn K.1 K.2 rf (va_up fN rf (rz + 1)) (va_up fF rf y) (va_up fB rf (((rn - (ifM fR rf 0 0)) + 2) / 3)) (va_up fR rf (rn - (ifM fR rf 0 0))) rl lB lR rt rg rx rz) H := hP
                  have hD : va_D A (wM b cB cI cL rb rd (Z0.1 + 1) (va_up Z0.2.1 Z0.1 ((rg + 1) % 2)) (whG Z0.1 (rf + 1) rg rx (va_up fN rf (rz + 1)) (va_up fF rf y) (va_up fB rf (((rn - (ifM fR rf 0 0)) + 2) / 3)) (va_up fR rf (rn - (ifM fR rf 0 0))) Z0.2.2.2) (64 * Z0.1) ro rn K.1 K.2 rf (va_up fN rf (rz + 1)) (va_up fF rf y) (va_up fB rf (((rn - (ifM fR rf 0 0)) + 2) / 3)) (va_up fR rf (rn - (ifM fR rf 0 0))) rl lB lR rt rg rx rz) := hD
                  refine lv_ldc2 (v := lN 64) hx hb hown (hts _ (List.mem_cons_of_mem _ tw_598)) dX6_commit_178 ?_
                  refine lv_aload_n hx hb dX6_commit_181 rfl (lv_at hl 0 rfl) ?_
                  refine va_get (D := (dC, dI)) (ci := 6) (v := .int (nI (Z0.1 + 1))) (C := RX6) (T := TX6) (N := 22) hx hb hts in_X6 hown hK hP 0 rfl rfl 2 (by decide) f58 (fun _ h9 => h9) rfl dX6_commit_182 ?_
                  refine lv_i2l (v := lN (Z0.1 + 1)) hx hb dX6_commit_185 (nI_l (by omega)) ?_
                  refine lv_lmul hx hb dX6_commit_186 ?_
                  refine x_topl (y := lN (64 * (Z0.1 + 1))) (lN_mul _ _) ?_
                  refine lv_lstore (lv' := [(8, .long (lN (64 * (Z0.1 + 1)))), (0, .ref (b 0)), (1, .int (nI n)), (2, .int (nI (ifM fR rf 0 0))), (3, .int (nI (ifM fR rf 0 0))), (4, .int (nI rf)), (5, .int (nI (rn - (ifM fR rf 0 0)))), (6, .int (nI (((rn - (ifM fR rf 0 0)) + 2) / 3))), (7, .int (nI y))]) hx hb dX6_commit_187 hl (by decide) rfl (fun ls hl => ?_)
                  refine lv_iload_n hx hb dX6_commit_189 rfl (lv_at hl 2 rfl) ?_
                  refine x_if_lt (tgt := 215) hx hb dX6_commit_190 (by decide) (by omega) ?_
                  refine lv_iload_n hx hb dX6_commit_193 rfl (lv_at hl 2 rfl) ?_
                  refine lv_i2l (v := lN n) hx hb dX6_commit_194 (nI_l (by omega)) ?_
                  refine lv_lload hx hb dX6_commit_195 (lv_at hl 0 rfl) ?_
                  refine W.lcmp hx hb dX6_commit_197 ?_
                  refine x_lif_ge (tgt := 215) hx hb dX6_commit_198 (by decide) (fun c198 => ?_) (fun c198 => ?_)
                  · refine lv_aload_n hx hb dX6_commit_215 rfl (lv_at hl 1 rfl) ?_
                    refine lv_lload hx hb dX6_commit_216 (lv_at hl 0 rfl) ?_
                    refine x_calli (va_runV (As := [.long (lN (64 * (Z0.1 + 1)))]) (rest := []) ⟨hx, hb, hml, hown, hts⟩ (c_M_pours hrd (whG_lt i104_3) (va_up_lt i104_2 (by omega)) (by omega) (64 * (Z0.1 + 1)) (by omega)) (cwV 1 hts (tbV tw_718 tw_720 tw_68 tw_91 tw_721) rfl rfl rfl (by decide +kernel) ⟨Nat.le_of_ble_eq_true rfl, Nat.le_of_ble_eq_true rfl⟩) ⟨y_blind, va_recv hK hP (ci := 6) (q0 := 0) rfl rfl, y_pre hK hP hD⟩ rfl rfl hl.1 rfl (lv_room (Nat.le_of_ble_eq_true rfl)) dX6_commit_218 ⟨Nat.zero_le _, Nat.zero_le _⟩) hS (fun H locs hP hD hS => ?_)
                    have hP : va_P (dC, dI) vwCl (wM b cB cI cL rb ((prO (va_up Z0.2.1 Z0.1 ((rg + 1) % 2)) (whG Z0.1 (rf + 1) rg rx (va_up fN rf (rz + 1)) (va_up fF rf y) (va_up fB rf (((rn - (ifM fR rf 0 0)) + 2) / 3)) (va_up fR rf (rn - (ifM fR rf 0 0))) Z0.2.2.2) (Z0.1 + 1) 0 (64 * (Z0.1 + 1)) 0 rd).2) 0 (va_up Z0.2.1 Z0.1 ((rg + 1) % 2)) (whG Z0.1 (rf + 1) rg rx (va_up fN rf (rz + 1)) (va_up fF rf y) (va_up fB rf (((rn - (ifM fR rf 0 0)) + 2) / 3)) (va_up fR rf (rn - (ifM fR rf 0 0))) Z0.2.2.2) (64 * Z0.1) ro rn K.1 K.2 rf (va_up fN rf (rz + 1)) (va_up fF rf y) (va_up fB rf (((rn - (ifM fR rf 0 0)) + 2) / 3)) (va_up fR rf (rn - (ifM fR rf 0 0))) rl lB lR rt rg rx rz) H := hP
                    have hD : va_D A (wM b cB cI cL rb ((prO (va_up Z0.2.1 Z0.1 ((rg + 1) % 2)) (whG Z0.1 (rf + 1) rg rx (va_up fN rf (rz + 1)) (va_up fF rf y) (va_up fB rf (((rn - (ifM fR rf 0 0)) + 2) / 3)) (va_up fR rf (rn - (ifM fR rf 0 0))) Z0.2.2.2) (Z0.1 + 1) 0 (64 * (Z0.1 + 1)) 0 rd).2) 0 (va_up Z0.2.1 Z0.1 ((rg + 1) % 2)) (whG Z0.1 (rf + 1) rg rx (va_up fN rf (rz + 1)) (va_up fF rf y) (va_up fB rf (((rn - (ifM fR rf 0 0)) + 2) / 3)) (va_up fR rf (rn - (ifM fR rf 0 0))) Z0.2.2.2) (64 * Z0.1) ro rn K.1 K.2 rf (va_up fN rf (rz + 1)) (va_up fF rf y) (va_up fB rf (((rn - (ifM fR rf 0 0)) + 2) / 3)) (va_up fR rf (rn - (ifM fR rf 0 0))) rl lB lR rt rg rx rz) := hD
                    refine lv_pop hx hb dX6_commit_221 rfl ?_
                    refine lv_aload_n hx hb dX6_commit_222 rfl (lv_at hl 1 rfl) ?_
                    refine lv_iload hx hb dX6_commit_223 (lv_at hl 5 rfl) ?_
                    refine lv_iconst (v := nI 1) hx hb dX6_commit_225 (by decide) ?_
                    refine x_iadd hx hb dX6_commit_226 ?_
                    refine va_put (D := (dC, dI)) (ci := 6) (v := .int (nI (rf + 1))) (ty := .int) (C := RX6) (T := TX6) (N := 22) hx hb hts in_X6 tyX6 tyX6_ok nmX6 hown hK hP hD hS 0 rfl rfl 10 (by decide) f74 (fun _ h9 => h9) rfl (by decide +kernel) rfl rfl (Nat.le_of_ble_eq_true rfl) dX6_commit_227 (fun H locs hP hD hS => ?_)
                    have hP : va_P (dC, dI) vwCl (wM b cB cI cL rb ((prO (va_up Z0.2.1 Z0.1 ((rg + 1) % 2)) (whG Z0.1 (rf + 1) rg rx (va_up fN rf (rz + 1)) (va_up fF rf y) (va_up fB rf (((rn - (ifM fR rf 0 0)) + 2) / 3)) (va_up fR rf (rn - (ifM fR rf 0 0))) Z0.2.2.2) (Z0.1 + 1) 0 (64 * (Z0.1 + 1)) 0 rd).2) 0 (va_up Z0.2.1 Z0.1 ((rg + 1) % 2)) (whG Z0.1 (rf + 1) rg rx (va_up fN rf (rz + 1)) (va_up fF rf y) (va_up fB rf (((rn - (ifM fR rf 0 0)) + 2) / 3)) (va_up fR rf (rn - (ifM fR rf 0 0))) Z0.2.2.2) (64 * Z0.1) ro rn K.1 K.2 (rf + 1) (va_up fN rf (rz + 1)) (va_up fF rf y) (va_up fB rf (((rn - (ifM fR rf 0 0)) + 2) / 3)) (va_up fR rf (rn - (ifM fR rf 0 0))) rl lB lR rt rg rx rz) H := hP
                    have hD : va_D A (wM b cB cI cL rb ((prO (va_up Z0.2.1 Z0.1 ((rg + 1) % 2)) (whG Z0.1 (rf + 1) rg rx (va_up fN rf (rz + 1)) (va_up fF rf y) (va_up fB rf (((rn - (ifM fR rf 0 0)) + 2) / 3)) (va_up fR rf (rn - (ifM fR rf 0 0))) Z0.2.2.2) (Z0.1 + 1) 0 (64 * (Z0.1 + 1)) 0 rd).2) 0 (va_up Z0.2.1 Z0.1 ((rg + 1) % 2)) (whG Z0.1 (rf + 1) rg rx (va_up fN rf (rz + 1)) (va_up fF rf y) (va_up fB rf (((rn - (ifM fR rf 0 0)) + 2) / 3)) (va_up fR rf (rn - (ifM fR rf 0 0))) Z0.2.2.2) (64 * Z0.1) ro rn K.1 K.2 (rf + 1) (va_up fN rf (rz + 1)) (va_up fF rf y) (va_up fB rf (((rn - (ifM fR rf 0 0)) + 2) / 3)) (va_up fR rf (rn - (ifM fR rf 0 0))) rl lB lR rt rg rx rz) := hD
                    refine lv_aload_n hx hb dX6_commit_230 rfl (lv_at hl 1 rfl) ?_
                    refine lv_iconst (v := nI 0) hx hb dX6_commit_231 (by decide) ?_
                    refine va_put (D := (dC, dI)) (ci := 6) (v := .int (nI 0)) (ty := .int) (C := RX6) (T := TX6) (N := 22) hx hb hts in_X6 tyX6 tyX6_ok nmX6 hown hK hP hD hS 0 rfl rfl 15 (by decide) f77 (fun _ h9 => h9) rfl (by decide +kernel) rfl rfl (Nat.le_of_ble_eq_true rfl) dX6_commit_232 (fun H locs hP hD hS => ?_)
                    have hP : va_P (dC, dI) vwCl (wM b cB cI cL rb ((prO (va_up Z0.2.1 Z0.1 ((rg + 1) % 2)) (whG Z0.1 (rf + 1) rg rx (va_up fN rf (rz + 1)) (va_up fF rf y) (va_up fB rf (((rn - (ifM fR rf 0 0)) + 2) / 3)) (va_up fR rf (rn - (ifM fR rf 0 0))) Z0.2.2.2) (Z0.1 + 1) 0 (64 * (Z0.1 + 1)) 0 rd).2) 0 (va_up Z0.2.1 Z0.1 ((rg + 1) % 2)) (whG Z0.1 (rf + 1) rg rx (va_up fN rf (rz + 1)) (va_up fF rf y) (va_up fB rf (((rn - (ifM fR rf 0 0)) + 2) / 3)) (va_up fR rf (rn - (ifM fR rf 0 0))) Z0.2.2.2) (64 * Z0.1) ro rn K.1 K.2 (rf + 1) (va_up fN rf (rz + 1)) (va_up fF rf y) (va_up fB rf (((rn - (ifM fR rf 0 0)) + 2) / 3)) (va_up fR rf (rn - (ifM fR rf 0 0))) 0 lB lR rt rg rx rz) H := hP
                    have hD : va_D A (wM b cB cI cL rb ((prO (va_up Z0.2.1 Z0.1 ((rg + 1) % 2)) (whG Z0.1 (rf + 1) rg rx (va_up fN rf (rz + 1)) (va_up fF rf y) (va_up fB rf (((rn - (ifM fR rf 0 0)) + 2) / 3)) (va_up fR rf (rn - (ifM fR rf 0 0))) Z0.2.2.2) (Z0.1 + 1) 0 (64 * (Z0.1 + 1)) 0 rd).2) 0 (va_up Z0.2.1 Z0.1 ((rg + 1) % 2)) (whG Z0.1 (rf + 1) rg rx (va_up fN rf (rz + 1)) (va_up fF rf y) (va_up fB rf (((rn - (ifM fR rf 0 0)) + 2) / 3)) (va_up fR rf (rn - (ifM fR rf 0 0))) Z0.2.2.2) (64 * Z0.1) ro rn K.1 K.2 (rf + 1) (va_up fN rf (rz + 1)) (va_up fF rf y) (va_up fB rf (((rn - (ifM fR rf 0 0)) + 2) / 3)) (va_up fR rf (rn - (ifM fR rf 0 0))) 0 lB lR rt rg rx rz) := hD
                    refine lv_aload_n hx hb dX6_commit_235 rfl (lv_at hl 1 rfl) ?_
                    refine lv_iconst (v := nI 0) hx hb dX6_commit_236 (by decide) ?_
                    refine va_put (D := (dC, dI)) (ci := 6) (v := .int (nI 0)) (ty := .int) (C := RX6) (T := TX6) (N := 22) hx hb hts in_X6 tyX6 tyX6_ok nmX6 hown hK hP hD hS 0 rfl rfl 18 (by decide) f80 (fun _ h9 => h9) rfl (by decide +kernel) rfl rfl (Nat.le_of_ble_eq_true rfl) dX6_commit_237 (fun H locs hP hD hS => ?_)
                    have hP : va_P (dC, dI) vwCl (wM b cB cI cL rb ((prO (va_up Z0.2.1 Z0.1 ((rg + 1) % 2)) (whG Z0.1 (rf + 1) rg rx (va_up fN rf (rz + 1)) (va_up fF rf y) (va_up fB rf (((rn - (ifM fR rf 0 0)) + 2) / 3)) (va_up fR rf (rn - (ifM fR rf 0 0))) Z0.2.2.2) (Z0.1 + 1) 0 (64 * (Z0.1 + 1)) 0 rd).2) 0 (va_up Z0.2.1 Z0.1 ((rg + 1) % 2)) (whG Z0.1 (rf + 1) rg rx (va_up fN rf (rz + 1)) (va_up fF rf y) (va_up fB rf (((rn - (ifM fR rf 0 0)) + 2) / 3)) (va_up fR rf (rn - (ifM fR rf 0 0))) Z0.2.2.2) (64 * Z0.1) ro rn K.1 K.2 (rf + 1) (va_up fN rf (rz + 1)) (va_up fF rf y) (va_up fB rf (((rn - (ifM fR rf 0 0)) + 2) / 3)) (va_up fR rf (rn - (ifM fR rf 0 0))) 0 lB lR 0 rg rx rz) H := hP
                    have hD : va_D A (wM b cB cI cL rb ((prO (va_up Z0.2.1 Z0.1 ((rg + 1) % 2)) (whG Z0.1 (rf + 1) rg rx (va_up fN rf (rz + 1)) (va_up fF rf y) (va_up fB rf (((rn - (ifM fR rf 0 0)) + 2) / 3)) (va_up fR rf (rn - (ifM fR rf 0 0))) Z0.2.2.2) (Z0.1 + 1) 0 (64 * (Z0.1 + 1)) 0 rd).2) 0 (va_up Z0.2.1 Z0.1 ((rg + 1) % 2)) (whG Z0.1 (rf + 1) rg rx (va_up fN rf (rz + 1)) (va_up fF rf y) (va_up fB rf (((rn - (ifM fR rf 0 0)) + 2) / 3)) (va_up fR rf (rn - (ifM fR rf 0 0))) Z0.2.2.2) (64 * Z0.1) ro rn K.1 K.2 (rf + 1) (va_up fN rf (rz + 1)) (va_up fF rf y) (va_up fB rf (((rn - (ifM fR rf 0 0)) + 2) / 3)) (va_up fR rf (rn - (ifM fR rf 0 0))) 0 lB lR 0 rg rx rz) := hD
                    refine lv_aload_n hx hb dX6_commit_240 rfl (lv_at hl 1 rfl) ?_
                    refine lv_dup hx hb dX6_commit_241 rfl ?_
                    refine va_get (D := (dC, dI)) (ci := 6) (v := .int (nI rz)) (C := RX6) (T := TX6) (N := 22) hx hb hts in_X6 hown hK hP 0 rfl rfl 21 (by decide) f90 (fun _ h9 => h9) rfl dX6_commit_242 ?_
                    refine lv_iconst (v := nI 1) hx hb dX6_commit_245 (by decide) ?_
                    refine x_iadd hx hb dX6_commit_246 ?_
                    refine va_put (D := (dC, dI)) (ci := 6) (v := .int (nI (rz + 1))) (ty := .int) (C := RX6) (T := TX6) (N := 22) hx hb hts in_X6 tyX6 tyX6_ok nmX6 hown hK hP hD hS 0 rfl rfl 21 (by decide) f90 (fun _ h9 => h9) rfl (by decide +kernel) rfl rfl (Nat.le_of_ble_eq_true rfl) dX6_commit_247 (fun H locs hP hD hS => ?_)
                    have hP : va_P (dC, dI) vwCl (wM b cB cI cL rb ((prO (va_up Z0.2.1 Z0.1 ((rg + 1) % 2)) (whG Z0.1 (rf + 1) rg rx (va_up fN rf (rz + 1)) (va_up fF rf y) (va_up fB rf (((rn - (ifM fR rf 0 0)) + 2) / 3)) (va_up fR rf (rn - (ifM fR rf 0 0))) Z0.2.2.2) (Z0.1 + 1) 0 (64 * (Z0.1 + 1)) 0 rd).2) 0 (va_up Z0.2.1 Z0.1 ((rg + 1) % 2)) (whG Z0.1 (rf + 1) rg rx (va_up fN rf (rz + 1)) (va_up fF rf y) (va_up fB rf (((rn - (ifM fR rf 0 0)) + 2) / 3)) (va_up fR rf (rn - (ifM fR rf 0 0))) Z0.2.2.2) (64 * Z0.1) ro rn K.1 K.2 (rf + 1) (va_up fN rf (rz + 1)) (va_up fF rf y) (va_up fB rf (((rn - (ifM fR rf 0 0)) + 2) / 3)) (va_up fR rf (rn - (ifM fR rf 0 0))) 0 lB lR 0 rg rx (rz + 1)) H := hP
                    have hD : va_D A (wM b cB cI cL rb ((prO (va_up Z0.2.1 Z0.1 ((rg + 1) % 2)) (whG Z0.1 (rf + 1) rg rx (va_up fN rf (rz + 1)) (va_up fF rf y) (va_up fB rf (((rn - (ifM fR rf 0 0)) + 2) / 3)) (va_up fR rf (rn - (ifM fR rf 0 0))) Z0.2.2.2) (Z0.1 + 1) 0 (64 * (Z0.1 + 1)) 0 rd).2) 0 (va_up Z0.2.1 Z0.1 ((rg + 1) % 2)) (whG Z0.1 (rf + 1) rg rx (va_up fN rf (rz + 1)) (va_up fF rf y) (va_up fB rf (((rn - (ifM fR rf 0 0)) + 2) / 3)) (va_up fR rf (rn - (ifM fR rf 0 0))) Z0.2.2.2) (64 * Z0.1) ro rn K.1 K.2 (rf + 1) (va_up fN rf (rz + 1)) (va_up fF rf y) (va_up fB rf (((rn - (ifM fR rf 0 0)) + 2) / 3)) (va_up fR rf (rn - (ifM fR rf 0 0))) 0 lB lR 0 rg rx (rz + 1)) := hD
                    refine lv_aload_n hx hb dX6_commit_250 rfl (lv_at hl 1 rfl) ?_
                    refine lv_dup hx hb dX6_commit_251 rfl ?_
                    refine va_get (D := (dC, dI)) (ci := 6) (v := .long (lN rg)) (C := RX6) (T := TX6) (N := 22) hx hb hts in_X6 hown hK hP 0 rfl rfl 19 (by decide) f83 (fun _ h9 => h9) rfl dX6_commit_252 ?_
                    refine lv_lconst (v := lN 1) hx hb dX6_commit_255 rfl ?_
                    refine lv_ladd hx hb dX6_commit_256 ?_
                    refine x_topl (y := lN (rg + 1)) (lN_add _ _) ?_
                    refine va_put (D := (dC, dI)) (ci := 6) (v := .long (lN (rg + 1))) (ty := .long) (C := RX6) (T := TX6) (N := 22) hx hb hts in_X6 tyX6 tyX6_ok nmX6 hown hK hP hD hS 0 rfl rfl 19 (by decide) f83 (fun _ h9 => h9) rfl (by decide +kernel) rfl rfl (Nat.le_of_ble_eq_true rfl) dX6_commit_257 (fun H locs hP hD hS => ?_)
                    have hP : va_P (dC, dI) vwCl (wM b cB cI cL rb ((prO (va_up Z0.2.1 Z0.1 ((rg + 1) % 2)) (whG Z0.1 (rf + 1) rg rx (va_up fN rf (rz + 1)) (va_up fF rf y) (va_up fB rf (((rn - (ifM fR rf 0 0)) + 2) / 3)) (va_up fR rf (rn - (ifM fR rf 0 0))) Z0.2.2.2) (Z0.1 + 1) 0 (64 * (Z0.1 + 1)) 0 rd).2) 0 (va_up Z0.2.1 Z0.1 ((rg + 1) % 2)) (whG Z0.1 (rf + 1) rg rx (va_up fN rf (rz + 1)) (va_up fF rf y) (va_up fB rf (((rn - (ifM fR rf 0 0)) + 2) / 3)) (va_up fR rf (rn - (ifM fR rf 0 0))) Z0.2.2.2) (64 * Z0.1) ro rn K.1 K.2 (rf + 1) (va_up fN rf (rz + 1)) (va_up fF rf y) (va_up fB rf (((rn - (ifM fR rf 0 0)) + 2) / 3)) (va_up fR rf (rn - (ifM fR rf 0 0))) 0 lB lR 0 (rg + 1) rx (rz + 1)) H := hP
                    have hD : va_D A (wM b cB cI cL rb ((prO (va_up Z0.2.1 Z0.1 ((rg + 1) % 2)) (whG Z0.1 (rf + 1) rg rx (va_up fN rf (rz + 1)) (va_up fF rf y) (va_up fB rf (((rn - (ifM fR rf 0 0)) + 2) / 3)) (va_up fR rf (rn - (ifM fR rf 0 0))) Z0.2.2.2) (Z0.1 + 1) 0 (64 * (Z0.1 + 1)) 0 rd).2) 0 (va_up Z0.2.1 Z0.1 ((rg + 1) % 2)) (whG Z0.1 (rf + 1) rg rx (va_up fN rf (rz + 1)) (va_up fF rf y) (va_up fB rf (((rn - (ifM fR rf 0 0)) + 2) / 3)) (va_up fR rf (rn - (ifM fR rf 0 0))) Z0.2.2.2) (64 * Z0.1) ro rn K.1 K.2 (rf + 1) (va_up fN rf (rz + 1)) (va_up fF rf y) (va_up fB rf (((rn - (ifM fR rf 0 0)) + 2) / 3)) (va_up fR rf (rn - (ifM fR rf 0 0))) 0 lB lR 0 (rg + 1) rx (rz + 1)) := hD
                    refine lv_aload_n hx hb dX6_commit_260 rfl (lv_at hl 1 rfl) ?_
                    refine va_get (D := (dC, dI)) (ci := 6) (v := .long (lN (rg + 1))) (C := RX6) (T := TX6) (N := 22) hx hb hts in_X6 hown hK hP 0 rfl rfl 19 (by decide) f83 (fun _ h9 => h9) rfl dX6_commit_261 ?_
                    refine lv_l2i (v := nI (rg + 1)) hx hb dX6_commit_264 (lN_i _) ?_
                    exact hret dX6_commit_265 (by rfl) hP hD hS
                  · exact absurd ((pk_lLE (by omega) (by omega)).mpr hnq) c198
                · refine lv_aload_n hx hb dX6_commit_111 rfl (lv_at hl 0 rfl) ?_
                  refine lv_iload hx hb dX6_commit_112 (lv_at hl 7 rfl) ?_
                  refine lv_iload hx hb dX6_commit_114 (lv_at hl 8 rfl) ?_
                  refine lv_iload hx hb dX6_commit_116 (lv_at hl 6 rfl) ?_
                  refine lv_iload_n hx hb dX6_commit_118 rfl (lv_at hl 3 rfl) ?_
                  refine lv_iload hx hb dX6_commit_119 (lv_at hl 5 rfl) ?_
                  refine x_callv (va_runV (As := [.int (nI y), .int (nI p1), .int (nI (((rn - (ifM fR rf 0 0)) + 2) / 3)), .int (nI (ifM fR rf 0 0)), .int (nI (rn - (ifM fR rf 0 0)))]) (rest := []) ⟨hx, hb, hml, hown, hts⟩ (c_M_writesFile i104_3 i104_2 (by omega) (by omega) y p1 (((rn - (ifM fR rf 0 0)) + 2) / 3) (ifM fR rf 0 0) (rn - (ifM fR rf 0 0)) (by omega) (by omega) (by omega) (by omega) (by omega)) (cwV 5 hts (tbV tw_734 tw_736 tw_71 tw_91 tw_737) rfl rfl rfl (by decide +kernel) ⟨Nat.le_of_ble_eq_true rfl, Nat.le_of_ble_eq_true rfl⟩) ⟨y_blind, va_recv hK hP (ci := 6) (q0 := 0) rfl rfl, y_pre hK hP hD⟩ rfl rfl hl.1 rfl (lv_room (Nat.le_of_ble_eq_true rfl)) dX6_commit_121 ⟨Nat.zero_le _, Nat.zero_le _⟩) hS (fun H locs hP hD hS => ?_)
                  have hP : va_P (dC, dI) vwCl (wM b cB cI cL rb rd (Z'.1 + 1) (va_up Z'.2.1 Z'.1 (y + p1)) (wfG Z'.1 y p1 (((rn - (ifM fR rf 0 0)) + 2) / 3) (ifM fR rf 0 0) (rn - (ifM fR rf 0 0)) rz K.1 K.2 Z'.2.2.2) (64 * Z'.1) ro rn K.1 K.2 rf fN fF fB fR rl lB lR rt rg rx rz) H := hP
                  have hD : va_D A (wM b cB cI cL rb rd (Z'.1 + 1) (va_up Z'.2.1 Z'.1 (y + p1)) (wfG Z'.1 y p1 (((rn - (ifM fR rf 0 0)) + 2) / 3) (ifM fR rf 0 0) (rn - (ifM fR rf 0 0)) rz K.1 K.2 Z'.2.2.2) (64 * Z'.1) ro rn K.1 K.2 rf fN fF fB fR rl lB lR rt rg rx rz) := hD
                  refine lv_iinc (v := nI (p1 + 1)) (lv' := [(8, .int (nI (p1 + 1))), (0, .ref (b 0)), (1, .int (nI n)), (2, .int (nI (ifM fR rf 0 0))), (3, .int (nI (ifM fR rf 0 0))), (4, .int (nI rf)), (5, .int (nI (rn - (ifM fR rf 0 0)))), (6, .int (nI (((rn - (ifM fR rf 0 0)) + 2) / 3))), (7, .int (nI y))]) hx hb dX6_commit_124 hl (k := 8) rfl (x_inc _) (by decide) rfl (fun ls hl => ?_)
                  refine lv_goto (tgt := 104) hx hb dX6_commit_127 (by decide) ?_
                  have e1 : (Z'.1 + 1) = ((cqS y (((rn - (ifM fR rf 0 0)) + 2) / 3) (ifM fR rf 0 0) (rn - (ifM fR rf 0 0)) rz K.1 K.2 p1 Z').1) := by rfl
                  have e2 : (va_up Z'.2.1 Z'.1 (y + p1)) = ((cqS y (((rn - (ifM fR rf 0 0)) + 2) / 3) (ifM fR rf 0 0) (rn - (ifM fR rf 0 0)) rz K.1 K.2 p1 Z').2.1) := by rfl
                  have e3 : (wfG Z'.1 y p1 (((rn - (ifM fR rf 0 0)) + 2) / 3) (ifM fR rf 0 0) (rn - (ifM fR rf 0 0)) rz K.1 K.2 Z'.2.2.2) = ((cqS y (((rn - (ifM fR rf 0 0)) + 2) / 3) (ifM fR rf 0 0) (rn - (ifM fR rf 0 0)) rz K.1 K.2 p1 Z').2.2.2) := by rfl
                  have e4 : (64 * Z'.1) = ((cqS y (((rn - (ifM fR rf 0 0)) + 2) / 3) (ifM fR rf 0 0) (rn - (ifM fR rf 0 0)) rz K.1 K.2 p1 Z').2.2.1) := by rfl
                  exact ih104 (p1 + 1) (cqS y (((rn - (ifM fR rf 0 0)) + 2) / 3) (ifM fR rf 0 0) (rn - (ifM fR rf 0 0)) rz K.1 K.2 p1 Z') (by omega) (by omega) (by show Z'.1 + 1 = rq + (p1 + 1); omega) (by exact va_up_lt i104_2 (by omega)) (by exact wfG_lt i104_3) (by have h := i104_4; rw [show (((rn - (ifM fR rf 0 0)) + 2) / 3) - p1 = ((((rn - (ifM fR rf 0 0)) + 2) / 3) - (p1 + 1)) + 1 by omega, cqL] at h; exact h) _ _ (x_wP (by rw [← e1, ← e2, e3, ← e4]) hP) (x_wD (by rw [← e1, ← e2, e3, ← e4]) hD) hS ls (lv_sub hl [1, 2, 3, 4, 5, 6, 7, 8, 0] rfl)
            have e5 : rq = ((rq, rQ, ra, rw).1) := by rfl
            have e6 : rQ = ((rq, rQ, ra, rw).2.1) := by rfl
            have e7 : rw = ((rq, rQ, ra, rw).2.2.2) := by rfl
            have e8 : ra = ((rq, rQ, ra, rw).2.2.1) := by rfl
            exact L104 ((((rn - (ifM fR rf 0 0)) + 2) / 3) - 0 + 1) 0 (rq, rQ, ra, rw) (by omega) (by omega) (by rfl) (by exact hrQ) (by exact hrw) (by exact hZ0) _ _ (x_wP (by rw [← e5, ← e6, ← e7, ← e8]) hP) (x_wD (by rw [← e5, ← e6, ← e7, ← e8]) hD) hS ls (lv_sub hl [7, 8, 6, 5, 4, 3, 2, 1, 0] rfl)
          · exact absurd c51 (by omega)
        · exact absurd c37 (by omega)
      · exact absurd c27 (by omega)
    · exact absurd (ho.symm.trans c11) (by decide)
  · exact absurd (x_m1le hn1) c2

set_option maxHeartbeats 4000000 in
set_option maxRecDepth 100000 in
theorem c_M_commitPA {l : Launch} {dC : Nat → ClassId} {dI : Nat → Nat → Nat} {A : Nat → Prop} {b : Nat → Nat} {cB cI cL : ClassId} {rb : Nat} {rd : Nat → Nat} {rq : Nat} {rQ rw : Nat → Nat} {ra : Nat} {ro : Bool} {rn : Nat} {rk rv : Nat → Int64} {rf : Nat} {fN fF fB fR : Nat → Nat} {rl : Nat} {lB lR : Nat → Nat} {rt rg rx rz : Nat} (hrb : rb ≤ 64) (hrd : ∀ j, rd j < 256) (hrw : ∀ j, rw j < 256) (hrQ : ∀ j, rQ j < 64) (hrq : rq ≤ 128) (hrn : rn ≤ 210) (hrf : rf ≤ 5) (hfN : ∀ j, fN j < 1048576) (hfF : ∀ j, fF j < 1048576) (hfB : ∀ j, fB j < 1048576) (hfR : ∀ j, fR j < 1048576) (hrl : rl ≤ 62) (hlB : ∀ j, lB j < 1048576) (hrt : rt ≤ rn ∧ rt ≤ 3) (hrg : rg < 2 ^ 30) (hrx : rx < 2 ^ 30 ∧ rt ≤ rx) (hrz : rz < 2 ^ 18) (y : Nat) (K : (Nat → Int64) × (Nat → Int64)) (Z0 : WQ) (n : Nat) (hn1 : n < 2 ^ 31) (hnq : n < 64 * (Z0.1 + 1)) (ho : ro = true) (hl0 : ifM fR rf 0 0 < rn) (hm : rf < 5) (hfr : frM (usM rf fF fB rl lB) (((rn - (ifM fR rf 0 0)) + 2) / 3) (rb - 2) 2 0 = some y) (hq1 : rq + (((rn - (ifM fR rf 0 0)) + 2) / 3) < 128) (hK0 : srO (ifM fR rf 0 0) (rn - ((ifM fR rf 0 0) + 1)) ((ifM fR rf 0 0) + 1) (rk, rv) = K) (hZ0 : cqL y (((rn - (ifM fR rf 0 0)) + 2) / 3) (ifM fR rf 0 0) (rn - (ifM fR rf 0 0)) rz K.1 K.2 (((rn - (ifM fR rf 0 0)) + 2) / 3) 0 (rq, rQ, ra, rw) = Z0) : Met l yX6_commit (Cond.code yX6_commit cX6_commit 10 (some .int) :: TB) { frames := 3, cells := 0, slots := 0, locals := 72 } (xPre (fun _ => True) (dC, dI) A (tyS cB cI cL) (wM b cB cI cL rb rd rq rQ rw ra ro rn rk rv rf fN fF fB fR rl lB lR rt rg rx rz) [.ref (b 0), .int (nI n)]) (xQi (dC, dI) A ((-2)) (wM b cB cI cL rb ((prO (va_up Z0.2.1 Z0.1 ((rg + 1) % 2)) (whG Z0.1 (rf + 1) rg rx (va_up fN rf (rz + 1)) (va_up fF rf y) (va_up fB rf (((rn - (ifM fR rf 0 0)) + 2) / 3)) (va_up fR rf (rn - (ifM fR rf 0 0))) Z0.2.2.2) (Z0.1 + 1) 0 n 0 rd).2) 0 (va_up Z0.2.1 Z0.1 ((rg + 1) % 2)) (whG Z0.1 (rf + 1) rg rx (va_up fN rf (rz + 1)) (va_up fF rf y) (va_up fB rf (((rn - (ifM fR rf 0 0)) + 2) / 3)) (va_up fR rf (rn - (ifM fR rf 0 0))) Z0.2.2.2) (64 * Z0.1) false 0 K.1 K.2 0 (va_up fN rf (rz + 1)) (va_up fF rf y) (va_up fB rf (((rn - (ifM fR rf 0 0)) + 2) / 3)) (va_up fR rf (rn - (ifM fR rf 0 0))) 0 lB lR 0 0 1 0)) 0 0 A := by
  refine x_ofWi (cc := cX6_commit) (maxL := 10) (by decide) rfl (Nat.le_of_ble_eq_true rfl) ?_
  intro p e s m args below meth c Q hx hb hml hts hown hK hN hP hD hS hret ls hl
  have hl : lv_has ls 10 [(0, .ref (b 0)), (1, .int (nI n))] := hl
  have hown : s.vm.findClass RX6 = some m.cls := hown
  have hyb := frM_lt (show 0 < (((rn - (ifM fR rf 0 0)) + 2) / 3) by omega) hfr
  have hyz := frM_end (by decide) hfr
  have f105 := hts _ (List.mem_cons_of_mem _ tw_612)
  have in_X6 := (fun q hq => List.mem_cons_of_mem _ (inX6 q hq) : ∀ q ∈ wsX60, q ∈ (Cond.code yX6_commit cX6_commit 10 (some .int) :: TB))
  have f71 := hts _ (List.mem_cons_of_mem _ tw_613)
  have f74 := hts _ (List.mem_cons_of_mem _ tw_616)
  have f27 := hts _ (List.mem_cons_of_mem _ tw_617)
  have f90 := hts _ (List.mem_cons_of_mem _ tw_627)
  have f30 := hts _ (List.mem_cons_of_mem _ tw_618)
  have f33 := hts _ (List.mem_cons_of_mem _ tw_619)
  have f36 := hts _ (List.mem_cons_of_mem _ tw_620)
  have f58 := hts _ (List.mem_cons_of_mem _ tw_608)
  refine lv_iload_n hx hb dX6_commit_0 rfl (lv_at hl 1 rfl) ?_
  refine lv_iconst (v := (-1)) hx hb dX6_commit_1 (by decide) ?_
  refine lv_icmp_ge (tgt := 7) hx hb dX6_commit_2 (by decide) (fun c2 => ?_) (fun c2 => ?_)
  · refine lv_aload_n hx hb dX6_commit_7 rfl (lv_at hl 0 rfl) ?_
    refine va_get (D := (dC, dI)) (ci := 6) (v := .int (bI ro)) (C := RX6) (T := TX6) (N := 22) hx hb hts in_X6 hown hK hP 0 rfl rfl 6 (by decide) f105 (fun _ h9 => h9) rfl dX6_commit_8 ?_
    refine x_if_ne_b (tgt := 17) hx hb dX6_commit_11 (by decide) (fun c11 => ?_) (fun c11 => ?_)
    · refine lv_aload_n hx hb dX6_commit_17 rfl (lv_at hl 0 rfl) ?_
      refine x_calli (va_runV (As := []) (rest := []) ⟨hx, hb, hml, hown, hts⟩ (c_M_inFiles (by omega) hfR) (cwV 0 hts (tbV tw_726 tw_728 tw_69 tw_91 tw_729) rfl rfl rfl (by decide +kernel) ⟨Nat.le_of_ble_eq_true rfl, Nat.le_of_ble_eq_true rfl⟩) ⟨y_blind, va_recv hK hP (ci := 6) (q0 := 0) rfl rfl, y_pre hK hP hD⟩ rfl rfl hl.1 rfl (lv_room (Nat.le_of_ble_eq_true rfl)) dX6_commit_18 ⟨Nat.zero_le _, Nat.zero_le _⟩) hS (fun H locs hP hD hS => ?_)
      have hP : va_P (dC, dI) vwCl (wM b cB cI cL rb rd rq rQ rw ra ro rn rk rv rf fN fF fB fR rl lB lR rt rg rx rz) H := hP
      have hD : va_D A (wM b cB cI cL rb rd rq rQ rw ra ro rn rk rv rf fN fF fB fR rl lB lR rt rg rx rz) := hD
      have hv18 := ifM_lt hfR rf 0 0
      refine lv_istore_n (lv' := [(2, .int (nI (ifM fR rf 0 0))), (0, .ref (b 0)), (1, .int (nI n))]) hx hb dX6_commit_21 rfl hl (by decide) rfl (fun ls hl => ?_)
      refine lv_aload_n hx hb dX6_commit_22 rfl (lv_at hl 1 rfl) ?_
      refine va_get (D := (dC, dI)) (ci := 6) (v := .int (nI rn)) (C := RX6) (T := TX6) (N := 22) hx hb hts in_X6 hown hK hP 0 rfl rfl 7 (by decide) f71 (fun _ h9 => h9) rfl dX6_commit_23 ?_
      refine lv_iload_n hx hb dX6_commit_26 rfl (lv_at hl 0 rfl) ?_
      refine x_icmp_ne (tgt := 32) hx hb dX6_commit_27 (by decide) (by omega) (by omega) (fun c27 => ?_) (fun c27 => ?_)
      · refine lv_aload_n hx hb dX6_commit_32 rfl (lv_at hl 1 rfl) ?_
        refine va_get (D := (dC, dI)) (ci := 6) (v := .int (nI rf)) (C := RX6) (T := TX6) (N := 22) hx hb hts in_X6 hown hK hP 0 rfl rfl 10 (by decide) f74 (fun _ h9 => h9) rfl dX6_commit_33 ?_
        refine lv_iconst (v := nI 5) hx hb dX6_commit_36 (by decide) ?_
        refine x_icmp_ne (tgt := 44) hx hb dX6_commit_37 (by decide) (by omega) (by omega) (fun c37 => ?_) (fun c37 => ?_)
        · refine lv_iload_n hx hb dX6_commit_44 rfl (lv_at hl 0 rfl) ?_
          refine lv_istore_n (lv' := [(3, .int (nI (ifM fR rf 0 0))), (2, .int (nI (ifM fR rf 0 0))), (0, .ref (b 0)), (1, .int (nI n))]) hx hb dX6_commit_45 rfl hl (by decide) rfl (fun ls hl => ?_)
          refine lv_aload_n hx hb dX6_commit_46 rfl (lv_at hl 2 rfl) ?_
          refine va_get (D := (dC, dI)) (ci := 6) (v := .int (nI rf)) (C := RX6) (T := TX6) (N := 22) hx hb hts in_X6 hown hK hP 0 rfl rfl 10 (by decide) f74 (fun _ h9 => h9) rfl dX6_commit_47 ?_
          refine lv_iconst (v := nI 5) hx hb dX6_commit_50 (by decide) ?_
          refine x_icmp_ne (tgt := 58) hx hb dX6_commit_51 (by decide) (by omega) (by omega) (fun c51 => ?_) (fun c51 => ?_)
          · refine lv_aload_n hx hb dX6_commit_58 rfl (lv_at hl 2 rfl) ?_
            refine va_get (D := (dC, dI)) (ci := 6) (v := .int (nI rf)) (C := RX6) (T := TX6) (N := 22) hx hb hts in_X6 hown hK hP 0 rfl rfl 10 (by decide) f74 (fun _ h9 => h9) rfl dX6_commit_59 ?_
            refine lv_istore (lv' := [(4, .int (nI rf)), (3, .int (nI (ifM fR rf 0 0))), (2, .int (nI (ifM fR rf 0 0))), (0, .ref (b 0)), (1, .int (nI n))]) hx hb dX6_commit_62 hl (by decide) rfl (fun ls hl => ?_)
            refine lv_aload_n hx hb dX6_commit_64 rfl (lv_at hl 3 rfl) ?_
            refine va_get (D := (dC, dI)) (ci := 6) (v := .int (nI rn)) (C := RX6) (T := TX6) (N := 22) hx hb hts in_X6 hown hK hP 0 rfl rfl 7 (by decide) f71 (fun _ h9 => h9) rfl dX6_commit_65 ?_
            refine lv_iload_n hx hb dX6_commit_68 rfl (lv_at hl 1 rfl) ?_
            refine x_isub hx hb dX6_commit_69 (by omega) ?_
            refine lv_istore (lv' := [(5, .int (nI (rn - (ifM fR rf 0 0)))), (4, .int (nI rf)), (3, .int (nI (ifM fR rf 0 0))), (2, .int (nI (ifM fR rf 0 0))), (0, .ref (b 0)), (1, .int (nI n))]) hx hb dX6_commit_70 hl (by decide) rfl (fun ls hl => ?_)
            refine lv_iload hx hb dX6_commit_72 (lv_at hl 0 rfl) ?_
            refine lv_iconst (v := nI 2) hx hb dX6_commit_74 (by decide) ?_
            refine x_iadd hx hb dX6_commit_75 ?_
            refine lv_iconst (v := nI 3) hx hb dX6_commit_76 (by decide) ?_
            refine x_idiv hx hb dX6_commit_77 (by omega) (by omega) (by omega) ?_
            refine lv_istore (lv' := [(6, .int (nI (((rn - (ifM fR rf 0 0)) + 2) / 3))), (5, .int (nI (rn - (ifM fR rf 0 0)))), (4, .int (nI rf)), (3, .int (nI (ifM fR rf 0 0))), (2, .int (nI (ifM fR rf 0 0))), (0, .ref (b 0)), (1, .int (nI n))]) hx hb dX6_commit_78 hl (by decide) rfl (fun ls hl => ?_)
            refine lv_aload_n hx hb dX6_commit_80 rfl (lv_at hl 5 rfl) ?_
            refine lv_iload hx hb dX6_commit_81 (lv_at hl 0 rfl) ?_
            refine x_calli (va_runV (As := [.int (nI (((rn - (ifM fR rf 0 0)) + 2) / 3))]) (rest := []) ⟨hx, hb, hml, hown, hts⟩ (c_M_free (by omega) (by omega) hfF hfB (by omega) hlB (((rn - (ifM fR rf 0 0)) + 2) / 3) (by omega) (by omega)) (cwV 1 hts (tbV tw_678 tw_680 tw_61 tw_91 tw_681) rfl rfl rfl (by decide +kernel) ⟨Nat.le_of_ble_eq_true rfl, Nat.le_of_ble_eq_true rfl⟩) ⟨y_blind, va_recv hK hP (ci := 6) (q0 := 0) rfl rfl, y_pre hK hP hD⟩ rfl rfl hl.1 rfl (lv_room (Nat.le_of_ble_eq_true rfl)) dX6_commit_83 ⟨Nat.zero_le _, Nat.zero_le _⟩) hS (fun H locs hP hD hS => ?_)
            have hP : va_P (dC, dI) vwCl (wM b cB cI cL rb rd rq rQ rw ra ro rn rk rv rf fN fF fB fR rl lB lR rt rg rx rz) H := hP
            have hD : va_D A (wM b cB cI cL rb rd rq rQ rw ra ro rn rk rv rf fN fF fB fR rl lB lR rt rg rx rz) := hD
            refine lv_istore (lv' := [(7, .int (oJ (frM (usM rf fF fB rl lB) (((rn - (ifM fR rf 0 0)) + 2) / 3) (rb - 2) 2 0))), (6, .int (nI (((rn - (ifM fR rf 0 0)) + 2) / 3))), (5, .int (nI (rn - (ifM fR rf 0 0)))), (4, .int (nI rf)), (3, .int (nI (ifM fR rf 0 0))), (2, .int (nI (ifM fR rf 0 0))), (0, .ref (b 0)), (1, .int (nI n))]) hx hb dX6_commit_86 hl (by decide) rfl (fun ls hl => ?_)
            rw [hfr] at hl
            have hl : lv_has ls 10 [(7, .int (nI y)), (6, .int (nI (((rn - (ifM fR rf 0 0)) + 2) / 3))), (5, .int (nI (rn - (ifM fR rf 0 0)))), (4, .int (nI rf)), (3, .int (nI (ifM fR rf 0 0))), (2, .int (nI (ifM fR rf 0 0))), (0, .ref (b 0)), (1, .int (nI n))] := hl
            refine lv_iload hx hb dX6_commit_88 (lv_at hl 0 rfl) ?_
            refine x_if_ge (tgt := 96) hx hb dX6_commit_90 (by decide) (by omega) ?_
            refine lv_aload_n hx hb dX6_commit_96 rfl (lv_at hl 6 rfl) ?_
            refine lv_iload_n hx hb dX6_commit_97 rfl (lv_at hl 4 rfl) ?_
            refine x_callv (va_runV (As := [.int (nI (ifM fR rf 0 0))]) (rest := []) ⟨hx, hb, hml, hown, hts⟩ (c_M_sort (by omega) (ifM fR rf 0 0) (by omega)) (cwV 1 hts (tbV tw_730 tw_732 tw_70 tw_91 tw_733) rfl rfl rfl (by decide +kernel) ⟨Nat.le_of_ble_eq_true rfl, Nat.le_of_ble_eq_true rfl⟩) ⟨y_blind, va_recv hK hP (ci := 6) (q0 := 0) rfl rfl, y_pre hK hP hD⟩ rfl rfl hl.1 rfl (lv_room (Nat.le_of_ble_eq_true rfl)) dX6_commit_98 ⟨Nat.zero_le _, Nat.zero_le _⟩) hS (fun H locs hP hD hS => ?_)
            have hP : va_P (dC, dI) vwCl (wM b cB cI cL rb rd rq rQ rw ra ro rn ((srO (ifM fR rf 0 0) (rn - ((ifM fR rf 0 0) + 1)) ((ifM fR rf 0 0) + 1) (rk, rv)).1) ((srO (ifM fR rf 0 0) (rn - ((ifM fR rf 0 0) + 1)) ((ifM fR rf 0 0) + 1) (rk, rv)).2) rf fN fF fB fR rl lB lR rt rg rx rz) H := hP
            have hD : va_D A (wM b cB cI cL rb rd rq rQ rw ra ro rn ((srO (ifM fR rf 0 0) (rn - ((ifM fR rf 0 0) + 1)) ((ifM fR rf 0 0) + 1) (rk, rv)).1) ((srO (ifM fR rf 0 0) (rn - ((ifM fR rf 0 0) + 1)) ((ifM fR rf 0 0) + 1) (rk, rv)).2) rf fN fF fB fR rl lB lR rt rg rx rz) := hD
            rw [hK0] at hP hD
            refine lv_iconst (v := nI 0) hx hb dX6_commit_101 (by decide) ?_
            refine lv_istore (lv' := [(8, .int (nI 0)), (7, .int (nI y)), (6, .int (nI (((rn - (ifM fR rf 0 0)) + 2) / 3))), (5, .int (nI (rn - (ifM fR rf 0 0)))), (4, .int (nI rf)), (3, .int (nI (ifM fR rf 0 0))), (2, .int (nI (ifM fR rf 0 0))), (0, .ref (b 0)), (1, .int (nI n))]) hx hb dX6_commit_102 hl (by decide) rfl (fun ls hl => ?_)
            have L104 : ∀ (fu104 : Nat) (p1 : Nat) (Z' : WQ), ((((rn - (ifM fR rf 0 0)) + 2) / 3) - p1 < fu104) → (p1 ≤ (((rn - (ifM fR rf 0 0)) + 2) / 3)) → (Z'.1 = rq + p1) → (∀ q, Z'.2.1 q < 64) → (∀ q, Z'.2.2.2 q < 256) → (cqL y (((rn - (ifM fR rf 0 0)) + 2) / 3) (ifM fR rf 0 0) (rn - (ifM fR rf 0 0)) rz K.1 K.2 ((((rn - (ifM fR rf 0 0)) + 2) / 3) - p1) p1 Z' = Z0) → ∀ (H : Heap) (locs : List Loc), va_P (dC, dI) vwCl (wM b cB cI cL rb rd Z'.1 Z'.2.1 Z'.2.2.2 Z'.2.2.1 ro rn K.1 K.2 rf fN fF fB fR rl lB lR rt rg rx rz) H → va_D A (wM b cB cI cL rb rd Z'.1 Z'.2.1 Z'.2.2.2 Z'.2.2.1 ro rn K.1 K.2 rf fN fF fB fR rl lB lR rt rg rx rz) → va_S A s.heap H locs → ∀ (ls : Array Slot), lv_has ls 10 [(0, .ref (b 0)), (1, .int (nI n)), (2, .int (nI (ifM fR rf 0 0))), (3, .int (nI (ifM fR rf 0 0))), (4, .int (nI rf)), (5, .int (nI (rn - (ifM fR rf 0 0)))), (6, .int (nI (((rn - (ifM fR rf 0 0)) + 2) / 3))), (7, .int (nI y)), (8, .int (nI p1))] → W p l e { frames := 3, cells := 0, slots := 0, locals := 72 } s m args below meth c H locs 0 0 Q (F0 m 104 ls []) := by
              intro fu104
              induction fu104 with
              | zero => intro p1 Z' hm; exact absurd hm (Nat.not_lt_zero _)
              | succ fu104 ih104 =>
                intro p1 Z' hm i104_0 i104_1 i104_2 i104_3 i104_4 H locs hP hD hS ls hl
                refine lv_iload hx hb dX6_commit_104 (lv_at hl 8 rfl) ?_
                refine lv_iload hx hb dX6_commit_106 (lv_at hl 6 rfl) ?_
                refine x_icmp_ge (tgt := 130) hx hb dX6_commit_108 (by decide) (by omega) (by omega) (fun c108 => ?_) (fun c108 => ?_)
                · have zz1 : Z0 = Z' := by
                    have h := i104_4
                    rw [show (((rn - (ifM fR rf 0 0)) + 2) / 3) - p1 = 0 by omega, cqL] at h
                    exact h.symm
                  subst zz1
                  have hq9 := i104_1
                  refine lv_aload_n hx hb dX6_commit_130 rfl (lv_at hl 0 rfl) ?_
                  refine va_get (D := (dC, dI)) (ci := 6) (v := .ref (b 6)) (C := RX6) (T := TX6) (N := 22) hx hb hts in_X6 hown hK hP 0 rfl rfl 11 (by decide) f27 (fun _ h9 => h9) rfl dX6_commit_131 ?_
                  refine lv_iload hx hb dX6_commit_134 (lv_at hl 4 rfl) ?_
                  refine lv_aload_n hx hb dX6_commit_136 rfl (lv_at hl 0 rfl) ?_
                  refine va_get (D := (dC, dI)) (ci := 6) (v := .int (nI rz)) (C := RX6) (T := TX6) (N := 22) hx hb hts in_X6 hown hK hP 0 rfl rfl 21 (by decide) f90 (fun _ h9 => h9) rfl dX6_commit_137 ?_
                  refine lv_iconst (v := nI 1) hx hb dX6_commit_140 (by decide) ?_
                  refine x_iadd hx hb dX6_commit_141 ?_
                  refine x_iast hx hb hK hP hD hS 6 1 rfl rfl (by omega) (by decide) dX6_commit_142 (fun H locs hP hD hS => ?_)
                  have hP : va_P (dC, dI) vwCl (wM b cB cI cL rb rd Z0.1 Z0.2.1 Z0.2.2.2 Z0.2.2.1 ro rn K.1 K.2 rf (va_up fN rf (rz + 1)) fF fB fR rl lB lR rt rg rx rz) H := hP
                  have hD : va_D A (wM b cB cI cL rb rd Z0.1 Z0.2.1 Z0.2.2.2 Z0.2.2.1 ro rn K.1 K.2 rf (va_up fN rf (rz + 1)) fF fB fR rl lB lR rt rg rx rz) := hD
                  refine lv_aload_n hx hb dX6_commit_143 rfl (lv_at hl 0 rfl) ?_
                  refine va_get (D := (dC, dI)) (ci := 6) (v := .ref (b 7)) (C := RX6) (T := TX6) (N := 22) hx hb hts in_X6 hown hK hP 0 rfl rfl 12 (by decide) f30 (fun _ h9 => h9) rfl dX6_commit_144 ?_
                  refine lv_iload hx hb dX6_commit_147 (lv_at hl 4 rfl) ?_
                  refine lv_iload hx hb dX6_commit_149 (lv_at hl 7 rfl) ?_
                  refine x_iast hx hb hK hP hD hS 7 1 rfl rfl (by omega) (by decide) dX6_commit_151 (fun H locs hP hD hS => ?_)
                  have hP : va_P (dC, dI) vwCl (wM b cB cI cL rb rd Z0.1 Z0.2.1 Z0.2.2.2 Z0.2.2.1 ro rn K.1 K.2 rf (va_up fN rf (rz + 1)) (va_up fF rf y) fB fR rl lB lR rt rg rx rz) H := hP
                  have hD : va_D A (wM b cB cI cL rb rd Z0.1 Z0.2.1 Z0.2.2.2 Z0.2.2.1 ro rn K.1 K.2 rf (va_up fN rf (rz + 1)) (va_up fF rf y) fB fR rl lB lR rt rg rx rz) := hD
                  refine lv_aload_n hx hb dX6_commit_152 rfl (lv_at hl 0 rfl) ?_
                  refine va_get (D := (dC, dI)) (ci := 6) (v := .ref (b 8)) (C := RX6) (T := TX6) (N := 22) hx hb hts in_X6 hown hK hP 0 rfl rfl 13 (by decide) f33 (fun _ h9 => h9) rfl dX6_commit_153 ?_
                  refine lv_iload hx hb dX6_commit_156 (lv_at hl 4 rfl) ?_
                  refine lv_iload hx hb dX6_commit_158 (lv_at hl 6 rfl) ?_
                  refine x_iast hx hb hK hP hD hS 8 1 rfl rfl (by omega) (by decide) dX6_commit_160 (fun H locs hP hD hS => ?_)
                  have hP : va_P (dC, dI) vwCl (wM b cB cI cL rb rd Z0.1 Z0.2.1 Z0.2.2.2 Z0.2.2.1 ro rn K.1 K.2 rf (va_up fN rf (rz + 1)) (va_up fF rf y) (va_up fB rf (((rn - (ifM fR rf 0 0)) + 2) / 3)) fR rl lB lR rt rg rx rz) H := hP
                  have hD : va_D A (wM b cB cI cL rb rd Z0.1 Z0.2.1 Z0.2.2.2 Z0.2.2.1 ro rn K.1 K.2 rf (va_up fN rf (rz + 1)) (va_up fF rf y) (va_up fB rf (((rn - (ifM fR rf 0 0)) + 2) / 3)) fR rl lB lR rt rg rx rz) := hD
                  refine lv_aload_n hx hb dX6_commit_161 rfl (lv_at hl 0 rfl) ?_
                  refine va_get (D := (dC, dI)) (ci := 6) (v := .ref (b 9)) (C := RX6) (T := TX6) (N := 22) hx hb hts in_X6 hown hK hP 0 rfl rfl 14 (by decide) f36 (fun _ h9 => h9) rfl dX6_commit_162 ?_
                  refine lv_iload hx hb dX6_commit_165 (lv_at hl 4 rfl) ?_
                  refine lv_iload hx hb dX6_commit_167 (lv_at hl 5 rfl) ?_
                  refine x_iast hx hb hK hP hD hS 9 1 rfl rfl (by omega) (by decide) dX6_commit_169 (fun H locs hP hD hS => ?_)
                  have hP : va_P (dC, dI) vwCl (wM b cB cI cL rb rd Z0.1 Z0.2.1 Z0.2.2.2 Z0.2.2.1 ro rn K.1 K.2 rf (va_up fN rf (rz + 1)) (va_up fF rf y) (va_up fB rf (((rn - (ifM fR rf 0 0)) + 2) / 3)) (va_up fR rf (rn - (ifM fR rf 0 0))) rl lB lR rt rg rx rz) H := hP
                  have hD : va_D A (wM b cB cI cL rb rd Z0.1 Z0.2.1 Z0.2.2.2 Z0.2.2.1 ro rn K.1 K.2 rf (va_up fN rf (rz + 1)) (va_up fF rf y) (va_up fB rf (((rn - (ifM fR rf 0 0)) + 2) / 3)) (va_up fR rf (rn - (ifM fR rf 0 0))) rl lB lR rt rg rx rz) := hD
                  refine lv_aload_n hx hb dX6_commit_170 rfl (lv_at hl 0 rfl) ?_
                  refine lv_iload hx hb dX6_commit_171 (lv_at hl 4 rfl) ?_
                  refine lv_iconst (v := nI 1) hx hb dX6_commit_173 (by decide) ?_
                  refine x_iadd hx hb dX6_commit_174 ?_
                  refine x_callv (va_runV (As := [.int (nI (rf + 1))]) (rest := []) ⟨hx, hb, hml, hown, hts⟩ (c_M_writesHead i104_3 i104_2 (va_up_lt hfN (by omega)) (va_up_lt hfF (by omega)) (va_up_lt hfB (by omega)) (va_up_lt hfR (by omega)) (by omega) (by omega) (rf + 1) (by omega) (by omega)) (cwV 1 hts (tbV tw_739 tw_741 tw_72 tw_91 tw_742) rfl rfl rfl (by decide +kernel) ⟨Nat.le_of_ble_eq_true rfl, Nat.le_of_ble_eq_true rfl⟩) ⟨y_blind, va_recv hK hP (ci := 6) (q0 := 0) rfl rfl, y_pre hK hP hD⟩ rfl rfl hl.1 rfl (lv_room (Nat.le_of_ble_eq_true rfl)) dX6_commit_175 ⟨Nat.zero_le _, Nat.zero_le _⟩) hS (fun H locs hP hD hS => ?_)
                  have hP : va_P (dC, dI) vwCl (wM b cB cI cL rb rd (Z0.1 + 1) (va_up Z0.2.1 Z0.1 ((rg + 1) % 2)) (whG Z0.1 (rf + 1) rg rx (va_up fN rf (rz + 1)) (va_up fF rf y) (va_up fB rf (((rn - (ifM fR rf 0 0)) + 2) / 3)) (va_up fR rf (rn - (ifM fR rf 0 0))) Z0.2.2.2) (64 * Z0.1) ro rn K.1 K.2 rf (va_up fN rf (rz + 1)) (va_up fF rf y) (va_up fB rf (((rn - (ifM fR rf 0 0)) + 2) / 3)) (va_up fR rf (rn - (ifM fR rf 0 0))) rl lB lR rt rg rx rz) H := hP
                  have hD : va_D A (wM b cB cI cL rb rd (Z0.1 + 1) (va_up Z0.2.1 Z0.1 ((rg + 1) % 2)) (whG Z0.1 (rf + 1) rg rx (va_up fN rf (rz + 1)) (va_up fF rf y) (va_up fB rf (((rn - (ifM fR rf 0 0)) + 2) / 3)) (va_up fR rf (rn - (ifM fR rf 0 0))) Z0.2.2.2) (64 * Z0.1) ro rn K.1 K.2 rf (va_up fN rf (rz + 1)) (va_up fF rf y) (va_up fB rf (((rn - (ifM fR rf 0 0)) + 2) / 3)) (va_up fR rf (rn - (ifM fR rf 0 0))) rl lB lR rt rg rx rz) := hD
                  refine lv_ldc2 (v := lN 64) hx hb hown (hts _ (List.mem_cons_of_mem _ tw_598)) dX6_commit_178 ?_
                  refine lv_aload_n hx hb dX6_commit_181 rfl (lv_at hl 0 rfl) ?_
                  refine va_get (D := (dC, dI)) (ci := 6) (v := .int (nI (Z0.1 + 1))) (C := RX6) (T := TX6) (N := 22) hx hb hts in_X6 hown hK hP 0 rfl rfl 2 (by decide) f58 (fun _ h9 => h9) rfl dX6_commit_182 ?_
                  refine lv_i2l (v := lN (Z0.1 + 1)) hx hb dX6_commit_185 (nI_l (by omega)) ?_
                  refine lv_lmul hx hb dX6_commit_186 ?_
                  refine x_topl (y := lN (64 * (Z0.1 + 1))) (lN_mul _ _) ?_
                  refine lv_lstore (lv' := [(8, .long (lN (64 * (Z0.1 + 1)))), (0, .ref (b 0)), (1, .int (nI n)), (2, .int (nI (ifM fR rf 0 0))), (3, .int (nI (ifM fR rf 0 0))), (4, .int (nI rf)), (5, .int (nI (rn - (ifM fR rf 0 0)))), (6, .int (nI (((rn - (ifM fR rf 0 0)) + 2) / 3))), (7, .int (nI y))]) hx hb dX6_commit_187 hl (by decide) rfl (fun ls hl => ?_)
                  refine lv_iload_n hx hb dX6_commit_189 rfl (lv_at hl 2 rfl) ?_
                  refine x_if_lt (tgt := 215) hx hb dX6_commit_190 (by decide) (by omega) ?_
                  refine lv_iload_n hx hb dX6_commit_193 rfl (lv_at hl 2 rfl) ?_
                  refine lv_i2l (v := lN n) hx hb dX6_commit_194 (nI_l (by omega)) ?_
                  refine lv_lload hx hb dX6_commit_195 (lv_at hl 0 rfl) ?_
                  refine W.lcmp hx hb dX6_commit_197 ?_
                  refine x_lif_ge (tgt := 215) hx hb dX6_commit_198 (by decide) (fun c198 => ?_) (fun c198 => ?_)
                  · exact absurd ((pk_lLE (by omega) (by omega)).mp c198) (by omega)
                  · refine lv_aload_n hx hb dX6_commit_201 rfl (lv_at hl 1 rfl) ?_
                    refine lv_iload_n hx hb dX6_commit_202 rfl (lv_at hl 2 rfl) ?_
                    refine lv_i2l (v := lN n) hx hb dX6_commit_203 (nI_l (by omega)) ?_
                    refine x_calli (va_runV (As := [.long (lN n)]) (rest := []) ⟨hx, hb, hml, hown, hts⟩ (c_M_pours hrd (whG_lt i104_3) (va_up_lt i104_2 (by omega)) (by omega) n (by omega)) (cwV 1 hts (tbV tw_718 tw_720 tw_68 tw_91 tw_721) rfl rfl rfl (by decide +kernel) ⟨Nat.le_of_ble_eq_true rfl, Nat.le_of_ble_eq_true rfl⟩) ⟨y_blind, va_recv hK hP (ci := 6) (q0 := 0) rfl rfl, y_pre hK hP hD⟩ rfl rfl hl.1 rfl (lv_room (Nat.le_of_ble_eq_true rfl)) dX6_commit_204 ⟨Nat.zero_le _, Nat.zero_le _⟩) hS (fun H locs hP hD hS => ?_)
                    have hP : va_P (dC, dI) vwCl (wM b cB cI cL rb ((prO (va_up Z0.2.1 Z0.1 ((rg + 1) % 2)) (whG Z0.1 (rf + 1) rg rx (va_up fN rf (rz + 1)) (va_up fF rf y) (va_up fB rf (((rn - (ifM fR rf 0 0)) + 2) / 3)) (va_up fR rf (rn - (ifM fR rf 0 0))) Z0.2.2.2) (Z0.1 + 1) 0 n 0 rd).2) 0 (va_up Z0.2.1 Z0.1 ((rg + 1) % 2)) (whG Z0.1 (rf + 1) rg rx (va_up fN rf (rz + 1)) (va_up fF rf y) (va_up fB rf (((rn - (ifM fR rf 0 0)) + 2) / 3)) (va_up fR rf (rn - (ifM fR rf 0 0))) Z0.2.2.2) (64 * Z0.1) ro rn K.1 K.2 rf (va_up fN rf (rz + 1)) (va_up fF rf y) (va_up fB rf (((rn - (ifM fR rf 0 0)) + 2) / 3)) (va_up fR rf (rn - (ifM fR rf 0 0))) rl lB lR rt rg rx rz) H := hP
                    have hD : va_D A (wM b cB cI cL rb ((prO (va_up Z0.2.1 Z0.1 ((rg + 1) % 2)) (whG Z0.1 (rf + 1) rg rx (va_up fN rf (rz + 1)) (va_up fF rf y) (va_up fB rf (((rn - (ifM fR rf 0 0)) + 2) / 3)) (va_up fR rf (rn - (ifM fR rf 0 0))) Z0.2.2.2) (Z0.1 + 1) 0 n 0 rd).2) 0 (va_up Z0.2.1 Z0.1 ((rg + 1) % 2)) (whG Z0.1 (rf + 1) rg rx (va_up fN rf (rz + 1)) (va_up fF rf y) (va_up fB rf (((rn - (ifM fR rf 0 0)) + 2) / 3)) (va_up fR rf (rn - (ifM fR rf 0 0))) Z0.2.2.2) (64 * Z0.1) ro rn K.1 K.2 rf (va_up fN rf (rz + 1)) (va_up fF rf y) (va_up fB rf (((rn - (ifM fR rf 0 0)) + 2) / 3)) (va_up fR rf (rn - (ifM fR rf 0 0))) rl lB lR rt rg rx rz) := hD
                    refine lv_pop hx hb dX6_commit_207 rfl ?_
                    refine lv_aload_n hx hb dX6_commit_208 rfl (lv_at hl 1 rfl) ?_
                    refine x_callv (va_runV (As := []) (rest := []) ⟨hx, hb, hml, hown, hts⟩ (c_M_closes) (cwV 0 hts (tbV tw_744 tw_746 tw_73 tw_91 tw_747) rfl rfl rfl (by decide +kernel) ⟨Nat.le_of_ble_eq_true rfl, Nat.le_of_ble_eq_true rfl⟩) ⟨y_blind, va_recv hK hP (ci := 6) (q0 := 0) rfl rfl, y_pre hK hP hD⟩ rfl rfl hl.1 rfl (lv_room (Nat.le_of_ble_eq_true rfl)) dX6_commit_209 ⟨Nat.zero_le _, Nat.zero_le _⟩) hS (fun H locs hP hD hS => ?_)
                    have hP : va_P (dC, dI) vwCl (wM b cB cI cL rb ((prO (va_up Z0.2.1 Z0.1 ((rg + 1) % 2)) (whG Z0.1 (rf + 1) rg rx (va_up fN rf (rz + 1)) (va_up fF rf y) (va_up fB rf (((rn - (ifM fR rf 0 0)) + 2) / 3)) (va_up fR rf (rn - (ifM fR rf 0 0))) Z0.2.2.2) (Z0.1 + 1) 0 n 0 rd).2) 0 (va_up Z0.2.1 Z0.1 ((rg + 1) % 2)) (whG Z0.1 (rf + 1) rg rx (va_up fN rf (rz + 1)) (va_up fF rf y) (va_up fB rf (((rn - (ifM fR rf 0 0)) + 2) / 3)) (va_up fR rf (rn - (ifM fR rf 0 0))) Z0.2.2.2) (64 * Z0.1) false 0 K.1 K.2 0 (va_up fN rf (rz + 1)) (va_up fF rf y) (va_up fB rf (((rn - (ifM fR rf 0 0)) + 2) / 3)) (va_up fR rf (rn - (ifM fR rf 0 0))) 0 lB lR 0 0 1 0) H := hP
                    have hD : va_D A (wM b cB cI cL rb ((prO (va_up Z0.2.1 Z0.1 ((rg + 1) % 2)) (whG Z0.1 (rf + 1) rg rx (va_up fN rf (rz + 1)) (va_up fF rf y) (va_up fB rf (((rn - (ifM fR rf 0 0)) + 2) / 3)) (va_up fR rf (rn - (ifM fR rf 0 0))) Z0.2.2.2) (Z0.1 + 1) 0 n 0 rd).2) 0 (va_up Z0.2.1 Z0.1 ((rg + 1) % 2)) (whG Z0.1 (rf + 1) rg rx (va_up fN rf (rz + 1)) (va_up fF rf y) (va_up fB rf (((rn - (ifM fR rf 0 0)) + 2) / 3)) (va_up fR rf (rn - (ifM fR rf 0 0))) Z0.2.2.2) (64 * Z0.1) false 0 K.1 K.2 0 (va_up fN rf (rz + 1)) (va_up fF rf y) (va_up fB rf (((rn - (ifM fR rf 0 0)) + 2) / 3)) (va_up fR rf (rn - (ifM fR rf 0 0))) 0 lB lR 0 0 1 0) := hD
                    refine lv_bipush (v := (-2)) hx hb dX6_commit_212 (by decide) ?_
                    exact hret dX6_commit_214 (by rfl) hP hD hS
                · refine lv_aload_n hx hb dX6_commit_111 rfl (lv_at hl 0 rfl) ?_
                  refine lv_iload hx hb dX6_commit_112 (lv_at hl 7 rfl) ?_
                  refine lv_iload hx hb dX6_commit_114 (lv_at hl 8 rfl) ?_
                  refine lv_iload hx hb dX6_commit_116 (lv_at hl 6 rfl) ?_
                  refine lv_iload_n hx hb dX6_commit_118 rfl (lv_at hl 3 rfl) ?_
                  refine lv_iload hx hb dX6_commit_119 (lv_at hl 5 rfl) ?_
                  refine x_callv (va_runV (As := [.int (nI y), .int (nI p1), .int (nI (((rn - (ifM fR rf 0 0)) + 2) / 3)), .int (nI (ifM fR rf 0 0)), .int (nI (rn - (ifM fR rf 0 0)))]) (rest := []) ⟨hx, hb, hml, hown, hts⟩ (c_M_writesFile i104_3 i104_2 (by omega) (by omega) y p1 (((rn - (ifM fR rf 0 0)) + 2) / 3) (ifM fR rf 0 0) (rn - (ifM fR rf 0 0)) (by omega) (by omega) (by omega) (by omega) (by omega)) (cwV 5 hts (tbV tw_734 tw_736 tw_71 tw_91 tw_737) rfl rfl rfl (by decide +kernel) ⟨Nat.le_of_ble_eq_true rfl, Nat.le_of_ble_eq_true rfl⟩) ⟨y_blind, va_recv hK hP (ci := 6) (q0 := 0) rfl rfl, y_pre hK hP hD⟩ rfl rfl hl.1 rfl (lv_room (Nat.le_of_ble_eq_true rfl)) dX6_commit_121 ⟨Nat.zero_le _, Nat.zero_le _⟩) hS (fun H locs hP hD hS => ?_)
                  have hP : va_P (dC, dI) vwCl (wM b cB cI cL rb rd (Z'.1 + 1) (va_up Z'.2.1 Z'.1 (y + p1)) (wfG Z'.1 y p1 (((rn - (ifM fR rf 0 0)) + 2) / 3) (ifM fR rf 0 0) (rn - (ifM fR rf 0 0)) rz K.1 K.2 Z'.2.2.2) (64 * Z'.1) ro rn K.1 K.2 rf fN fF fB fR rl lB lR rt rg rx rz) H := hP
                  have hD : va_D A (wM b cB cI cL rb rd (Z'.1 + 1) (va_up Z'.2.1 Z'.1 (y + p1)) (wfG Z'.1 y p1 (((rn - (ifM fR rf 0 0)) + 2) / 3) (ifM fR rf 0 0) (rn - (ifM fR rf 0 0)) rz K.1 K.2 Z'.2.2.2) (64 * Z'.1) ro rn K.1 K.2 rf fN fF fB fR rl lB lR rt rg rx rz) := hD
                  refine lv_iinc (v := nI (p1 + 1)) (lv' := [(8, .int (nI (p1 + 1))), (0, .ref (b 0)), (1, .int (nI n)), (2, .int (nI (ifM fR rf 0 0))), (3, .int (nI (ifM fR rf 0 0))), (4, .int (nI rf)), (5, .int (nI (rn - (ifM fR rf 0 0)))), (6, .int (nI (((rn - (ifM fR rf 0 0)) + 2) / 3))), (7, .int (nI y))]) hx hb dX6_commit_124 hl (k := 8) rfl (x_inc _) (by decide) rfl (fun ls hl => ?_)
                  refine lv_goto (tgt := 104) hx hb dX6_commit_127 (by decide) ?_
                  have e1 : (Z'.1 + 1) = ((cqS y (((rn - (ifM fR rf 0 0)) + 2) / 3) (ifM fR rf 0 0) (rn - (ifM fR rf 0 0)) rz K.1 K.2 p1 Z').1) := by rfl
                  have e2 : (va_up Z'.2.1 Z'.1 (y + p1)) = ((cqS y (((rn - (ifM fR rf 0 0)) + 2) / 3) (ifM fR rf 0 0) (rn - (ifM fR rf 0 0)) rz K.1 K.2 p1 Z').2.1) := by rfl
                  have e3 : (wfG Z'.1 y p1 (((rn - (ifM fR rf 0 0)) + 2) / 3) (ifM fR rf 0 0) (rn - (ifM fR rf 0 0)) rz K.1 K.2 Z'.2.2.2) = ((cqS y (((rn - (ifM fR rf 0 0)) + 2) / 3) (ifM fR rf 0 0) (rn - (ifM fR rf 0 0)) rz K.1 K.2 p1 Z').2.2.2) := by rfl
                  have e4 : (64 * Z'.1) = ((cqS y (((rn - (ifM fR rf 0 0)) + 2) / 3) (ifM fR rf 0 0) (rn - (ifM fR rf 0 0)) rz K.1 K.2 p1 Z').2.2.1) := by rfl
                  exact ih104 (p1 + 1) (cqS y (((rn - (ifM fR rf 0 0)) + 2) / 3) (ifM fR rf 0 0) (rn - (ifM fR rf 0 0)) rz K.1 K.2 p1 Z') (by omega) (by omega) (by show Z'.1 + 1 = rq + (p1 + 1); omega) (by exact va_up_lt i104_2 (by omega)) (by exact wfG_lt i104_3) (by have h := i104_4; rw [show (((rn - (ifM fR rf 0 0)) + 2) / 3) - p1 = ((((rn - (ifM fR rf 0 0)) + 2) / 3) - (p1 + 1)) + 1 by omega, cqL] at h; exact h) _ _ (x_wP (by rw [← e1, ← e2, e3, ← e4]) hP) (x_wD (by rw [← e1, ← e2, e3, ← e4]) hD) hS ls (lv_sub hl [1, 2, 3, 4, 5, 6, 7, 8, 0] rfl)
            have e5 : rq = ((rq, rQ, ra, rw).1) := by rfl
            have e6 : rQ = ((rq, rQ, ra, rw).2.1) := by rfl
            have e7 : rw = ((rq, rQ, ra, rw).2.2.2) := by rfl
            have e8 : ra = ((rq, rQ, ra, rw).2.2.1) := by rfl
            exact L104 ((((rn - (ifM fR rf 0 0)) + 2) / 3) - 0 + 1) 0 (rq, rQ, ra, rw) (by omega) (by omega) (by rfl) (by exact hrQ) (by exact hrw) (by exact hZ0) _ _ (x_wP (by rw [← e5, ← e6, ← e7, ← e8]) hP) (x_wD (by rw [← e5, ← e6, ← e7, ← e8]) hD) hS ls (lv_sub hl [7, 8, 6, 5, 4, 3, 2, 1, 0] rfl)
          · exact absurd c51 (by omega)
        · exact absurd c37 (by omega)
      · exact absurd c27 (by omega)
    · exact absurd (ho.symm.trans c11) (by decide)
  · exact absurd (x_m1le hn1) c2
