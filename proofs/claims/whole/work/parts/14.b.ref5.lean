set_option maxHeartbeats 4000000 in
set_option maxRecDepth 100000 in
theorem c_M_openT {l : Launch} {dC : Nat → ClassId} {dI : Nat → Nat → Nat} {A : Nat → Prop} {b : Nat → Nat} {cB cI cL : ClassId} {rb : Nat} {rd : Nat → Nat} {rq : Nat} {rQ rw : Nat → Nat} {ra : Nat} {ro : Bool} {rn : Nat} {rk rv : Nat → Int64} {rf : Nat} {fN fF fB fR : Nat → Nat} {rl : Nat} {lB lR : Nat → Nat} {rt rg rx rz : Nat} (ho : ro = true) : Met l yX6_open (Cond.code yX6_open cX6_open 3 (some .int) :: TB) { frames := 4, cells := 0, slots := 0, locals := 95 } (xPre (fun _ => True) (dC, dI) A (tyS cB cI cL) (wM b cB cI cL rb rd rq rQ rw ra ro rn rk rv rf fN fF fB fR rl lB lR rt rg rx rz) [.ref (b 0)]) (xQi (dC, dI) A ((-5)) (wM b cB cI cL rb rd rq rQ rw ra ro rn rk rv rf fN fF fB fR rl lB lR rt rg rx rz)) 0 0 A := by
  refine x_ofWi (cc := cX6_open) (maxL := 3) (by decide) rfl (Nat.le_of_ble_eq_true rfl) ?_
  intro p e s m args below meth c Q hx hb hml hts hown hK hN hP hD hS hret ls hl
  have hl : lv_has ls 3 [(0, .ref (b 0))] := hl
  have hown : s.vm.findClass RX6 = some m.cls := hown
  have f105 := hts _ (List.mem_cons_of_mem _ tw_612)
  have in_X6 := (fun q hq => List.mem_cons_of_mem _ (inX6 q hq) : ∀ q ∈ wsX60, q ∈ (Cond.code yX6_open cX6_open 3 (some .int) :: TB))
  refine lv_aload_n hx hb dX6_open_0 rfl (lv_at hl 0 rfl) ?_
  refine va_get (D := (dC, dI)) (ci := 6) (v := .int (bI ro)) (C := RX6) (T := TX6) (N := 22) hx hb hts in_X6 hown hK hP 0 rfl rfl 6 (by decide) f105 (fun _ h9 => h9) rfl dX6_open_1 ?_
  refine x_if_eq_b (tgt := 10) hx hb dX6_open_4 (by decide) (fun c4 => ?_) (fun c4 => ?_)
  · exact absurd (ho.symm.trans c4) (by decide)
  · refine lv_bipush (v := (-5)) hx hb dX6_open_7 (by decide) ?_
    exact hret dX6_open_9 (by rfl) hP hD hS

set_option maxHeartbeats 4000000 in
set_option maxRecDepth 100000 in
theorem c_M_openN {l : Launch} {dC : Nat → ClassId} {dI : Nat → Nat → Nat} {A : Nat → Prop} {b : Nat → Nat} {cB cI cL : ClassId} {rb : Nat} {rd : Nat → Nat} {rq : Nat} {rQ rw : Nat → Nat} {ra : Nat} {ro : Bool} {rn : Nat} {rk rv : Nat → Int64} {rf : Nat} {fN fF fB fR : Nat → Nat} {rl : Nat} {lB lR : Nat → Nat} {rt rg rx rz : Nat} (hrb : rb ≤ 64) (hrd : ∀ j, rd j < 256) (hfF : ∀ j, fF j < 1048576) (hfB : ∀ j, fB j < 1048576) (hlB : ∀ j, lB j < 1048576) (ho : ro = false) (hh : hdL rd 2 0 none = none) (S0 : LSt) (hS0 : rlG rb rd fF fB 0 64 (0, rk, rv, 0, lB, lR, 1) = S0) (hk1 : 0 + 3 * lgK rb rd fF fB 0 1 ≤ 210) (hk2 : 0 + lgK rb rd fF fB 0 1 ≤ 62) : Met l yX6_open (Cond.code yX6_open cX6_open 3 (some .int) :: TB) { frames := 4, cells := 0, slots := 0, locals := 95 } (xPre (fun _ => True) (dC, dI) A (tyS cB cI cL) (wM b cB cI cL rb rd rq rQ rw ra ro rn rk rv rf fN fF fB fR rl lB lR rt rg rx rz) [.ref (b 0)]) (xQi (dC, dI) A (nI S0.1) (wM b cB cI cL rb (rlW 0 fF fB S0.2.2.2.1 S0.2.2.2.2.1 (rb - 2) 2 rd) 0 rQ rw ra true S0.1 S0.2.1 S0.2.2.1 0 fN fF fB fR S0.2.2.2.1 S0.2.2.2.2.1 S0.2.2.2.2.2.1 0 0 S0.2.2.2.2.2.2 0)) 0 0 A := by
  refine x_ofWi (cc := cX6_open) (maxL := 3) (by decide) rfl (Nat.le_of_ble_eq_true rfl) ?_
  intro p e s m args below meth c Q hx hb hml hts hown hK hN hP hD hS hret ls hl
  have hl : lv_has ls 3 [(0, .ref (b 0))] := hl
  have hown : s.vm.findClass RX6 = some m.cls := hown
  have f105 := hts _ (List.mem_cons_of_mem _ tw_612)
  have in_X6 := (fun q hq => List.mem_cons_of_mem _ (inX6 q hq) : ∀ q ∈ wsX60, q ∈ (Cond.code yX6_open cX6_open 3 (some .int) :: TB))
  have f71 := hts _ (List.mem_cons_of_mem _ tw_613)
  have f7 := hts _ (List.mem_cons_of_mem _ tw_607)
  refine lv_aload_n hx hb dX6_open_0 rfl (lv_at hl 0 rfl) ?_
  refine va_get (D := (dC, dI)) (ci := 6) (v := .int (bI ro)) (C := RX6) (T := TX6) (N := 22) hx hb hts in_X6 hown hK hP 0 rfl rfl 6 (by decide) f105 (fun _ h9 => h9) rfl dX6_open_1 ?_
  refine x_if_eq_b (tgt := 10) hx hb dX6_open_4 (by decide) (fun c4 => ?_) (fun c4 => ?_)
  · refine lv_aload_n hx hb dX6_open_10 rfl (lv_at hl 0 rfl) ?_
    refine x_callv (va_runV (As := []) (rest := []) ⟨hx, hb, hml, hown, hts⟩ (c_M_forget) (cwV 0 hts (tbV tw_602 tw_604 tw_60 tw_91 tw_605) rfl rfl rfl (by decide +kernel) ⟨Nat.le_of_ble_eq_true rfl, Nat.le_of_ble_eq_true rfl⟩) ⟨y_blind, va_recv hK hP (ci := 6) (q0 := 0) rfl rfl, y_pre hK hP hD⟩ rfl rfl hl.1 rfl (lv_room (Nat.le_of_ble_eq_true rfl)) dX6_open_11 ⟨Nat.zero_le _, Nat.zero_le _⟩) hS (fun H locs hP hD hS => ?_)
    have hP : va_P (dC, dI) vwCl (wM b cB cI cL rb rd 0 rQ rw ra ro 0 rk rv 0 fN fF fB fR 0 lB lR 0 0 1 0) H := hP
    have hD : va_D A (wM b cB cI cL rb rd 0 rQ rw ra ro 0 rk rv 0 fN fF fB fR 0 lB lR 0 0 1 0) := hD
    refine lv_iconst (v := (-1)) hx hb dX6_open_14 (by decide) ?_
    refine lv_istore_n (lv' := [(1, .int ((-1))), (0, .ref (b 0))]) hx hb dX6_open_15 rfl hl (by decide) rfl (fun ls hl => ?_)
    refine lv_iconst (v := nI 0) hx hb dX6_open_16 (by decide) ?_
    refine lv_istore_n (lv' := [(2, .int (nI 0)), (1, .int ((-1))), (0, .ref (b 0))]) hx hb dX6_open_17 rfl hl (by decide) rfl (fun ls hl => ?_)
    have L18 : ∀ (fu18 : Nat) (b1 : Nat) (o : Option Nat), (2 - b1 < fu18) → (b1 ≤ 2) → (∀ c, o = some c → c < 2) → (hdL rd (2 - b1) b1 o = hdL rd 2 0 none) → ∀ (H : Heap) (locs : List Loc), va_P (dC, dI) vwCl (wM b cB cI cL rb rd 0 rQ rw ra ro 0 rk rv 0 fN fF fB fR 0 lB lR 0 0 1 0) H → va_D A (wM b cB cI cL rb rd 0 rQ rw ra ro 0 rk rv 0 fN fF fB fR 0 lB lR 0 0 1 0) → va_S A s.heap H locs → ∀ (ls : Array Slot), lv_has ls 3 [(0, .ref (b 0)), (1, .int (oJ o)), (2, .int (nI b1))] → W p l e { frames := 4, cells := 0, slots := 0, locals := 95 } s m args below meth c H locs 0 0 Q (F0 m 18 ls []) := by
      intro fu18
      induction fu18 with
      | zero => intro b1 o hm; exact absurd hm (Nat.not_lt_zero _)
      | succ fu18 ih18 =>
        intro b1 o hm i18_0 i18_1 i18_2 H locs hP hD hS ls hl
        refine lv_iload_n hx hb dX6_open_18 rfl (lv_at hl 2 rfl) ?_
        refine lv_iconst (v := nI 2) hx hb dX6_open_19 (by decide) ?_
        refine x_icmp_ge (tgt := 77) hx hb dX6_open_20 (by decide) (by omega) (by omega) (fun c20 => ?_) (fun c20 => ?_)
        · have ho9 : o = none := by
            have h := i18_2
            rw [show 2 - b1 = 0 by omega, hdL] at h
            exact h.trans hh
          subst ho9
          refine lv_iload_n hx hb dX6_open_77 rfl (lv_at hl 1 rfl) ?_
          refine lv_if_lt (tgt := 103) hx hb dX6_open_78 (by decide) (fun c78 => ?_) (fun c78 => ?_)
          · refine lv_aload_n hx hb dX6_open_103 rfl (lv_at hl 0 rfl) ?_
            refine x_callv (va_runV (As := []) (rest := []) ⟨hx, hb, hml, hown, hts⟩ (c_M_readsLogs (by omega) hrd (by omega) hfF hfB hlB hk1 hk2 (by omega)) (cwV 0 hts (tbV tw_785 tw_787 tw_80 tw_91 tw_788) rfl rfl rfl (by decide +kernel) ⟨Nat.le_of_ble_eq_true rfl, Nat.le_of_ble_eq_true rfl⟩) ⟨y_blind, va_recv hK hP (ci := 6) (q0 := 0) rfl rfl, y_pre hK hP hD⟩ rfl rfl hl.1 rfl (lv_room (Nat.le_of_ble_eq_true rfl)) dX6_open_104 ⟨Nat.zero_le _, Nat.zero_le _⟩) hS (fun H locs hP hD hS => ?_)
            rw [hS0] at hP hD
            have hP : va_P (dC, dI) vwCl (wM b cB cI cL rb (rlW 0 fF fB S0.2.2.2.1 S0.2.2.2.2.1 (rb - 2) 2 rd) 0 rQ rw ra ro S0.1 S0.2.1 S0.2.2.1 0 fN fF fB fR S0.2.2.2.1 S0.2.2.2.2.1 S0.2.2.2.2.2.1 0 0 S0.2.2.2.2.2.2 0) H := hP
            have hD : va_D A (wM b cB cI cL rb (rlW 0 fF fB S0.2.2.2.1 S0.2.2.2.2.1 (rb - 2) 2 rd) 0 rQ rw ra ro S0.1 S0.2.1 S0.2.2.1 0 fN fF fB fR S0.2.2.2.1 S0.2.2.2.2.1 S0.2.2.2.2.2.1 0 0 S0.2.2.2.2.2.2 0) := hD
            refine lv_aload_n hx hb dX6_open_107 rfl (lv_at hl 0 rfl) ?_
            refine lv_iconst (v := nI 1) hx hb dX6_open_108 (by decide) ?_
            refine x_top (y := bI true) rfl ?_
            refine va_put (D := (dC, dI)) (ci := 6) (v := .int (bI true)) (ty := .boolean) (C := RX6) (T := TX6) (N := 22) hx hb hts in_X6 tyX6 tyX6_ok nmX6 hown hK hP hD hS 0 rfl rfl 6 (by decide) f105 (fun _ h9 => h9) rfl (by decide +kernel) (x_narZ _) (x_fitZ _) (Nat.le_of_ble_eq_true rfl) dX6_open_109 (fun H locs hP hD hS => ?_)
            have hP : va_P (dC, dI) vwCl (wM b cB cI cL rb (rlW 0 fF fB S0.2.2.2.1 S0.2.2.2.2.1 (rb - 2) 2 rd) 0 rQ rw ra true S0.1 S0.2.1 S0.2.2.1 0 fN fF fB fR S0.2.2.2.1 S0.2.2.2.2.1 S0.2.2.2.2.2.1 0 0 S0.2.2.2.2.2.2 0) H := hP
            have hD : va_D A (wM b cB cI cL rb (rlW 0 fF fB S0.2.2.2.1 S0.2.2.2.2.1 (rb - 2) 2 rd) 0 rQ rw ra true S0.1 S0.2.1 S0.2.2.1 0 fN fF fB fR S0.2.2.2.1 S0.2.2.2.2.1 S0.2.2.2.2.2.1 0 0 S0.2.2.2.2.2.2 0) := hD
            refine lv_aload_n hx hb dX6_open_112 rfl (lv_at hl 0 rfl) ?_
            refine va_get (D := (dC, dI)) (ci := 6) (v := .int (nI S0.1)) (C := RX6) (T := TX6) (N := 22) hx hb hts in_X6 hown hK hP 0 rfl rfl 7 (by decide) f71 (fun _ h9 => h9) rfl dX6_open_113 ?_
            exact hret dX6_open_116 (by rfl) hP hD hS
          · exact absurd (show oJ none < 0 by decide) c78
        · refine lv_aload_n hx hb dX6_open_23 rfl (lv_at hl 0 rfl) ?_
          refine lv_iload_n hx hb dX6_open_24 rfl (lv_at hl 2 rfl) ?_
          refine x_calli (va_runV (As := [.int (nI b1)]) (rest := []) ⟨hx, hb, hml, hown, hts⟩ (c_M_isHead hrd b1 (by omega)) (cwV 1 hts (tbV tw_756 tw_758 tw_74 tw_91 tw_759) rfl rfl rfl (by decide +kernel) ⟨Nat.le_of_ble_eq_true rfl, Nat.le_of_ble_eq_true rfl⟩) ⟨y_blind, va_recv hK hP (ci := 6) (q0 := 0) rfl rfl, y_pre hK hP hD⟩ rfl rfl hl.1 rfl (lv_room (Nat.le_of_ble_eq_true rfl)) dX6_open_25 ⟨Nat.zero_le _, Nat.zero_le _⟩) hS (fun H locs hP hD hS => ?_)
          have hP : va_P (dC, dI) vwCl (wM b cB cI cL rb rd 0 rQ rw ra ro 0 rk rv 0 fN fF fB fR 0 lB lR 0 0 1 0) H := hP
          have hD : va_D A (wM b cB cI cL rb rd 0 rQ rw ra ro 0 rk rv 0 fN fF fB fR 0 lB lR 0 0 1 0) := hD
          refine x_if_eq_b (tgt := 71) hx hb dX6_open_28 (by decide) (fun c28 => ?_) (fun c28 => ?_)
          · refine lv_iinc (v := nI (b1 + 1)) (lv' := [(2, .int (nI (b1 + 1))), (0, .ref (b 0)), (1, .int (oJ o))]) hx hb dX6_open_71 hl (k := 2) rfl (x_inc _) (by decide) rfl (fun ls hl => ?_)
            refine lv_goto (tgt := 18) hx hb dX6_open_74 (by decide) ?_
            exact ih18 (b1 + 1) o (by omega) (by omega) (by first | exact i18_1 | exact (fun c h => by have := Option.some.inj h; omega)) (by have h := i18_2; rw [show 2 - b1 = (2 - (b1 + 1)) + 1 by omega, hdL] at h; first | (rw [hd_no c28] at h; exact h) | (rw [hd_new c28] at h; exact h) | (rw [hd_gt c28 c66] at h; exact h) | (rw [hd_le c28 c66] at h; exact h)) _ _ hP hD hS ls (lv_sub hl [1, 2, 0] rfl)
          · rcases o with _ | a
            · have hl : lv_has ls 3 [(0, .ref (b 0)), (1, .int (oJ none)), (2, .int (nI b1))] := hl
              refine lv_iload_n hx hb dX6_open_31 rfl (lv_at hl 1 rfl) ?_
              refine lv_if_lt (tgt := 69) hx hb dX6_open_32 (by decide) (fun c32 => ?_) (fun c32 => ?_)
              · refine lv_iload_n hx hb dX6_open_69 rfl (lv_at hl 2 rfl) ?_
                refine lv_istore_n (lv' := [(1, .int (nI b1)), (0, .ref (b 0)), (2, .int (nI b1))]) hx hb dX6_open_70 rfl hl (by decide) rfl (fun ls hl => ?_)
                refine lv_iinc (v := nI (b1 + 1)) (lv' := [(2, .int (nI (b1 + 1))), (1, .int (nI b1)), (0, .ref (b 0))]) hx hb dX6_open_71 hl (k := 2) rfl (x_inc _) (by decide) rfl (fun ls hl => ?_)
                refine lv_goto (tgt := 18) hx hb dX6_open_74 (by decide) ?_
                have e1 : (nI b1) = (oJ (some b1)) := by rfl
                exact ih18 (b1 + 1) (some b1) (by omega) (by omega) (by first | exact i18_1 | exact (fun c h => by have := Option.some.inj h; omega)) (by have h := i18_2; rw [show 2 - b1 = (2 - (b1 + 1)) + 1 by omega, hdL] at h; first | (rw [hd_no c28] at h; exact h) | (rw [hd_new c28] at h; exact h) | (rw [hd_gt c28 c66] at h; exact h) | (rw [hd_le c28 c66] at h; exact h)) _ _ hP hD hS ls (x_lvc (l1 := [(0, .ref (b 0)), (1, .int (nI b1)), (2, .int (nI (b1 + 1)))]) (by rw [← e1]) (lv_sub hl [2, 1, 0] rfl))
              · exact absurd (show oJ none < 0 by decide) c32
            · have ha1 := i18_1 a rfl
              have hl : lv_has ls 3 [(0, .ref (b 0)), (1, .int (nI a)), (2, .int (nI b1))] := hl
              refine lv_iload_n hx hb dX6_open_31 rfl (lv_at hl 1 rfl) ?_
              refine x_if_lt (tgt := 69) hx hb dX6_open_32 (by decide) (by omega) ?_
              refine lv_aload_n hx hb dX6_open_35 rfl (lv_at hl 0 rfl) ?_
              refine va_get (D := (dC, dI)) (ci := 6) (v := .ref (b 1)) (C := RX6) (T := TX6) (N := 22) hx hb hts in_X6 hown hK hP 0 rfl rfl 1 (by decide) f7 (fun _ h9 => h9) rfl dX6_open_36 ?_
              refine lv_bipush (v := nI 64) hx hb dX6_open_39 (by decide) ?_
              refine lv_iload_n hx hb dX6_open_41 rfl (lv_at hl 2 rfl) ?_
              refine x_imul hx hb dX6_open_42 ?_
              refine lv_iconst (v := nI 2) hx hb dX6_open_43 (by decide) ?_
              refine x_iadd hx hb dX6_open_44 ?_
              refine lv_bipush (v := nI 6) hx hb dX6_open_45 (by decide) ?_
              refine x_calll (va_runS (As := [.ref (b 1), .int (nI ((64 * b1) + 2)), .int (nI 6)]) (rest := []) ⟨hx, hb, hml, hown, hts⟩ (c_M_number (k1 := 1) (t1 := 0) (g := rd) rfl (tyS_B cB cI cL) (by decide) hrd ((64 * b1) + 2) 6 (by omega) (by omega)) (va_cwS 3 hts (tbS tw_760 tw_761 tw_91 tw_762) rfl rfl rfl (by decide +kernel) ⟨Nat.le_of_ble_eq_true rfl, Nat.le_of_ble_eq_true rfl⟩) ⟨y_blind, y_pre hK hP hD⟩ rfl rfl hl.1 rfl (lv_room (Nat.le_of_ble_eq_true rfl)) dX6_open_47 ⟨Nat.zero_le _, Nat.zero_le _⟩) hS (fun H locs hP hD hS => ?_)
              have hP : va_P (dC, dI) vwCl (wM b cB cI cL rb rd 0 rQ rw ra ro 0 rk rv 0 fN fF fB fR 0 lB lR 0 0 1 0) H := hP
              have hD : va_D A (wM b cB cI cL rb rd 0 rQ rw ra ro 0 rk rv 0 fN fF fB fR 0 lB lR 0 0 1 0) := hD
              have hv47 : nm1 rd 6 ((64 * b1) + 2) < 281474976710656 := nm1_lt hrd 6 ((64 * b1) + 2)
              refine lv_aload_n hx hb dX6_open_50 rfl (lv_at hl 0 rfl) ?_
              refine va_get (D := (dC, dI)) (ci := 6) (v := .ref (b 1)) (C := RX6) (T := TX6) (N := 22) hx hb hts in_X6 hown hK hP 0 rfl rfl 1 (by decide) f7 (fun _ h9 => h9) rfl dX6_open_51 ?_
              refine lv_bipush (v := nI 64) hx hb dX6_open_54 (by decide) ?_
              refine lv_iload_n hx hb dX6_open_56 rfl (lv_at hl 1 rfl) ?_
              refine x_imul hx hb dX6_open_57 ?_
              refine lv_iconst (v := nI 2) hx hb dX6_open_58 (by decide) ?_
              refine x_iadd hx hb dX6_open_59 ?_
              refine lv_bipush (v := nI 6) hx hb dX6_open_60 (by decide) ?_
              refine x_calll (va_runS (As := [.ref (b 1), .int (nI ((64 * a) + 2)), .int (nI 6)]) (rest := [.long (lN (nm1 rd 6 ((64 * b1) + 2)))]) ⟨hx, hb, hml, hown, hts⟩ (c_M_number (k1 := 1) (t1 := 0) (g := rd) rfl (tyS_B cB cI cL) (by decide) hrd ((64 * a) + 2) 6 (by omega) (by omega)) (va_cwS 3 hts (tbS tw_760 tw_761 tw_91 tw_762) rfl rfl rfl (by decide +kernel) ⟨Nat.le_of_ble_eq_true rfl, Nat.le_of_ble_eq_true rfl⟩) ⟨y_blind, y_pre hK hP hD⟩ rfl rfl hl.1 rfl (lv_room (Nat.le_of_ble_eq_true rfl)) dX6_open_62 ⟨Nat.zero_le _, Nat.zero_le _⟩) hS (fun H locs hP hD hS => ?_)
              have hP : va_P (dC, dI) vwCl (wM b cB cI cL rb rd 0 rQ rw ra ro 0 rk rv 0 fN fF fB fR 0 lB lR 0 0 1 0) H := hP
              have hD : va_D A (wM b cB cI cL rb rd 0 rQ rw ra ro 0 rk rv 0 fN fF fB fR 0 lB lR 0 0 1 0) := hD
              have hv62 : nm1 rd 6 ((64 * a) + 2) < 281474976710656 := nm1_lt hrd 6 ((64 * a) + 2)
              refine W.lcmp hx hb dX6_open_65 ?_
              refine x_lif_le (tgt := 71) hx hb dX6_open_66 (by decide) (fun c66 => ?_) (fun c66 => ?_)
              · have c66 : nm1 rd 6 (64 * b1 + 2) ≤ nm1 rd 6 (64 * a + 2) := (pk_lLE (by omega) (by omega)).mp c66
                refine lv_iinc (v := nI (b1 + 1)) (lv' := [(2, .int (nI (b1 + 1))), (0, .ref (b 0)), (1, .int (nI a))]) hx hb dX6_open_71 hl (k := 2) rfl (x_inc _) (by decide) rfl (fun ls hl => ?_)
                refine lv_goto (tgt := 18) hx hb dX6_open_74 (by decide) ?_
                have e2 : (nI a) = (oJ (some a)) := by rfl
                exact ih18 (b1 + 1) (some a) (by omega) (by omega) (by first | exact i18_1 | exact (fun c h => by have := Option.some.inj h; omega)) (by have h := i18_2; rw [show 2 - b1 = (2 - (b1 + 1)) + 1 by omega, hdL] at h; first | (rw [hd_no c28] at h; exact h) | (rw [hd_new c28] at h; exact h) | (rw [hd_gt c28 c66] at h; exact h) | (rw [hd_le c28 c66] at h; exact h)) _ _ hP hD hS ls (x_lvc (l1 := [(0, .ref (b 0)), (1, .int (nI a)), (2, .int (nI (b1 + 1)))]) (by rw [← e2]) (lv_sub hl [1, 2, 0] rfl))
              · have c66 : nm1 rd 6 (64 * a + 2) < nm1 rd 6 (64 * b1 + 2) := Nat.lt_of_not_le (fun q => c66 ((pk_lLE (by omega) (by omega)).mpr q))
                refine lv_iload_n hx hb dX6_open_69 rfl (lv_at hl 2 rfl) ?_
                refine lv_istore_n (lv' := [(1, .int (nI b1)), (0, .ref (b 0)), (2, .int (nI b1))]) hx hb dX6_open_70 rfl hl (by decide) rfl (fun ls hl => ?_)
                refine lv_iinc (v := nI (b1 + 1)) (lv' := [(2, .int (nI (b1 + 1))), (1, .int (nI b1)), (0, .ref (b 0))]) hx hb dX6_open_71 hl (k := 2) rfl (x_inc _) (by decide) rfl (fun ls hl => ?_)
                refine lv_goto (tgt := 18) hx hb dX6_open_74 (by decide) ?_
                have e3 : (nI b1) = (oJ (some b1)) := by rfl
                exact ih18 (b1 + 1) (some b1) (by omega) (by omega) (by first | exact i18_1 | exact (fun c h => by have := Option.some.inj h; omega)) (by have h := i18_2; rw [show 2 - b1 = (2 - (b1 + 1)) + 1 by omega, hdL] at h; first | (rw [hd_no c28] at h; exact h) | (rw [hd_new c28] at h; exact h) | (rw [hd_gt c28 c66] at h; exact h) | (rw [hd_le c28 c66] at h; exact h)) _ _ hP hD hS ls (x_lvc (l1 := [(0, .ref (b 0)), (1, .int (nI b1)), (2, .int (nI (b1 + 1)))]) (by rw [← e3]) (lv_sub hl [2, 1, 0] rfl))
    have e4 : (-1) = (oJ none) := by rfl
    exact L18 (2 - 0 + 1) 0 none (by omega) (by omega) (by exact fun c h => by cases h) (by rfl) _ _ hP hD hS ls (x_lvc (l1 := [(0, .ref (b 0)), (1, .int ((-1))), (2, .int (nI 0))]) (by rw [← e4]) (lv_sub hl [2, 1, 0] rfl))
  · exact absurd (ho.symm.trans c4) (by decide)

set_option maxHeartbeats 4000000 in
set_option maxRecDepth 100000 in
theorem c_M_openW {l : Launch} {dC : Nat → ClassId} {dI : Nat → Nat → Nat} {A : Nat → Prop} {b : Nat → Nat} {cB cI cL : ClassId} {rb : Nat} {rd : Nat → Nat} {rq : Nat} {rQ rw : Nat → Nat} {ra : Nat} {ro : Bool} {rn : Nat} {rk rv : Nat → Int64} {rf : Nat} {fN fF fB fR : Nat → Nat} {rl : Nat} {lB lR : Nat → Nat} {rt rg rx rz : Nat} (hrb : rb ≤ 64) (hrd : ∀ j, rd j < 256) (hfN : ∀ j, fN j < 1048576) (hfF : ∀ j, fF j < 1048576) (hfB : ∀ j, fB j < 1048576) (hfR : ∀ j, fR j < 1048576) (hlB : ∀ j, lB j < 1048576) (a1 : Nat) (ha9 : a1 < 2) (Z0 : FS) (Y0 : Option Nat × KS) (ho : ro = false) (hh : hdL rd 2 0 none = some a1) (hx5 : rd ((64 * a1) + 1) ≤ 5) (hnx : nm1 rd 8 ((64 * a1) + 48) ≤ 1000000000) (hZ0 : rf1 rd (64 * a1) (rd ((64 * a1) + 1)) 0 (fN, fF, fB, fR, 0) = Z0) (hY0 : rgO rb rd Z0 (rd ((64 * a1) + 1)) 0 (0, rk, rv) = Y0) (hgF : ∀ g, g < rd ((64 * a1) + 1) → 2 ≤ Z0.2.1 g ∧ 1 ≤ Z0.2.2.1 g ∧ 3 * Z0.2.2.1 g ≤ Z0.2.2.2.1 g + 2) (hgN : ∀ g h, g < h → h < rd ((64 * a1) + 1) → Z0.2.1 g + Z0.2.2.1 g ≤ Z0.2.1 h ∨ Z0.2.1 h + Z0.2.2.1 h ≤ Z0.2.1 g) (wr : Nat) (hw0 : Y0.1 = some wr) (hw1 : wr < 2 ^ 31) : Met l yX6_open (Cond.code yX6_open cX6_open 3 (some .int) :: TB) { frames := 4, cells := 0, slots := 0, locals := 95 } (xPre (fun _ => True) (dC, dI) A (tyS cB cI cL) (wM b cB cI cL rb rd rq rQ rw ra ro rn rk rv rf fN fF fB fR rl lB lR rt rg rx rz) [.ref (b 0)]) (xQi (dC, dI) A (((-10) - nI wr)) (wM b cB cI cL rb rd 0 rQ rw ra ro 0 Y0.2.2.1 Y0.2.2.2 0 Z0.1 Z0.2.1 Z0.2.2.1 Z0.2.2.2.1 0 lB lR 0 0 1 0)) 0 0 A := by
  refine x_ofWi (cc := cX6_open) (maxL := 3) (by decide) rfl (Nat.le_of_ble_eq_true rfl) ?_
  intro p e s m args below meth c Q hx hb hml hts hown hK hN hP hD hS hret ls hl
  have hl : lv_has ls 3 [(0, .ref (b 0))] := hl
  have hown : s.vm.findClass RX6 = some m.cls := hown
  have hFF : ∀ q, Z0.2.1 q < 1048576 := by
    rw [← hZ0]; exact (rf1_lt hrd hfN hfF hfB hfR).2.1
  have hBB : ∀ q, Z0.2.2.1 q < 1048576 := by
    rw [← hZ0]; exact (rf1_lt hrd hfN hfF hfB hfR).2.2
  have f105 := hts _ (List.mem_cons_of_mem _ tw_612)
  have in_X6 := (fun q hq => List.mem_cons_of_mem _ (inX6 q hq) : ∀ q ∈ wsX60, q ∈ (Cond.code yX6_open cX6_open 3 (some .int) :: TB))
  have f7 := hts _ (List.mem_cons_of_mem _ tw_607)
  refine lv_aload_n hx hb dX6_open_0 rfl (lv_at hl 0 rfl) ?_
  refine va_get (D := (dC, dI)) (ci := 6) (v := .int (bI ro)) (C := RX6) (T := TX6) (N := 22) hx hb hts in_X6 hown hK hP 0 rfl rfl 6 (by decide) f105 (fun _ h9 => h9) rfl dX6_open_1 ?_
  refine x_if_eq_b (tgt := 10) hx hb dX6_open_4 (by decide) (fun c4 => ?_) (fun c4 => ?_)
  · refine lv_aload_n hx hb dX6_open_10 rfl (lv_at hl 0 rfl) ?_
    refine x_callv (va_runV (As := []) (rest := []) ⟨hx, hb, hml, hown, hts⟩ (c_M_forget) (cwV 0 hts (tbV tw_602 tw_604 tw_60 tw_91 tw_605) rfl rfl rfl (by decide +kernel) ⟨Nat.le_of_ble_eq_true rfl, Nat.le_of_ble_eq_true rfl⟩) ⟨y_blind, va_recv hK hP (ci := 6) (q0 := 0) rfl rfl, y_pre hK hP hD⟩ rfl rfl hl.1 rfl (lv_room (Nat.le_of_ble_eq_true rfl)) dX6_open_11 ⟨Nat.zero_le _, Nat.zero_le _⟩) hS (fun H locs hP hD hS => ?_)
    have hP : va_P (dC, dI) vwCl (wM b cB cI cL rb rd 0 rQ rw ra ro 0 rk rv 0 fN fF fB fR 0 lB lR 0 0 1 0) H := hP
    have hD : va_D A (wM b cB cI cL rb rd 0 rQ rw ra ro 0 rk rv 0 fN fF fB fR 0 lB lR 0 0 1 0) := hD
    refine lv_iconst (v := (-1)) hx hb dX6_open_14 (by decide) ?_
    refine lv_istore_n (lv' := [(1, .int ((-1))), (0, .ref (b 0))]) hx hb dX6_open_15 rfl hl (by decide) rfl (fun ls hl => ?_)
    refine lv_iconst (v := nI 0) hx hb dX6_open_16 (by decide) ?_
    refine lv_istore_n (lv' := [(2, .int (nI 0)), (1, .int ((-1))), (0, .ref (b 0))]) hx hb dX6_open_17 rfl hl (by decide) rfl (fun ls hl => ?_)
    have L18 : ∀ (fu18 : Nat) (b1 : Nat) (o : Option Nat), (2 - b1 < fu18) → (b1 ≤ 2) → (∀ c, o = some c → c < 2) → (hdL rd (2 - b1) b1 o = hdL rd 2 0 none) → ∀ (H : Heap) (locs : List Loc), va_P (dC, dI) vwCl (wM b cB cI cL rb rd 0 rQ rw ra ro 0 rk rv 0 fN fF fB fR 0 lB lR 0 0 1 0) H → va_D A (wM b cB cI cL rb rd 0 rQ rw ra ro 0 rk rv 0 fN fF fB fR 0 lB lR 0 0 1 0) → va_S A s.heap H locs → ∀ (ls : Array Slot), lv_has ls 3 [(0, .ref (b 0)), (1, .int (oJ o)), (2, .int (nI b1))] → W p l e { frames := 4, cells := 0, slots := 0, locals := 95 } s m args below meth c H locs 0 0 Q (F0 m 18 ls []) := by
      intro fu18
      induction fu18 with
      | zero => intro b1 o hm; exact absurd hm (Nat.not_lt_zero _)
      | succ fu18 ih18 =>
        intro b1 o hm i18_0 i18_1 i18_2 H locs hP hD hS ls hl
        refine lv_iload_n hx hb dX6_open_18 rfl (lv_at hl 2 rfl) ?_
        refine lv_iconst (v := nI 2) hx hb dX6_open_19 (by decide) ?_
        refine x_icmp_ge (tgt := 77) hx hb dX6_open_20 (by decide) (by omega) (by omega) (fun c20 => ?_) (fun c20 => ?_)
        · have ho9 : o = some a1 := by
            have h := i18_2
            rw [show 2 - b1 = 0 by omega, hdL] at h
            exact h.trans hh
          subst ho9
          have hl : lv_has ls 3 [(0, .ref (b 0)), (1, .int (nI a1)), (2, .int (nI b1))] := hl
          refine lv_iload_n hx hb dX6_open_77 rfl (lv_at hl 1 rfl) ?_
          refine x_if_lt (tgt := 103) hx hb dX6_open_78 (by decide) (by omega) ?_
          refine lv_aload_n hx hb dX6_open_81 rfl (lv_at hl 0 rfl) ?_
          refine lv_bipush (v := nI 64) hx hb dX6_open_82 (by decide) ?_
          refine lv_iload_n hx hb dX6_open_84 rfl (lv_at hl 1 rfl) ?_
          refine x_imul hx hb dX6_open_85 ?_
          refine x_calli (va_runV (As := [.int (nI (64 * a1))]) (rest := []) ⟨hx, hb, hml, hown, hts⟩ (c_M_readsFiles (by omega) hrd hfN hfF hfB hfR (by omega) (64 * a1) (by omega) (by omega) rfl (by rw [hZ0]; exact hgF) (by rw [hZ0]; exact hgN)) (cwV 1 hts (tbV tw_773 tw_775 tw_77 tw_91 tw_776) rfl rfl rfl (by decide +kernel) ⟨Nat.le_of_ble_eq_true rfl, Nat.le_of_ble_eq_true rfl⟩) ⟨y_blind, va_recv hK hP (ci := 6) (q0 := 0) rfl rfl, y_pre hK hP hD⟩ rfl rfl hl.1 rfl (lv_room (Nat.le_of_ble_eq_true rfl)) dX6_open_86 ⟨Nat.zero_le _, Nat.zero_le _⟩) hS (fun H locs hP hD hS => ?_)
          rw [hZ0, hY0] at hP hD
          rw [hZ0, hY0]
          have hP : va_P (dC, dI) vwCl (wM b cB cI cL rb rd 0 rQ rw ra ro Y0.2.1 Y0.2.2.1 Y0.2.2.2 (rd ((64 * a1) + 1)) Z0.1 Z0.2.1 Z0.2.2.1 Z0.2.2.2.1 0 lB lR 0 (nm1 rd 6 ((64 * a1) + 2)) (nm1 rd 8 ((64 * a1) + 48)) Z0.2.2.2.2) H := hP
          have hD : va_D A (wM b cB cI cL rb rd 0 rQ rw ra ro Y0.2.1 Y0.2.2.1 Y0.2.2.2 (rd ((64 * a1) + 1)) Z0.1 Z0.2.1 Z0.2.2.1 Z0.2.2.2.1 0 lB lR 0 (nm1 rd 6 ((64 * a1) + 2)) (nm1 rd 8 ((64 * a1) + 48)) Z0.2.2.2.2) := hD
          refine lv_istore_n (lv' := [(2, .int (oJ Y0.1)), (0, .ref (b 0)), (1, .int (nI a1))]) hx hb dX6_open_89 rfl hl (by decide) rfl (fun ls hl => ?_)
          rw [hw0] at hl
          have hl : lv_has ls 3 [(2, .int (nI wr)), (0, .ref (b 0)), (1, .int (nI a1))] := hl
          refine lv_iload_n hx hb dX6_open_90 rfl (lv_at hl 0 rfl) ?_
          refine x_if_lt (tgt := 103) hx hb dX6_open_91 (by decide) (by omega) ?_
          refine lv_aload_n hx hb dX6_open_94 rfl (lv_at hl 1 rfl) ?_
          refine x_callv (va_runV (As := []) (rest := []) ⟨hx, hb, hml, hown, hts⟩ (c_M_forget) (cwV 0 hts (tbV tw_602 tw_604 tw_60 tw_91 tw_605) rfl rfl rfl (by decide +kernel) ⟨Nat.le_of_ble_eq_true rfl, Nat.le_of_ble_eq_true rfl⟩) ⟨y_blind, va_recv hK hP (ci := 6) (q0 := 0) rfl rfl, y_pre hK hP hD⟩ rfl rfl hl.1 rfl (lv_room (Nat.le_of_ble_eq_true rfl)) dX6_open_95 ⟨Nat.zero_le _, Nat.zero_le _⟩) hS (fun H locs hP hD hS => ?_)
          have hP : va_P (dC, dI) vwCl (wM b cB cI cL rb rd 0 rQ rw ra ro 0 Y0.2.2.1 Y0.2.2.2 0 Z0.1 Z0.2.1 Z0.2.2.1 Z0.2.2.2.1 0 lB lR 0 0 1 0) H := hP
          have hD : va_D A (wM b cB cI cL rb rd 0 rQ rw ra ro 0 Y0.2.2.1 Y0.2.2.2 0 Z0.1 Z0.2.1 Z0.2.2.1 Z0.2.2.2.1 0 lB lR 0 0 1 0) := hD
          refine lv_bipush (v := (-10)) hx hb dX6_open_98 (by decide) ?_
          refine lv_iload_n hx hb dX6_open_100 rfl (lv_at hl 0 rfl) ?_
          refine lv_isub hx hb dX6_open_101 ?_
          exact hret dX6_open_102 (by rfl) hP hD hS
        · refine lv_aload_n hx hb dX6_open_23 rfl (lv_at hl 0 rfl) ?_
          refine lv_iload_n hx hb dX6_open_24 rfl (lv_at hl 2 rfl) ?_
          refine x_calli (va_runV (As := [.int (nI b1)]) (rest := []) ⟨hx, hb, hml, hown, hts⟩ (c_M_isHead hrd b1 (by omega)) (cwV 1 hts (tbV tw_756 tw_758 tw_74 tw_91 tw_759) rfl rfl rfl (by decide +kernel) ⟨Nat.le_of_ble_eq_true rfl, Nat.le_of_ble_eq_true rfl⟩) ⟨y_blind, va_recv hK hP (ci := 6) (q0 := 0) rfl rfl, y_pre hK hP hD⟩ rfl rfl hl.1 rfl (lv_room (Nat.le_of_ble_eq_true rfl)) dX6_open_25 ⟨Nat.zero_le _, Nat.zero_le _⟩) hS (fun H locs hP hD hS => ?_)
          have hP : va_P (dC, dI) vwCl (wM b cB cI cL rb rd 0 rQ rw ra ro 0 rk rv 0 fN fF fB fR 0 lB lR 0 0 1 0) H := hP
          have hD : va_D A (wM b cB cI cL rb rd 0 rQ rw ra ro 0 rk rv 0 fN fF fB fR 0 lB lR 0 0 1 0) := hD
          refine x_if_eq_b (tgt := 71) hx hb dX6_open_28 (by decide) (fun c28 => ?_) (fun c28 => ?_)
          · refine lv_iinc (v := nI (b1 + 1)) (lv' := [(2, .int (nI (b1 + 1))), (0, .ref (b 0)), (1, .int (oJ o))]) hx hb dX6_open_71 hl (k := 2) rfl (x_inc _) (by decide) rfl (fun ls hl => ?_)
            refine lv_goto (tgt := 18) hx hb dX6_open_74 (by decide) ?_
            exact ih18 (b1 + 1) o (by omega) (by omega) (by first | exact i18_1 | exact (fun c h => by have := Option.some.inj h; omega)) (by have h := i18_2; rw [show 2 - b1 = (2 - (b1 + 1)) + 1 by omega, hdL] at h; first | (rw [hd_no c28] at h; exact h) | (rw [hd_new c28] at h; exact h) | (rw [hd_gt c28 c66] at h; exact h) | (rw [hd_le c28 c66] at h; exact h)) _ _ hP hD hS ls (lv_sub hl [1, 2, 0] rfl)
          · rcases o with _ | a
            · have hl : lv_has ls 3 [(0, .ref (b 0)), (1, .int (oJ none)), (2, .int (nI b1))] := hl
              refine lv_iload_n hx hb dX6_open_31 rfl (lv_at hl 1 rfl) ?_
              refine lv_if_lt (tgt := 69) hx hb dX6_open_32 (by decide) (fun c32 => ?_) (fun c32 => ?_)
              · refine lv_iload_n hx hb dX6_open_69 rfl (lv_at hl 2 rfl) ?_
                refine lv_istore_n (lv' := [(1, .int (nI b1)), (0, .ref (b 0)), (2, .int (nI b1))]) hx hb dX6_open_70 rfl hl (by decide) rfl (fun ls hl => ?_)
                refine lv_iinc (v := nI (b1 + 1)) (lv' := [(2, .int (nI (b1 + 1))), (1, .int (nI b1)), (0, .ref (b 0))]) hx hb dX6_open_71 hl (k := 2) rfl (x_inc _) (by decide) rfl (fun ls hl => ?_)
                refine lv_goto (tgt := 18) hx hb dX6_open_74 (by decide) ?_
                have e1 : (nI b1) = (oJ (some b1)) := by rfl
                exact ih18 (b1 + 1) (some b1) (by omega) (by omega) (by first | exact i18_1 | exact (fun c h => by have := Option.some.inj h; omega)) (by have h := i18_2; rw [show 2 - b1 = (2 - (b1 + 1)) + 1 by omega, hdL] at h; first | (rw [hd_no c28] at h; exact h) | (rw [hd_new c28] at h; exact h) | (rw [hd_gt c28 c66] at h; exact h) | (rw [hd_le c28 c66] at h; exact h)) _ _ hP hD hS ls (x_lvc (l1 := [(0, .ref (b 0)), (1, .int (nI b1)), (2, .int (nI (b1 + 1)))]) (by rw [← e1]) (lv_sub hl [2, 1, 0] rfl))
              · exact absurd (show oJ none < 0 by decide) c32
            · have ha1 := i18_1 a rfl
              have hl : lv_has ls 3 [(0, .ref (b 0)), (1, .int (nI a)), (2, .int (nI b1))] := hl
              refine lv_iload_n hx hb dX6_open_31 rfl (lv_at hl 1 rfl) ?_
              refine x_if_lt (tgt := 69) hx hb dX6_open_32 (by decide) (by omega) ?_
              refine lv_aload_n hx hb dX6_open_35 rfl (lv_at hl 0 rfl) ?_
              refine va_get (D := (dC, dI)) (ci := 6) (v := .ref (b 1)) (C := RX6) (T := TX6) (N := 22) hx hb hts in_X6 hown hK hP 0 rfl rfl 1 (by decide) f7 (fun _ h9 => h9) rfl dX6_open_36 ?_
              refine lv_bipush (v := nI 64) hx hb dX6_open_39 (by decide) ?_
              refine lv_iload_n hx hb dX6_open_41 rfl (lv_at hl 2 rfl) ?_
              refine x_imul hx hb dX6_open_42 ?_
              refine lv_iconst (v := nI 2) hx hb dX6_open_43 (by decide) ?_
              refine x_iadd hx hb dX6_open_44 ?_
              refine lv_bipush (v := nI 6) hx hb dX6_open_45 (by decide) ?_
              refine x_calll (va_runS (As := [.ref (b 1), .int (nI ((64 * b1) + 2)), .int (nI 6)]) (rest := []) ⟨hx, hb, hml, hown, hts⟩ (c_M_number (k1 := 1) (t1 := 0) (g := rd) rfl (tyS_B cB cI cL) (by decide) hrd ((64 * b1) + 2) 6 (by omega) (by omega)) (va_cwS 3 hts (tbS tw_760 tw_761 tw_91 tw_762) rfl rfl rfl (by decide +kernel) ⟨Nat.le_of_ble_eq_true rfl, Nat.le_of_ble_eq_true rfl⟩) ⟨y_blind, y_pre hK hP hD⟩ rfl rfl hl.1 rfl (lv_room (Nat.le_of_ble_eq_true rfl)) dX6_open_47 ⟨Nat.zero_le _, Nat.zero_le _⟩) hS (fun H locs hP hD hS => ?_)
              have hP : va_P (dC, dI) vwCl (wM b cB cI cL rb rd 0 rQ rw ra ro 0 rk rv 0 fN fF fB fR 0 lB lR 0 0 1 0) H := hP
              have hD : va_D A (wM b cB cI cL rb rd 0 rQ rw ra ro 0 rk rv 0 fN fF fB fR 0 lB lR 0 0 1 0) := hD
              have hv47 : nm1 rd 6 ((64 * b1) + 2) < 281474976710656 := nm1_lt hrd 6 ((64 * b1) + 2)
              refine lv_aload_n hx hb dX6_open_50 rfl (lv_at hl 0 rfl) ?_
              refine va_get (D := (dC, dI)) (ci := 6) (v := .ref (b 1)) (C := RX6) (T := TX6) (N := 22) hx hb hts in_X6 hown hK hP 0 rfl rfl 1 (by decide) f7 (fun _ h9 => h9) rfl dX6_open_51 ?_
              refine lv_bipush (v := nI 64) hx hb dX6_open_54 (by decide) ?_
              refine lv_iload_n hx hb dX6_open_56 rfl (lv_at hl 1 rfl) ?_
              refine x_imul hx hb dX6_open_57 ?_
              refine lv_iconst (v := nI 2) hx hb dX6_open_58 (by decide) ?_
              refine x_iadd hx hb dX6_open_59 ?_
              refine lv_bipush (v := nI 6) hx hb dX6_open_60 (by decide) ?_
              refine x_calll (va_runS (As := [.ref (b 1), .int (nI ((64 * a) + 2)), .int (nI 6)]) (rest := [.long (lN (nm1 rd 6 ((64 * b1) + 2)))]) ⟨hx, hb, hml, hown, hts⟩ (c_M_number (k1 := 1) (t1 := 0) (g := rd) rfl (tyS_B cB cI cL) (by decide) hrd ((64 * a) + 2) 6 (by omega) (by omega)) (va_cwS 3 hts (tbS tw_760 tw_761 tw_91 tw_762) rfl rfl rfl (by decide +kernel) ⟨Nat.le_of_ble_eq_true rfl, Nat.le_of_ble_eq_true rfl⟩) ⟨y_blind, y_pre hK hP hD⟩ rfl rfl hl.1 rfl (lv_room (Nat.le_of_ble_eq_true rfl)) dX6_open_62 ⟨Nat.zero_le _, Nat.zero_le _⟩) hS (fun H locs hP hD hS => ?_)
              have hP : va_P (dC, dI) vwCl (wM b cB cI cL rb rd 0 rQ rw ra ro 0 rk rv 0 fN fF fB fR 0 lB lR 0 0 1 0) H := hP
              have hD : va_D A (wM b cB cI cL rb rd 0 rQ rw ra ro 0 rk rv 0 fN fF fB fR 0 lB lR 0 0 1 0) := hD
              have hv62 : nm1 rd 6 ((64 * a) + 2) < 281474976710656 := nm1_lt hrd 6 ((64 * a) + 2)
              refine W.lcmp hx hb dX6_open_65 ?_
              refine x_lif_le (tgt := 71) hx hb dX6_open_66 (by decide) (fun c66 => ?_) (fun c66 => ?_)
              · have c66 : nm1 rd 6 (64 * b1 + 2) ≤ nm1 rd 6 (64 * a + 2) := (pk_lLE (by omega) (by omega)).mp c66
                refine lv_iinc (v := nI (b1 + 1)) (lv' := [(2, .int (nI (b1 + 1))), (0, .ref (b 0)), (1, .int (nI a))]) hx hb dX6_open_71 hl (k := 2) rfl (x_inc _) (by decide) rfl (fun ls hl => ?_)
                refine lv_goto (tgt := 18) hx hb dX6_open_74 (by decide) ?_
                have e2 : (nI a) = (oJ (some a)) := by rfl
                exact ih18 (b1 + 1) (some a) (by omega) (by omega) (by first | exact i18_1 | exact (fun c h => by have := Option.some.inj h; omega)) (by have h := i18_2; rw [show 2 - b1 = (2 - (b1 + 1)) + 1 by omega, hdL] at h; first | (rw [hd_no c28] at h; exact h) | (rw [hd_new c28] at h; exact h) | (rw [hd_gt c28 c66] at h; exact h) | (rw [hd_le c28 c66] at h; exact h)) _ _ hP hD hS ls (x_lvc (l1 := [(0, .ref (b 0)), (1, .int (nI a)), (2, .int (nI (b1 + 1)))]) (by rw [← e2]) (lv_sub hl [1, 2, 0] rfl))
              · have c66 : nm1 rd 6 (64 * a + 2) < nm1 rd 6 (64 * b1 + 2) := Nat.lt_of_not_le (fun q => c66 ((pk_lLE (by omega) (by omega)).mpr q))
                refine lv_iload_n hx hb dX6_open_69 rfl (lv_at hl 2 rfl) ?_
                refine lv_istore_n (lv' := [(1, .int (nI b1)), (0, .ref (b 0)), (2, .int (nI b1))]) hx hb dX6_open_70 rfl hl (by decide) rfl (fun ls hl => ?_)
                refine lv_iinc (v := nI (b1 + 1)) (lv' := [(2, .int (nI (b1 + 1))), (1, .int (nI b1)), (0, .ref (b 0))]) hx hb dX6_open_71 hl (k := 2) rfl (x_inc _) (by decide) rfl (fun ls hl => ?_)
                refine lv_goto (tgt := 18) hx hb dX6_open_74 (by decide) ?_
                have e3 : (nI b1) = (oJ (some b1)) := by rfl
                exact ih18 (b1 + 1) (some b1) (by omega) (by omega) (by first | exact i18_1 | exact (fun c h => by have := Option.some.inj h; omega)) (by have h := i18_2; rw [show 2 - b1 = (2 - (b1 + 1)) + 1 by omega, hdL] at h; first | (rw [hd_no c28] at h; exact h) | (rw [hd_new c28] at h; exact h) | (rw [hd_gt c28 c66] at h; exact h) | (rw [hd_le c28 c66] at h; exact h)) _ _ hP hD hS ls (x_lvc (l1 := [(0, .ref (b 0)), (1, .int (nI b1)), (2, .int (nI (b1 + 1)))]) (by rw [← e3]) (lv_sub hl [2, 1, 0] rfl))
    have e4 : (-1) = (oJ none) := by rfl
    exact L18 (2 - 0 + 1) 0 none (by omega) (by omega) (by exact fun c h => by cases h) (by rfl) _ _ hP hD hS ls (x_lvc (l1 := [(0, .ref (b 0)), (1, .int ((-1))), (2, .int (nI 0))]) (by rw [← e4]) (lv_sub hl [2, 1, 0] rfl))
  · exact absurd (ho.symm.trans c4) (by decide)

set_option maxHeartbeats 4000000 in
set_option maxRecDepth 100000 in
theorem c_M_openG {l : Launch} {dC : Nat → ClassId} {dI : Nat → Nat → Nat} {A : Nat → Prop} {b : Nat → Nat} {cB cI cL : ClassId} {rb : Nat} {rd : Nat → Nat} {rq : Nat} {rQ rw : Nat → Nat} {ra : Nat} {ro : Bool} {rn : Nat} {rk rv : Nat → Int64} {rf : Nat} {fN fF fB fR : Nat → Nat} {rl : Nat} {lB lR : Nat → Nat} {rt rg rx rz : Nat} (hrb : rb ≤ 64) (hrd : ∀ j, rd j < 256) (hfN : ∀ j, fN j < 1048576) (hfF : ∀ j, fF j < 1048576) (hfB : ∀ j, fB j < 1048576) (hfR : ∀ j, fR j < 1048576) (hlB : ∀ j, lB j < 1048576) (a1 : Nat) (ha9 : a1 < 2) (Z0 : FS) (Y0 : Option Nat × KS) (ho : ro = false) (hh : hdL rd 2 0 none = some a1) (hx5 : rd ((64 * a1) + 1) ≤ 5) (hnx : nm1 rd 8 ((64 * a1) + 48) ≤ 1000000000) (hZ0 : rf1 rd (64 * a1) (rd ((64 * a1) + 1)) 0 (fN, fF, fB, fR, 0) = Z0) (hY0 : rgO rb rd Z0 (rd ((64 * a1) + 1)) 0 (0, rk, rv) = Y0) (hgF : ∀ g, g < rd ((64 * a1) + 1) → 2 ≤ Z0.2.1 g ∧ 1 ≤ Z0.2.2.1 g ∧ 3 * Z0.2.2.1 g ≤ Z0.2.2.2.1 g + 2) (hgN : ∀ g h, g < h → h < rd ((64 * a1) + 1) → Z0.2.1 g + Z0.2.2.1 g ≤ Z0.2.1 h ∨ Z0.2.1 h + Z0.2.2.1 h ≤ Z0.2.1 g) (hw0 : Y0.1 = none) (S0 : LSt) (hS0 : rlG rb rd Z0.2.1 Z0.2.2.1 (rd ((64 * a1) + 1)) 64 (Y0.2.1, Y0.2.2.1, Y0.2.2.2, 0, lB, lR, (nm1 rd 8 ((64 * a1) + 48))) = S0) (hk1 : Y0.2.1 + 3 * lgK rb rd Z0.2.1 Z0.2.2.1 (rd ((64 * a1) + 1)) (nm1 rd 8 ((64 * a1) + 48)) ≤ 210) (hk2 : 0 + lgK rb rd Z0.2.1 Z0.2.2.1 (rd ((64 * a1) + 1)) (nm1 rd 8 ((64 * a1) + 48)) ≤ 62) : Met l yX6_open (Cond.code yX6_open cX6_open 3 (some .int) :: TB) { frames := 4, cells := 0, slots := 0, locals := 95 } (xPre (fun _ => True) (dC, dI) A (tyS cB cI cL) (wM b cB cI cL rb rd rq rQ rw ra ro rn rk rv rf fN fF fB fR rl lB lR rt rg rx rz) [.ref (b 0)]) (xQi (dC, dI) A (nI S0.1) (wM b cB cI cL rb (rlW (rd ((64 * a1) + 1)) Z0.2.1 Z0.2.2.1 S0.2.2.2.1 S0.2.2.2.2.1 (rb - 2) 2 rd) 0 rQ rw ra true S0.1 S0.2.1 S0.2.2.1 (rd ((64 * a1) + 1)) Z0.1 Z0.2.1 Z0.2.2.1 Z0.2.2.2.1 S0.2.2.2.1 S0.2.2.2.2.1 S0.2.2.2.2.2.1 0 (nm1 rd 6 ((64 * a1) + 2)) S0.2.2.2.2.2.2 Z0.2.2.2.2)) 0 0 A := by
  refine x_ofWi (cc := cX6_open) (maxL := 3) (by decide) rfl (Nat.le_of_ble_eq_true rfl) ?_
  intro p e s m args below meth c Q hx hb hml hts hown hK hN hP hD hS hret ls hl
  have hl : lv_has ls 3 [(0, .ref (b 0))] := hl
  have hown : s.vm.findClass RX6 = some m.cls := hown
  have hFF : ∀ q, Z0.2.1 q < 1048576 := by
    rw [← hZ0]; exact (rf1_lt hrd hfN hfF hfB hfR).2.1
  have hBB : ∀ q, Z0.2.2.1 q < 1048576 := by
    rw [← hZ0]; exact (rf1_lt hrd hfN hfF hfB hfR).2.2
  have f105 := hts _ (List.mem_cons_of_mem _ tw_612)
  have in_X6 := (fun q hq => List.mem_cons_of_mem _ (inX6 q hq) : ∀ q ∈ wsX60, q ∈ (Cond.code yX6_open cX6_open 3 (some .int) :: TB))
  have f71 := hts _ (List.mem_cons_of_mem _ tw_613)
  have f7 := hts _ (List.mem_cons_of_mem _ tw_607)
  refine lv_aload_n hx hb dX6_open_0 rfl (lv_at hl 0 rfl) ?_
  refine va_get (D := (dC, dI)) (ci := 6) (v := .int (bI ro)) (C := RX6) (T := TX6) (N := 22) hx hb hts in_X6 hown hK hP 0 rfl rfl 6 (by decide) f105 (fun _ h9 => h9) rfl dX6_open_1 ?_
  refine x_if_eq_b (tgt := 10) hx hb dX6_open_4 (by decide) (fun c4 => ?_) (fun c4 => ?_)
  · refine lv_aload_n hx hb dX6_open_10 rfl (lv_at hl 0 rfl) ?_
    refine x_callv (va_runV (As := []) (rest := []) ⟨hx, hb, hml, hown, hts⟩ (c_M_forget) (cwV 0 hts (tbV tw_602 tw_604 tw_60 tw_91 tw_605) rfl rfl rfl (by decide +kernel) ⟨Nat.le_of_ble_eq_true rfl, Nat.le_of_ble_eq_true rfl⟩) ⟨y_blind, va_recv hK hP (ci := 6) (q0 := 0) rfl rfl, y_pre hK hP hD⟩ rfl rfl hl.1 rfl (lv_room (Nat.le_of_ble_eq_true rfl)) dX6_open_11 ⟨Nat.zero_le _, Nat.zero_le _⟩) hS (fun H locs hP hD hS => ?_)
    have hP : va_P (dC, dI) vwCl (wM b cB cI cL rb rd 0 rQ rw ra ro 0 rk rv 0 fN fF fB fR 0 lB lR 0 0 1 0) H := hP
    have hD : va_D A (wM b cB cI cL rb rd 0 rQ rw ra ro 0 rk rv 0 fN fF fB fR 0 lB lR 0 0 1 0) := hD
    refine lv_iconst (v := (-1)) hx hb dX6_open_14 (by decide) ?_
    refine lv_istore_n (lv' := [(1, .int ((-1))), (0, .ref (b 0))]) hx hb dX6_open_15 rfl hl (by decide) rfl (fun ls hl => ?_)
    refine lv_iconst (v := nI 0) hx hb dX6_open_16 (by decide) ?_
    refine lv_istore_n (lv' := [(2, .int (nI 0)), (1, .int ((-1))), (0, .ref (b 0))]) hx hb dX6_open_17 rfl hl (by decide) rfl (fun ls hl => ?_)
    have L18 : ∀ (fu18 : Nat) (b1 : Nat) (o : Option Nat), (2 - b1 < fu18) → (b1 ≤ 2) → (∀ c, o = some c → c < 2) → (hdL rd (2 - b1) b1 o = hdL rd 2 0 none) → ∀ (H : Heap) (locs : List Loc), va_P (dC, dI) vwCl (wM b cB cI cL rb rd 0 rQ rw ra ro 0 rk rv 0 fN fF fB fR 0 lB lR 0 0 1 0) H → va_D A (wM b cB cI cL rb rd 0 rQ rw ra ro 0 rk rv 0 fN fF fB fR 0 lB lR 0 0 1 0) → va_S A s.heap H locs → ∀ (ls : Array Slot), lv_has ls 3 [(0, .ref (b 0)), (1, .int (oJ o)), (2, .int (nI b1))] → W p l e { frames := 4, cells := 0, slots := 0, locals := 95 } s m args below meth c H locs 0 0 Q (F0 m 18 ls []) := by
      intro fu18
      induction fu18 with
      | zero => intro b1 o hm; exact absurd hm (Nat.not_lt_zero _)
      | succ fu18 ih18 =>
        intro b1 o hm i18_0 i18_1 i18_2 H locs hP hD hS ls hl
        refine lv_iload_n hx hb dX6_open_18 rfl (lv_at hl 2 rfl) ?_
        refine lv_iconst (v := nI 2) hx hb dX6_open_19 (by decide) ?_
        refine x_icmp_ge (tgt := 77) hx hb dX6_open_20 (by decide) (by omega) (by omega) (fun c20 => ?_) (fun c20 => ?_)
        · have ho9 : o = some a1 := by
            have h := i18_2
            rw [show 2 - b1 = 0 by omega, hdL] at h
            exact h.trans hh
          subst ho9
          have hl : lv_has ls 3 [(0, .ref (b 0)), (1, .int (nI a1)), (2, .int (nI b1))] := hl
          refine lv_iload_n hx hb dX6_open_77 rfl (lv_at hl 1 rfl) ?_
          refine x_if_lt (tgt := 103) hx hb dX6_open_78 (by decide) (by omega) ?_
          refine lv_aload_n hx hb dX6_open_81 rfl (lv_at hl 0 rfl) ?_
          refine lv_bipush (v := nI 64) hx hb dX6_open_82 (by decide) ?_
          refine lv_iload_n hx hb dX6_open_84 rfl (lv_at hl 1 rfl) ?_
          refine x_imul hx hb dX6_open_85 ?_
          refine x_calli (va_runV (As := [.int (nI (64 * a1))]) (rest := []) ⟨hx, hb, hml, hown, hts⟩ (c_M_readsFiles (by omega) hrd hfN hfF hfB hfR (by omega) (64 * a1) (by omega) (by omega) rfl (by rw [hZ0]; exact hgF) (by rw [hZ0]; exact hgN)) (cwV 1 hts (tbV tw_773 tw_775 tw_77 tw_91 tw_776) rfl rfl rfl (by decide +kernel) ⟨Nat.le_of_ble_eq_true rfl, Nat.le_of_ble_eq_true rfl⟩) ⟨y_blind, va_recv hK hP (ci := 6) (q0 := 0) rfl rfl, y_pre hK hP hD⟩ rfl rfl hl.1 rfl (lv_room (Nat.le_of_ble_eq_true rfl)) dX6_open_86 ⟨Nat.zero_le _, Nat.zero_le _⟩) hS (fun H locs hP hD hS => ?_)
          rw [hZ0, hY0] at hP hD
          rw [hZ0, hY0]
          have hP : va_P (dC, dI) vwCl (wM b cB cI cL rb rd 0 rQ rw ra ro Y0.2.1 Y0.2.2.1 Y0.2.2.2 (rd ((64 * a1) + 1)) Z0.1 Z0.2.1 Z0.2.2.1 Z0.2.2.2.1 0 lB lR 0 (nm1 rd 6 ((64 * a1) + 2)) (nm1 rd 8 ((64 * a1) + 48)) Z0.2.2.2.2) H := hP
          have hD : va_D A (wM b cB cI cL rb rd 0 rQ rw ra ro Y0.2.1 Y0.2.2.1 Y0.2.2.2 (rd ((64 * a1) + 1)) Z0.1 Z0.2.1 Z0.2.2.1 Z0.2.2.2.1 0 lB lR 0 (nm1 rd 6 ((64 * a1) + 2)) (nm1 rd 8 ((64 * a1) + 48)) Z0.2.2.2.2) := hD
          refine lv_istore_n (lv' := [(2, .int (oJ Y0.1)), (0, .ref (b 0)), (1, .int (nI a1))]) hx hb dX6_open_89 rfl hl (by decide) rfl (fun ls hl => ?_)
          rw [hw0] at hl
          have hl : lv_has ls 3 [(2, .int (oJ none)), (0, .ref (b 0)), (1, .int (nI a1))] := hl
          refine lv_iload_n hx hb dX6_open_90 rfl (lv_at hl 0 rfl) ?_
          refine lv_if_lt (tgt := 103) hx hb dX6_open_91 (by decide) (fun c91 => ?_) (fun c91 => ?_)
          · refine lv_aload_n hx hb dX6_open_103 rfl (lv_at hl 1 rfl) ?_
            refine x_callv (va_runV (As := []) (rest := []) ⟨hx, hb, hml, hown, hts⟩ (c_M_readsLogs (by omega) hrd (by omega) hFF hBB hlB hk1 hk2 (by omega)) (cwV 0 hts (tbV tw_785 tw_787 tw_80 tw_91 tw_788) rfl rfl rfl (by decide +kernel) ⟨Nat.le_of_ble_eq_true rfl, Nat.le_of_ble_eq_true rfl⟩) ⟨y_blind, va_recv hK hP (ci := 6) (q0 := 0) rfl rfl, y_pre hK hP hD⟩ rfl rfl hl.1 rfl (lv_room (Nat.le_of_ble_eq_true rfl)) dX6_open_104 ⟨Nat.zero_le _, Nat.zero_le _⟩) hS (fun H locs hP hD hS => ?_)
            rw [hS0] at hP hD
            have hP : va_P (dC, dI) vwCl (wM b cB cI cL rb (rlW (rd ((64 * a1) + 1)) Z0.2.1 Z0.2.2.1 S0.2.2.2.1 S0.2.2.2.2.1 (rb - 2) 2 rd) 0 rQ rw ra ro S0.1 S0.2.1 S0.2.2.1 (rd ((64 * a1) + 1)) Z0.1 Z0.2.1 Z0.2.2.1 Z0.2.2.2.1 S0.2.2.2.1 S0.2.2.2.2.1 S0.2.2.2.2.2.1 0 (nm1 rd 6 ((64 * a1) + 2)) S0.2.2.2.2.2.2 Z0.2.2.2.2) H := hP
            have hD : va_D A (wM b cB cI cL rb (rlW (rd ((64 * a1) + 1)) Z0.2.1 Z0.2.2.1 S0.2.2.2.1 S0.2.2.2.2.1 (rb - 2) 2 rd) 0 rQ rw ra ro S0.1 S0.2.1 S0.2.2.1 (rd ((64 * a1) + 1)) Z0.1 Z0.2.1 Z0.2.2.1 Z0.2.2.2.1 S0.2.2.2.1 S0.2.2.2.2.1 S0.2.2.2.2.2.1 0 (nm1 rd 6 ((64 * a1) + 2)) S0.2.2.2.2.2.2 Z0.2.2.2.2) := hD
            refine lv_aload_n hx hb dX6_open_107 rfl (lv_at hl 1 rfl) ?_
            refine lv_iconst (v := nI 1) hx hb dX6_open_108 (by decide) ?_
            refine x_top (y := bI true) rfl ?_
            refine va_put (D := (dC, dI)) (ci := 6) (v := .int (bI true)) (ty := .boolean) (C := RX6) (T := TX6) (N := 22) hx hb hts in_X6 tyX6 tyX6_ok nmX6 hown hK hP hD hS 0 rfl rfl 6 (by decide) f105 (fun _ h9 => h9) rfl (by decide +kernel) (x_narZ _) (x_fitZ _) (Nat.le_of_ble_eq_true rfl) dX6_open_109 (fun H locs hP hD hS => ?_)
            have hP : va_P (dC, dI) vwCl (wM b cB cI cL rb (rlW (rd ((64 * a1) + 1)) Z0.2.1 Z0.2.2.1 S0.2.2.2.1 S0.2.2.2.2.1 (rb - 2) 2 rd) 0 rQ rw ra true S0.1 S0.2.1 S0.2.2.1 (rd ((64 * a1) + 1)) Z0.1 Z0.2.1 Z0.2.2.1 Z0.2.2.2.1 S0.2.2.2.1 S0.2.2.2.2.1 S0.2.2.2.2.2.1 0 (nm1 rd 6 ((64 * a1) + 2)) S0.2.2.2.2.2.2 Z0.2.2.2.2) H := hP
            have hD : va_D A (wM b cB cI cL rb (rlW (rd ((64 * a1) + 1)) Z0.2.1 Z0.2.2.1 S0.2.2.2.1 S0.2.2.2.2.1 (rb - 2) 2 rd) 0 rQ rw ra true S0.1 S0.2.1 S0.2.2.1 (rd ((64 * a1) + 1)) Z0.1 Z0.2.1 Z0.2.2.1 Z0.2.2.2.1 S0.2.2.2.1 S0.2.2.2.2.1 S0.2.2.2.2.2.1 0 (nm1 rd 6 ((64 * a1) + 2)) S0.2.2.2.2.2.2 Z0.2.2.2.2) := hD
            refine lv_aload_n hx hb dX6_open_112 rfl (lv_at hl 1 rfl) ?_
            refine va_get (D := (dC, dI)) (ci := 6) (v := .int (nI S0.1)) (C := RX6) (T := TX6) (N := 22) hx hb hts in_X6 hown hK hP 0 rfl rfl 7 (by decide) f71 (fun _ h9 => h9) rfl dX6_open_113 ?_
            exact hret dX6_open_116 (by rfl) hP hD hS
          · exact absurd (show oJ none < 0 by decide) c91
        · refine lv_aload_n hx hb dX6_open_23 rfl (lv_at hl 0 rfl) ?_
          refine lv_iload_n hx hb dX6_open_24 rfl (lv_at hl 2 rfl) ?_
          refine x_calli (va_runV (As := [.int (nI b1)]) (rest := []) ⟨hx, hb, hml, hown, hts⟩ (c_M_isHead hrd b1 (by omega)) (cwV 1 hts (tbV tw_756 tw_758 tw_74 tw_91 tw_759) rfl rfl rfl (by decide +kernel) ⟨Nat.le_of_ble_eq_true rfl, Nat.le_of_ble_eq_true rfl⟩) ⟨y_blind, va_recv hK hP (ci := 6) (q0 := 0) rfl rfl, y_pre hK hP hD⟩ rfl rfl hl.1 rfl (lv_room (Nat.le_of_ble_eq_true rfl)) dX6_open_25 ⟨Nat.zero_le _, Nat.zero_le _⟩) hS (fun H locs hP hD hS => ?_)
          have hP : va_P (dC, dI) vwCl (wM b cB cI cL rb rd 0 rQ rw ra ro 0 rk rv 0 fN fF fB fR 0 lB lR 0 0 1 0) H := hP
          have hD : va_D A (wM b cB cI cL rb rd 0 rQ rw ra ro 0 rk rv 0 fN fF fB fR 0 lB lR 0 0 1 0) := hD
          refine x_if_eq_b (tgt := 71) hx hb dX6_open_28 (by decide) (fun c28 => ?_) (fun c28 => ?_)
          · refine lv_iinc (v := nI (b1 + 1)) (lv' := [(2, .int (nI (b1 + 1))), (0, .ref (b 0)), (1, .int (oJ o))]) hx hb dX6_open_71 hl (k := 2) rfl (x_inc _) (by decide) rfl (fun ls hl => ?_)
            refine lv_goto (tgt := 18) hx hb dX6_open_74 (by decide) ?_
            exact ih18 (b1 + 1) o (by omega) (by omega) (by first | exact i18_1 | exact (fun c h => by have := Option.some.inj h; omega)) (by have h := i18_2; rw [show 2 - b1 = (2 - (b1 + 1)) + 1 by omega, hdL] at h; first | (rw [hd_no c28] at h; exact h) | (rw [hd_new c28] at h; exact h) | (rw [hd_gt c28 c66] at h; exact h) | (rw [hd_le c28 c66] at h; exact h)) _ _ hP hD hS ls (lv_sub hl [1, 2, 0] rfl)
          · rcases o with _ | a
            · have hl : lv_has ls 3 [(0, .ref (b 0)), (1, .int (oJ none)), (2, .int (nI b1))] := hl
              refine lv_iload_n hx hb dX6_open_31 rfl (lv_at hl 1 rfl) ?_
              refine lv_if_lt (tgt := 69) hx hb dX6_open_32 (by decide) (fun c32 => ?_) (fun c32 => ?_)
              · refine lv_iload_n hx hb dX6_open_69 rfl (lv_at hl 2 rfl) ?_
                refine lv_istore_n (lv' := [(1, .int (nI b1)), (0, .ref (b 0)), (2, .int (nI b1))]) hx hb dX6_open_70 rfl hl (by decide) rfl (fun ls hl => ?_)
                refine lv_iinc (v := nI (b1 + 1)) (lv' := [(2, .int (nI (b1 + 1))), (1, .int (nI b1)), (0, .ref (b 0))]) hx hb dX6_open_71 hl (k := 2) rfl (x_inc _) (by decide) rfl (fun ls hl => ?_)
                refine lv_goto (tgt := 18) hx hb dX6_open_74 (by decide) ?_
                have e1 : (nI b1) = (oJ (some b1)) := by rfl
                exact ih18 (b1 + 1) (some b1) (by omega) (by omega) (by first | exact i18_1 | exact (fun c h => by have := Option.some.inj h; omega)) (by have h := i18_2; rw [show 2 - b1 = (2 - (b1 + 1)) + 1 by omega, hdL] at h; first | (rw [hd_no c28] at h; exact h) | (rw [hd_new c28] at h; exact h) | (rw [hd_gt c28 c66] at h; exact h) | (rw [hd_le c28 c66] at h; exact h)) _ _ hP hD hS ls (x_lvc (l1 := [(0, .ref (b 0)), (1, .int (nI b1)), (2, .int (nI (b1 + 1)))]) (by rw [← e1]) (lv_sub hl [2, 1, 0] rfl))
              · exact absurd (show oJ none < 0 by decide) c32
            · have ha1 := i18_1 a rfl
              have hl : lv_has ls 3 [(0, .ref (b 0)), (1, .int (nI a)), (2, .int (nI b1))] := hl
              refine lv_iload_n hx hb dX6_open_31 rfl (lv_at hl 1 rfl) ?_
              refine x_if_lt (tgt := 69) hx hb dX6_open_32 (by decide) (by omega) ?_
              refine lv_aload_n hx hb dX6_open_35 rfl (lv_at hl 0 rfl) ?_
              refine va_get (D := (dC, dI)) (ci := 6) (v := .ref (b 1)) (C := RX6) (T := TX6) (N := 22) hx hb hts in_X6 hown hK hP 0 rfl rfl 1 (by decide) f7 (fun _ h9 => h9) rfl dX6_open_36 ?_
              refine lv_bipush (v := nI 64) hx hb dX6_open_39 (by decide) ?_
              refine lv_iload_n hx hb dX6_open_41 rfl (lv_at hl 2 rfl) ?_
              refine x_imul hx hb dX6_open_42 ?_
              refine lv_iconst (v := nI 2) hx hb dX6_open_43 (by decide) ?_
              refine x_iadd hx hb dX6_open_44 ?_
              refine lv_bipush (v := nI 6) hx hb dX6_open_45 (by decide) ?_
              refine x_calll (va_runS (As := [.ref (b 1), .int (nI ((64 * b1) + 2)), .int (nI 6)]) (rest := []) ⟨hx, hb, hml, hown, hts⟩ (c_M_number (k1 := 1) (t1 := 0) (g := rd) rfl (tyS_B cB cI cL) (by decide) hrd ((64 * b1) + 2) 6 (by omega) (by omega)) (va_cwS 3 hts (tbS tw_760 tw_761 tw_91 tw_762) rfl rfl rfl (by decide +kernel) ⟨Nat.le_of_ble_eq_true rfl, Nat.le_of_ble_eq_true rfl⟩) ⟨y_blind, y_pre hK hP hD⟩ rfl rfl hl.1 rfl (lv_room (Nat.le_of_ble_eq_true rfl)) dX6_open_47 ⟨Nat.zero_le _, Nat.zero_le _⟩) hS (fun H locs hP hD hS => ?_)
              have hP : va_P (dC, dI) vwCl (wM b cB cI cL rb rd 0 rQ rw ra ro 0 rk rv 0 fN fF fB fR 0 lB lR 0 0 1 0) H := hP
              have hD : va_D A (wM b cB cI cL rb rd 0 rQ rw ra ro 0 rk rv 0 fN fF fB fR 0 lB lR 0 0 1 0) := hD
              have hv47 : nm1 rd 6 ((64 * b1) + 2) < 281474976710656 := nm1_lt hrd 6 ((64 * b1) + 2)
              refine lv_aload_n hx hb dX6_open_50 rfl (lv_at hl 0 rfl) ?_
              refine va_get (D := (dC, dI)) (ci := 6) (v := .ref (b 1)) (C := RX6) (T := TX6) (N := 22) hx hb hts in_X6 hown hK hP 0 rfl rfl 1 (by decide) f7 (fun _ h9 => h9) rfl dX6_open_51 ?_
              refine lv_bipush (v := nI 64) hx hb dX6_open_54 (by decide) ?_
              refine lv_iload_n hx hb dX6_open_56 rfl (lv_at hl 1 rfl) ?_
              refine x_imul hx hb dX6_open_57 ?_
              refine lv_iconst (v := nI 2) hx hb dX6_open_58 (by decide) ?_
              refine x_iadd hx hb dX6_open_59 ?_
              refine lv_bipush (v := nI 6) hx hb dX6_open_60 (by decide) ?_
              refine x_calll (va_runS (As := [.ref (b 1), .int (nI ((64 * a) + 2)), .int (nI 6)]) (rest := [.long (lN (nm1 rd 6 ((64 * b1) + 2)))]) ⟨hx, hb, hml, hown, hts⟩ (c_M_number (k1 := 1) (t1 := 0) (g := rd) rfl (tyS_B cB cI cL) (by decide) hrd ((64 * a) + 2) 6 (by omega) (by omega)) (va_cwS 3 hts (tbS tw_760 tw_761 tw_91 tw_762) rfl rfl rfl (by decide +kernel) ⟨Nat.le_of_ble_eq_true rfl, Nat.le_of_ble_eq_true rfl⟩) ⟨y_blind, y_pre hK hP hD⟩ rfl rfl hl.1 rfl (lv_room (Nat.le_of_ble_eq_true rfl)) dX6_open_62 ⟨Nat.zero_le _, Nat.zero_le _⟩) hS (fun H locs hP hD hS => ?_)
              have hP : va_P (dC, dI) vwCl (wM b cB cI cL rb rd 0 rQ rw ra ro 0 rk rv 0 fN fF fB fR 0 lB lR 0 0 1 0) H := hP
              have hD : va_D A (wM b cB cI cL rb rd 0 rQ rw ra ro 0 rk rv 0 fN fF fB fR 0 lB lR 0 0 1 0) := hD
              have hv62 : nm1 rd 6 ((64 * a) + 2) < 281474976710656 := nm1_lt hrd 6 ((64 * a) + 2)
              refine W.lcmp hx hb dX6_open_65 ?_
              refine x_lif_le (tgt := 71) hx hb dX6_open_66 (by decide) (fun c66 => ?_) (fun c66 => ?_)
              · have c66 : nm1 rd 6 (64 * b1 + 2) ≤ nm1 rd 6 (64 * a + 2) := (pk_lLE (by omega) (by omega)).mp c66
                refine lv_iinc (v := nI (b1 + 1)) (lv' := [(2, .int (nI (b1 + 1))), (0, .ref (b 0)), (1, .int (nI a))]) hx hb dX6_open_71 hl (k := 2) rfl (x_inc _) (by decide) rfl (fun ls hl => ?_)
                refine lv_goto (tgt := 18) hx hb dX6_open_74 (by decide) ?_
                have e2 : (nI a) = (oJ (some a)) := by rfl
                exact ih18 (b1 + 1) (some a) (by omega) (by omega) (by first | exact i18_1 | exact (fun c h => by have := Option.some.inj h; omega)) (by have h := i18_2; rw [show 2 - b1 = (2 - (b1 + 1)) + 1 by omega, hdL] at h; first | (rw [hd_no c28] at h; exact h) | (rw [hd_new c28] at h; exact h) | (rw [hd_gt c28 c66] at h; exact h) | (rw [hd_le c28 c66] at h; exact h)) _ _ hP hD hS ls (x_lvc (l1 := [(0, .ref (b 0)), (1, .int (nI a)), (2, .int (nI (b1 + 1)))]) (by rw [← e2]) (lv_sub hl [1, 2, 0] rfl))
              · have c66 : nm1 rd 6 (64 * a + 2) < nm1 rd 6 (64 * b1 + 2) := Nat.lt_of_not_le (fun q => c66 ((pk_lLE (by omega) (by omega)).mpr q))
                refine lv_iload_n hx hb dX6_open_69 rfl (lv_at hl 2 rfl) ?_
                refine lv_istore_n (lv' := [(1, .int (nI b1)), (0, .ref (b 0)), (2, .int (nI b1))]) hx hb dX6_open_70 rfl hl (by decide) rfl (fun ls hl => ?_)
                refine lv_iinc (v := nI (b1 + 1)) (lv' := [(2, .int (nI (b1 + 1))), (1, .int (nI b1)), (0, .ref (b 0))]) hx hb dX6_open_71 hl (k := 2) rfl (x_inc _) (by decide) rfl (fun ls hl => ?_)
                refine lv_goto (tgt := 18) hx hb dX6_open_74 (by decide) ?_
                have e3 : (nI b1) = (oJ (some b1)) := by rfl
                exact ih18 (b1 + 1) (some b1) (by omega) (by omega) (by first | exact i18_1 | exact (fun c h => by have := Option.some.inj h; omega)) (by have h := i18_2; rw [show 2 - b1 = (2 - (b1 + 1)) + 1 by omega, hdL] at h; first | (rw [hd_no c28] at h; exact h) | (rw [hd_new c28] at h; exact h) | (rw [hd_gt c28 c66] at h; exact h) | (rw [hd_le c28 c66] at h; exact h)) _ _ hP hD hS ls (x_lvc (l1 := [(0, .ref (b 0)), (1, .int (nI b1)), (2, .int (nI (b1 + 1)))]) (by rw [← e3]) (lv_sub hl [2, 1, 0] rfl))
    have e4 : (-1) = (oJ none) := by rfl
    exact L18 (2 - 0 + 1) 0 none (by omega) (by omega) (by exact fun c h => by cases h) (by rfl) _ _ hP hD hS ls (x_lvc (l1 := [(0, .ref (b 0)), (1, .int ((-1))), (2, .int (nI 0))]) (by rw [← e4]) (lv_sub hl [2, 1, 0] rfl))
  · exact absurd (ho.symm.trans c4) (by decide)

set_option maxHeartbeats 4000000 in
set_option maxRecDepth 100000 in
theorem c_M_acknowledgedC {l : Launch} {dC : Nat → ClassId} {dI : Nat → Nat → Nat} {A : Nat → Prop} {b : Nat → Nat} {cB cI cL : ClassId} {rb : Nat} {rd : Nat → Nat} {rq : Nat} {rQ rw : Nat → Nat} {ra : Nat} {ro : Bool} {rn : Nat} {rk rv : Nat → Int64} {rf : Nat} {fN fF fB fR : Nat → Nat} {rl : Nat} {lB lR : Nat → Nat} {rt rg rx rz : Nat} (ho : ro = false) : Met l yX6_acknowledged (Cond.code yX6_acknowledged cX6_acknowledged 4 (some .int) :: TB) { frames := 1, cells := 0, slots := 0, locals := 22 } (xPre (fun _ => True) (dC, dI) A (tyS cB cI cL) (wM b cB cI cL rb rd rq rQ rw ra ro rn rk rv rf fN fF fB fR rl lB lR rt rg rx rz) [.ref (b 0)]) (xQi (dC, dI) A ((-4)) (wM b cB cI cL rb rd rq rQ rw ra ro rn rk rv rf fN fF fB fR rl lB lR rt rg rx rz)) 0 0 A := by
  refine x_ofWi (cc := cX6_acknowledged) (maxL := 4) (by decide) rfl (Nat.le_of_ble_eq_true rfl) ?_
  intro p e s m args below meth c Q hx hb hml hts hown hK hN hP hD hS hret ls hl
  have hl : lv_has ls 4 [(0, .ref (b 0))] := hl
  have hown : s.vm.findClass RX6 = some m.cls := hown
  have f105 := hts _ (List.mem_cons_of_mem _ tw_612)
  have in_X6 := (fun q hq => List.mem_cons_of_mem _ (inX6 q hq) : ∀ q ∈ wsX60, q ∈ (Cond.code yX6_acknowledged cX6_acknowledged 4 (some .int) :: TB))
  refine lv_aload_n hx hb dX6_acknowledged_0 rfl (lv_at hl 0 rfl) ?_
  refine va_get (D := (dC, dI)) (ci := 6) (v := .int (bI ro)) (C := RX6) (T := TX6) (N := 22) hx hb hts in_X6 hown hK hP 0 rfl rfl 6 (by decide) f105 (fun _ h9 => h9) rfl dX6_acknowledged_1 ?_
  refine x_if_ne_b (tgt := 10) hx hb dX6_acknowledged_4 (by decide) (fun c4 => ?_) (fun c4 => ?_)
  · exact absurd (ho.symm.trans c4) (by decide)
  · refine lv_bipush (v := (-4)) hx hb dX6_acknowledged_7 (by decide) ?_
    exact hret dX6_acknowledged_9 (by rfl) hP hD hS

set_option maxHeartbeats 4000000 in
set_option maxRecDepth 100000 in
theorem c_M_acknowledgedO {l : Launch} {dC : Nat → ClassId} {dI : Nat → Nat → Nat} {A : Nat → Prop} {b : Nat → Nat} {cB cI cL : ClassId} {rb : Nat} {rd : Nat → Nat} {rq : Nat} {rQ rw : Nat → Nat} {ra : Nat} {ro : Bool} {rn : Nat} {rk rv : Nat → Int64} {rf : Nat} {fN fF fB fR : Nat → Nat} {rl : Nat} {lB lR : Nat → Nat} {rt rg rx rz : Nat} (hrQ : ∀ j, rQ j < 64) (hrq : rq ≤ 128) (hrl : rl ≤ 62) (hlB : ∀ j, lB j < 1048576) (hlR : ∀ j, lR j < 1048576) (hrt : rt ≤ rn ∧ rt ≤ 3) (ho : ro = true) : Met l yX6_acknowledged (Cond.code yX6_acknowledged cX6_acknowledged 4 (some .int) :: TB) { frames := 1, cells := 0, slots := 0, locals := 22 } (xPre (fun _ => True) (dC, dI) A (tyS cB cI cL) (wM b cB cI cL rb rd rq rQ rw ra ro rn rk rv rf fN fF fB fR rl lB lR rt rg rx rz) [.ref (b 0)]) (xQi (dC, dI) A ((akM rQ rq lB lR rl (lN rx - lN 1 - lN rt)).toInt32) (wM b cB cI cL rb rd rq rQ rw ra ro rn rk rv rf fN fF fB fR rl lB lR rt rg rx rz)) 0 0 A := by
  refine x_ofWi (cc := cX6_acknowledged) (maxL := 4) (by decide) rfl (Nat.le_of_ble_eq_true rfl) ?_
  intro p e s m args below meth c Q hx hb hml hts hown hK hN hP hD hS hret ls hl
  have hl : lv_has ls 4 [(0, .ref (b 0))] := hl
  have hown : s.vm.findClass RX6 = some m.cls := hown
  have f105 := hts _ (List.mem_cons_of_mem _ tw_612)
  have in_X6 := (fun q hq => List.mem_cons_of_mem _ (inX6 q hq) : ∀ q ∈ wsX60, q ∈ (Cond.code yX6_acknowledged cX6_acknowledged 4 (some .int) :: TB))
  have f87 := hts _ (List.mem_cons_of_mem _ tw_626)
  have f80 := hts _ (List.mem_cons_of_mem _ tw_624)
  have f77 := hts _ (List.mem_cons_of_mem _ tw_621)
  have f39 := hts _ (List.mem_cons_of_mem _ tw_622)
  have f42 := hts _ (List.mem_cons_of_mem _ tw_623)
  refine lv_aload_n hx hb dX6_acknowledged_0 rfl (lv_at hl 0 rfl) ?_
  refine va_get (D := (dC, dI)) (ci := 6) (v := .int (bI ro)) (C := RX6) (T := TX6) (N := 22) hx hb hts in_X6 hown hK hP 0 rfl rfl 6 (by decide) f105 (fun _ h9 => h9) rfl dX6_acknowledged_1 ?_
  refine x_if_ne_b (tgt := 10) hx hb dX6_acknowledged_4 (by decide) (fun c4 => ?_) (fun c4 => ?_)
  · refine lv_aload_n hx hb dX6_acknowledged_10 rfl (lv_at hl 0 rfl) ?_
    refine va_get (D := (dC, dI)) (ci := 6) (v := .long (lN rx)) (C := RX6) (T := TX6) (N := 22) hx hb hts in_X6 hown hK hP 0 rfl rfl 20 (by decide) f87 (fun _ h9 => h9) rfl dX6_acknowledged_11 ?_
    refine lv_lconst (v := lN 1) hx hb dX6_acknowledged_14 rfl ?_
    refine lv_lsub hx hb dX6_acknowledged_15 ?_
    refine lv_aload_n hx hb dX6_acknowledged_16 rfl (lv_at hl 0 rfl) ?_
    refine va_get (D := (dC, dI)) (ci := 6) (v := .int (nI rt)) (C := RX6) (T := TX6) (N := 22) hx hb hts in_X6 hown hK hP 0 rfl rfl 18 (by decide) f80 (fun _ h9 => h9) rfl dX6_acknowledged_17 ?_
    refine lv_i2l (v := lN rt) hx hb dX6_acknowledged_20 (nI_l (by omega)) ?_
    refine lv_lsub hx hb dX6_acknowledged_21 ?_
    refine lv_lstore_n (lv' := [(1, .long (((lN rx - lN 1) - lN rt))), (0, .ref (b 0))]) hx hb dX6_acknowledged_22 rfl hl (by decide) rfl (fun ls hl => ?_)
    refine lv_aload_n hx hb dX6_acknowledged_23 rfl (lv_at hl 1 rfl) ?_
    refine va_get (D := (dC, dI)) (ci := 6) (v := .int (nI rl)) (C := RX6) (T := TX6) (N := 22) hx hb hts in_X6 hown hK hP 0 rfl rfl 15 (by decide) f77 (fun _ h9 => h9) rfl dX6_acknowledged_24 ?_
    refine lv_iconst (v := nI 1) hx hb dX6_acknowledged_27 (by decide) ?_
    refine lv_isub hx hb dX6_acknowledged_28 ?_
    refine lv_istore_n (lv' := [(3, .int ((nI rl - nI 1))), (1, .long (((lN rx - lN 1) - lN rt))), (0, .ref (b 0))]) hx hb dX6_acknowledged_29 rfl hl (by decide) rfl (fun ls hl => ?_)
    have L30 : ∀ (fu30 : Nat) (j : Nat) (v : Int64), (j < fu30) → (j ≤ rl) → (akM rQ rq lB lR j v = akM rQ rq lB lR rl (lN rx - lN 1 - lN rt)) → ∀ (H : Heap) (locs : List Loc), va_P (dC, dI) vwCl (wM b cB cI cL rb rd rq rQ rw ra ro rn rk rv rf fN fF fB fR rl lB lR rt rg rx rz) H → va_D A (wM b cB cI cL rb rd rq rQ rw ra ro rn rk rv rf fN fF fB fR rl lB lR rt rg rx rz) → va_S A s.heap H locs → ∀ (ls : Array Slot), lv_has ls 4 [(0, .ref (b 0)), (1, .long (v)), (3, .int ((nI j - nI 1)))] → W p l e { frames := 1, cells := 0, slots := 0, locals := 22 } s m args below meth c H locs 0 0 Q (F0 m 30 ls []) := by
      intro fu30
      induction fu30 with
      | zero => intro j v hm; exact absurd hm (Nat.not_lt_zero _)
      | succ fu30 ih30 =>
        intro j v hm i30_0 i30_1 H locs hP hD hS ls hl
        refine lv_iload_n hx hb dX6_acknowledged_30 rfl (lv_at hl 2 rfl) ?_
        refine lv_if_lt (tgt := 63) hx hb dX6_acknowledged_31 (by decide) (fun c31 => ?_) (fun c31 => ?_)
        · have c31 : j = 0 := x_pred0 (by omega) c31
          subst c31
          refine lv_lload_n hx hb dX6_acknowledged_63 rfl (lv_at hl 1 rfl) ?_
          refine lv_l2i hx hb dX6_acknowledged_64 rfl ?_
          exact hret dX6_acknowledged_65 (by have h := i30_1; rw [akM] at h; rw [h]) hP hD hS
        · have c31 : 0 < j := x_predP (by omega) c31
          have e6 : nI j - nI 1 = nI (j - 1) := pk_sub (by omega)
          rw [e6] at hl
          have q1 := hlB (j - 1)
          have q2 := hlR (j - 1)
          refine lv_aload_n hx hb dX6_acknowledged_34 rfl (lv_at hl 0 rfl) ?_
          refine lv_aload_n hx hb dX6_acknowledged_35 rfl (lv_at hl 0 rfl) ?_
          refine va_get (D := (dC, dI)) (ci := 6) (v := .ref (b 10)) (C := RX6) (T := TX6) (N := 22) hx hb hts in_X6 hown hK hP 0 rfl rfl 16 (by decide) f39 (fun _ h9 => h9) rfl dX6_acknowledged_36 ?_
          refine lv_iload_n hx hb dX6_acknowledged_39 rfl (lv_at hl 2 rfl) ?_
          refine x_iald hx hb hK hP 10 1 rfl rfl (by omega) (by decide) dX6_acknowledged_40 ?_
          refine x_calli (va_runV (As := [.int (nI (lB (j - 1)))]) (rest := []) ⟨hx, hb, hml, hown, hts⟩ (c_M_isQueued hrQ (by omega) (lB (j - 1)) (by omega)) (cwV 1 hts (tbV tw_797 tw_799 tw_82 tw_91 tw_800) rfl rfl rfl (by decide +kernel) ⟨Nat.le_of_ble_eq_true rfl, Nat.le_of_ble_eq_true rfl⟩) ⟨y_blind, va_recv hK hP (ci := 6) (q0 := 0) rfl rfl, y_pre hK hP hD⟩ rfl rfl hl.1 rfl (lv_room (Nat.le_of_ble_eq_true rfl)) dX6_acknowledged_41 ⟨Nat.zero_le _, Nat.zero_le _⟩) hS (fun H locs hP hD hS => ?_)
          have hP : va_P (dC, dI) vwCl (wM b cB cI cL rb rd rq rQ rw ra ro rn rk rv rf fN fF fB fR rl lB lR rt rg rx rz) H := hP
          have hD : va_D A (wM b cB cI cL rb rd rq rQ rw ra ro rn rk rv rf fN fF fB fR rl lB lR rt rg rx rz) := hD
          refine x_if_eq_b (tgt := 57) hx hb dX6_acknowledged_44 (by decide) (fun c44 => ?_) (fun c44 => ?_)
          · refine lv_iinc (v := (nI (j - 1) - nI 1)) (lv' := [(3, .int ((nI (j - 1) - nI 1))), (0, .ref (b 0)), (1, .long (v))]) hx hb dX6_acknowledged_57 hl (k := 2) rfl (x_decm _) (by decide) rfl (fun ls hl => ?_)
            refine lv_goto (tgt := 30) hx hb dX6_acknowledged_60 (by decide) ?_
            exact ih30 (j - 1) v (by omega) (by omega) (by have h := i30_1; rw [show j = (j - 1) + 1 by omega, akM] at h; first | (rw [if_pos c44] at h; exact h) | (rw [if_neg (by rw [c44]; decide)] at h; exact h)) _ _ hP hD hS ls (lv_sub hl [1, 2, 0] rfl)
          · refine lv_lload_n hx hb dX6_acknowledged_47 rfl (lv_at hl 1 rfl) ?_
            refine lv_aload_n hx hb dX6_acknowledged_48 rfl (lv_at hl 0 rfl) ?_
            refine va_get (D := (dC, dI)) (ci := 6) (v := .ref (b 11)) (C := RX6) (T := TX6) (N := 22) hx hb hts in_X6 hown hK hP 0 rfl rfl 17 (by decide) f42 (fun _ h9 => h9) rfl dX6_acknowledged_49 ?_
            refine lv_iload_n hx hb dX6_acknowledged_52 rfl (lv_at hl 2 rfl) ?_
            refine x_iald hx hb hK hP 11 1 rfl rfl (by omega) (by decide) dX6_acknowledged_53 ?_
            refine lv_i2l (v := lN (lR (j - 1))) hx hb dX6_acknowledged_54 (nI_l (by omega)) ?_
            refine lv_lsub hx hb dX6_acknowledged_55 ?_
            refine lv_lstore_n (lv' := [(1, .long ((v - lN (lR (j - 1))))), (0, .ref (b 0)), (3, .int (nI (j - 1)))]) hx hb dX6_acknowledged_56 rfl hl (by decide) rfl (fun ls hl => ?_)
            refine lv_iinc (v := (nI (j - 1) - nI 1)) (lv' := [(3, .int ((nI (j - 1) - nI 1))), (1, .long ((v - lN (lR (j - 1))))), (0, .ref (b 0))]) hx hb dX6_acknowledged_57 hl (k := 2) rfl (x_decm _) (by decide) rfl (fun ls hl => ?_)
            refine lv_goto (tgt := 30) hx hb dX6_acknowledged_60 (by decide) ?_
            exact ih30 (j - 1) (v - lN (lR (j - 1))) (by omega) (by omega) (by have h := i30_1; rw [show j = (j - 1) + 1 by omega, akM] at h; first | (rw [if_pos c44] at h; exact h) | (rw [if_neg (by rw [c44]; decide)] at h; exact h)) _ _ hP hD hS ls (lv_sub hl [2, 1, 0] rfl)
    exact L30 (rl + 1) rl (lN rx - lN 1 - lN rt) (by omega) (by omega) (by rfl) _ _ hP hD hS ls (lv_sub hl [2, 1, 0] rfl)
  · exact absurd (ho.symm.trans c4) (by decide)

set_option maxHeartbeats 4000000 in
set_option maxRecDepth 100000 in
theorem c_M_get {l : Launch} {dC : Nat → ClassId} {dI : Nat → Nat → Nat} {A : Nat → Prop} {b : Nat → Nat} {cB cI cL : ClassId} {rb : Nat} {rd : Nat → Nat} {rq : Nat} {rQ rw : Nat → Nat} {ra : Nat} {ro : Bool} {rn : Nat} {rk rv : Nat → Int64} {rf : Nat} {fN fF fB fR : Nat → Nat} {rl : Nat} {lB lR : Nat → Nat} {rt rg rx rz : Nat} (hrn : rn ≤ 210) (k : Int64) : Met l yX6_get (Cond.code yX6_get cX6_get 6 (some .long) :: TB) { frames := 0, cells := 0, slots := 0, locals := 0 } (xPre (fun _ => True) (dC, dI) A (tyS cB cI cL) (wM b cB cI cL rb rd rq rQ rw ra ro rn rk rv rf fN fF fB fR rl lB lR rt rg rx rz) [.ref (b 0), .long (k)]) (xQl (dC, dI) A (gtM rk rv k rn 0 (lN 0)) (wM b cB cI cL rb rd rq rQ rw ra ro rn rk rv rf fN fF fB fR rl lB lR rt rg rx rz)) 0 0 A := by
  refine x_ofWl (cc := cX6_get) (maxL := 6) (by decide) rfl (Nat.le_of_ble_eq_true rfl) ?_
  intro p e s m args below meth c Q hx hb hml hts hown hK hN hP hD hS hret ls hl
  have hl : lv_has ls 6 [(0, .ref (b 0)), (1, .long (k))] := hl
  have hown : s.vm.findClass RX6 = some m.cls := hown
  have f71 := hts _ (List.mem_cons_of_mem _ tw_613)
  have in_X6 := (fun q hq => List.mem_cons_of_mem _ (inX6 q hq) : ∀ q ∈ wsX60, q ∈ (Cond.code yX6_get cX6_get 6 (some .long) :: TB))
  have f20 := hts _ (List.mem_cons_of_mem _ tw_614)
  have f24 := hts _ (List.mem_cons_of_mem _ tw_615)
  refine lv_lconst (v := lN 0) hx hb dX6_get_0 rfl ?_
  refine lv_lstore_n (lv' := [(3, .long (lN 0)), (0, .ref (b 0)), (1, .long (k))]) hx hb dX6_get_1 rfl hl (by decide) rfl (fun ls hl => ?_)
  refine lv_iconst (v := nI 0) hx hb dX6_get_2 (by decide) ?_
  refine lv_istore (lv' := [(5, .int (nI 0)), (3, .long (lN 0)), (0, .ref (b 0)), (1, .long (k))]) hx hb dX6_get_3 hl (by decide) rfl (fun ls hl => ?_)
  have L5 : ∀ (fu5 : Nat) (i : Nat) (v : Int64), (rn - i < fu5) → (i ≤ rn) → (gtM rk rv k (rn - i) i v = gtM rk rv k rn 0 (lN 0)) → ∀ (H : Heap) (locs : List Loc), va_P (dC, dI) vwCl (wM b cB cI cL rb rd rq rQ rw ra ro rn rk rv rf fN fF fB fR rl lB lR rt rg rx rz) H → va_D A (wM b cB cI cL rb rd rq rQ rw ra ro rn rk rv rf fN fF fB fR rl lB lR rt rg rx rz) → va_S A s.heap H locs → ∀ (ls : Array Slot), lv_has ls 6 [(0, .ref (b 0)), (1, .long (k)), (3, .long (v)), (5, .int (nI i))] → W p l e { frames := 0, cells := 0, slots := 0, locals := 0 } s m args below meth c H locs 0 0 Q (F0 m 5 ls []) := by
    intro fu5
    induction fu5 with
    | zero => intro i v hm; exact absurd hm (Nat.not_lt_zero _)
    | succ fu5 ih5 =>
      intro i v hm i5_0 i5_1 H locs hP hD hS ls hl
      refine lv_iload hx hb dX6_get_5 (lv_at hl 3 rfl) ?_
      refine lv_aload_n hx hb dX6_get_7 rfl (lv_at hl 0 rfl) ?_
      refine va_get (D := (dC, dI)) (ci := 6) (v := .int (nI rn)) (C := RX6) (T := TX6) (N := 22) hx hb hts in_X6 hown hK hP 0 rfl rfl 7 (by decide) f71 (fun _ h9 => h9) rfl dX6_get_8 ?_
      refine x_icmp_ge (tgt := 44) hx hb dX6_get_11 (by decide) (by omega) (by omega) (fun c11 => ?_) (fun c11 => ?_)
      · refine lv_lload_n hx hb dX6_get_44 rfl (lv_at hl 2 rfl) ?_
        exact hret dX6_get_45 (by have h := i5_1; rw [show rn - i = 0 by omega, gtM] at h; exact h) hP hD hS
      · refine lv_aload_n hx hb dX6_get_14 rfl (lv_at hl 0 rfl) ?_
        refine va_get (D := (dC, dI)) (ci := 6) (v := .ref (b 4)) (C := RX6) (T := TX6) (N := 22) hx hb hts in_X6 hown hK hP 0 rfl rfl 8 (by decide) f20 (fun _ h9 => h9) rfl dX6_get_15 ?_
        refine lv_iload hx hb dX6_get_18 (lv_at hl 3 rfl) ?_
        refine x_lald hx hb hK hP 4 2 rfl rfl (by omega) (by decide) dX6_get_20 ?_
        refine lv_lload_n hx hb dX6_get_21 rfl (lv_at hl 1 rfl) ?_
        refine W.lcmp hx hb dX6_get_22 ?_
        refine x_lif_ne (tgt := 36) hx hb dX6_get_23 (by decide) (fun c23 => ?_) (fun c23 => ?_)
        · refine lv_lload_n hx hb dX6_get_36 rfl (lv_at hl 2 rfl) ?_
          refine lv_lstore_n (lv' := [(3, .long (v)), (0, .ref (b 0)), (1, .long (k)), (5, .int (nI i))]) hx hb dX6_get_37 rfl hl (by decide) rfl (fun ls hl => ?_)
          refine lv_iinc (v := nI (i + 1)) (lv' := [(5, .int (nI (i + 1))), (3, .long (v)), (0, .ref (b 0)), (1, .long (k))]) hx hb dX6_get_38 hl (k := 3) rfl (x_inc _) (by decide) rfl (fun ls hl => ?_)
          refine lv_goto (tgt := 5) hx hb dX6_get_41 (by decide) ?_
          exact ih5 (i + 1) v (by omega) (by omega) (by have h := i5_1; rw [show rn - i = (rn - (i + 1)) + 1 by omega, gtM] at h; first | (rw [if_pos c23] at h; exact h) | (rw [if_neg c23] at h; exact h)) _ _ hP hD hS ls (lv_sub hl [2, 3, 1, 0] rfl)
        · refine lv_aload_n hx hb dX6_get_26 rfl (lv_at hl 0 rfl) ?_
          refine va_get (D := (dC, dI)) (ci := 6) (v := .ref (b 5)) (C := RX6) (T := TX6) (N := 22) hx hb hts in_X6 hown hK hP 0 rfl rfl 9 (by decide) f24 (fun _ h9 => h9) rfl dX6_get_27 ?_
          refine lv_iload hx hb dX6_get_30 (lv_at hl 3 rfl) ?_
          refine x_lald hx hb hK hP 5 2 rfl rfl (by omega) (by decide) dX6_get_32 ?_
          refine lv_goto (tgt := 37) hx hb dX6_get_33 (by decide) ?_
          refine lv_lstore_n (lv' := [(3, .long (rv i)), (0, .ref (b 0)), (1, .long (k)), (5, .int (nI i))]) hx hb dX6_get_37 rfl hl (by decide) rfl (fun ls hl => ?_)
          refine lv_iinc (v := nI (i + 1)) (lv' := [(5, .int (nI (i + 1))), (3, .long (rv i)), (0, .ref (b 0)), (1, .long (k))]) hx hb dX6_get_38 hl (k := 3) rfl (x_inc _) (by decide) rfl (fun ls hl => ?_)
          refine lv_goto (tgt := 5) hx hb dX6_get_41 (by decide) ?_
          exact ih5 (i + 1) (rv i) (by omega) (by omega) (by have h := i5_1; rw [show rn - i = (rn - (i + 1)) + 1 by omega, gtM] at h; first | (rw [if_pos c23] at h; exact h) | (rw [if_neg c23] at h; exact h)) _ _ hP hD hS ls (lv_sub hl [2, 3, 1, 0] rfl)
  exact L5 (rn - 0 + 1) 0 (lN 0) (by omega) (by omega) (by rfl) _ _ hP hD hS ls (lv_sub hl [2, 3, 1, 0] rfl)

set_option maxHeartbeats 4000000 in
set_option maxRecDepth 100000 in
theorem c_M_timesC {l : Launch} {dC : Nat → ClassId} {dI : Nat → Nat → Nat} {A : Nat → Prop} {b : Nat → Nat} {cB cI cL : ClassId} {rb : Nat} {rd : Nat → Nat} {rq : Nat} {rQ rw : Nat → Nat} {ra : Nat} {ro : Bool} {rn : Nat} {rk rv : Nat → Int64} {rf : Nat} {fN fF fB fR : Nat → Nat} {rl : Nat} {lB lR : Nat → Nat} {rt rg rx rz : Nat} (k : Int64) (ho : ro = false) : Met l yX6_times (Cond.code yX6_times cX6_times 5 (some .int) :: TB) { frames := 0, cells := 0, slots := 0, locals := 0 } (xPre (fun _ => True) (dC, dI) A (tyS cB cI cL) (wM b cB cI cL rb rd rq rQ rw ra ro rn rk rv rf fN fF fB fR rl lB lR rt rg rx rz) [.ref (b 0), .long (k)]) (xQi (dC, dI) A ((-4)) (wM b cB cI cL rb rd rq rQ rw ra ro rn rk rv rf fN fF fB fR rl lB lR rt rg rx rz)) 0 0 A := by
  refine x_ofWi (cc := cX6_times) (maxL := 5) (by decide) rfl (Nat.le_of_ble_eq_true rfl) ?_
  intro p e s m args below meth c Q hx hb hml hts hown hK hN hP hD hS hret ls hl
  have hl : lv_has ls 5 [(0, .ref (b 0)), (1, .long (k))] := hl
  have hown : s.vm.findClass RX6 = some m.cls := hown
  have f105 := hts _ (List.mem_cons_of_mem _ tw_612)
  have in_X6 := (fun q hq => List.mem_cons_of_mem _ (inX6 q hq) : ∀ q ∈ wsX60, q ∈ (Cond.code yX6_times cX6_times 5 (some .int) :: TB))
  refine lv_aload_n hx hb dX6_times_0 rfl (lv_at hl 0 rfl) ?_
  refine va_get (D := (dC, dI)) (ci := 6) (v := .int (bI ro)) (C := RX6) (T := TX6) (N := 22) hx hb hts in_X6 hown hK hP 0 rfl rfl 6 (by decide) f105 (fun _ h9 => h9) rfl dX6_times_1 ?_
  refine x_if_ne_b (tgt := 10) hx hb dX6_times_4 (by decide) (fun c4 => ?_) (fun c4 => ?_)
  · exact absurd (ho.symm.trans c4) (by decide)
  · refine lv_bipush (v := (-4)) hx hb dX6_times_7 (by decide) ?_
    exact hret dX6_times_9 (by rfl) hP hD hS

set_option maxHeartbeats 4000000 in
set_option maxRecDepth 100000 in
theorem c_M_timesO {l : Launch} {dC : Nat → ClassId} {dI : Nat → Nat → Nat} {A : Nat → Prop} {b : Nat → Nat} {cB cI cL : ClassId} {rb : Nat} {rd : Nat → Nat} {rq : Nat} {rQ rw : Nat → Nat} {ra : Nat} {ro : Bool} {rn : Nat} {rk rv : Nat → Int64} {rf : Nat} {fN fF fB fR : Nat → Nat} {rl : Nat} {lB lR : Nat → Nat} {rt rg rx rz : Nat} (hrn : rn ≤ 210) (k : Int64) (ho : ro = true) : Met l yX6_times (Cond.code yX6_times cX6_times 5 (some .int) :: TB) { frames := 0, cells := 0, slots := 0, locals := 0 } (xPre (fun _ => True) (dC, dI) A (tyS cB cI cL) (wM b cB cI cL rb rd rq rQ rw ra ro rn rk rv rf fN fF fB fR rl lB lR rt rg rx rz) [.ref (b 0), .long (k)]) (xQi (dC, dI) A (nI (tmM rk k rn 0 0)) (wM b cB cI cL rb rd rq rQ rw ra ro rn rk rv rf fN fF fB fR rl lB lR rt rg rx rz)) 0 0 A := by
  refine x_ofWi (cc := cX6_times) (maxL := 5) (by decide) rfl (Nat.le_of_ble_eq_true rfl) ?_
  intro p e s m args below meth c Q hx hb hml hts hown hK hN hP hD hS hret ls hl
  have hl : lv_has ls 5 [(0, .ref (b 0)), (1, .long (k))] := hl
  have hown : s.vm.findClass RX6 = some m.cls := hown
  have f105 := hts _ (List.mem_cons_of_mem _ tw_612)
  have in_X6 := (fun q hq => List.mem_cons_of_mem _ (inX6 q hq) : ∀ q ∈ wsX60, q ∈ (Cond.code yX6_times cX6_times 5 (some .int) :: TB))
  have f71 := hts _ (List.mem_cons_of_mem _ tw_613)
  have f20 := hts _ (List.mem_cons_of_mem _ tw_614)
  refine lv_aload_n hx hb dX6_times_0 rfl (lv_at hl 0 rfl) ?_
  refine va_get (D := (dC, dI)) (ci := 6) (v := .int (bI ro)) (C := RX6) (T := TX6) (N := 22) hx hb hts in_X6 hown hK hP 0 rfl rfl 6 (by decide) f105 (fun _ h9 => h9) rfl dX6_times_1 ?_
  refine x_if_ne_b (tgt := 10) hx hb dX6_times_4 (by decide) (fun c4 => ?_) (fun c4 => ?_)
  · refine lv_iconst (v := nI 0) hx hb dX6_times_10 (by decide) ?_
    refine lv_istore_n (lv' := [(3, .int (nI 0)), (0, .ref (b 0)), (1, .long (k))]) hx hb dX6_times_11 rfl hl (by decide) rfl (fun ls hl => ?_)
    refine lv_iconst (v := nI 0) hx hb dX6_times_12 (by decide) ?_
    refine lv_istore (lv' := [(4, .int (nI 0)), (3, .int (nI 0)), (0, .ref (b 0)), (1, .long (k))]) hx hb dX6_times_13 hl (by decide) rfl (fun ls hl => ?_)
    have L15 : ∀ (fu15 : Nat) (i : Nat) (v : Nat), (rn - i < fu15) → (i ≤ rn) → (tmM rk k (rn - i) i v = tmM rk k rn 0 0) → ∀ (H : Heap) (locs : List Loc), va_P (dC, dI) vwCl (wM b cB cI cL rb rd rq rQ rw ra ro rn rk rv rf fN fF fB fR rl lB lR rt rg rx rz) H → va_D A (wM b cB cI cL rb rd rq rQ rw ra ro rn rk rv rf fN fF fB fR rl lB lR rt rg rx rz) → va_S A s.heap H locs → ∀ (ls : Array Slot), lv_has ls 5 [(0, .ref (b 0)), (1, .long (k)), (3, .int (nI v)), (4, .int (nI i))] → W p l e { frames := 0, cells := 0, slots := 0, locals := 0 } s m args below meth c H locs 0 0 Q (F0 m 15 ls []) := by
      intro fu15
      induction fu15 with
      | zero => intro i v hm; exact absurd hm (Nat.not_lt_zero _)
      | succ fu15 ih15 =>
        intro i v hm i15_0 i15_1 H locs hP hD hS ls hl
        refine lv_iload hx hb dX6_times_15 (lv_at hl 3 rfl) ?_
        refine lv_aload_n hx hb dX6_times_17 rfl (lv_at hl 0 rfl) ?_
        refine va_get (D := (dC, dI)) (ci := 6) (v := .int (nI rn)) (C := RX6) (T := TX6) (N := 22) hx hb hts in_X6 hown hK hP 0 rfl rfl 7 (by decide) f71 (fun _ h9 => h9) rfl dX6_times_18 ?_
        refine x_icmp_ge (tgt := 50) hx hb dX6_times_21 (by decide) (by omega) (by omega) (fun c21 => ?_) (fun c21 => ?_)
        · refine lv_iload_n hx hb dX6_times_50 rfl (lv_at hl 2 rfl) ?_
          exact hret dX6_times_51 (by have h := i15_1; rw [show rn - i = 0 by omega, tmM] at h; rw [h]) hP hD hS
        · refine lv_iload_n hx hb dX6_times_24 rfl (lv_at hl 2 rfl) ?_
          refine lv_aload_n hx hb dX6_times_25 rfl (lv_at hl 0 rfl) ?_
          refine va_get (D := (dC, dI)) (ci := 6) (v := .ref (b 4)) (C := RX6) (T := TX6) (N := 22) hx hb hts in_X6 hown hK hP 0 rfl rfl 8 (by decide) f20 (fun _ h9 => h9) rfl dX6_times_26 ?_
          refine lv_iload hx hb dX6_times_29 (lv_at hl 3 rfl) ?_
          refine x_lald hx hb hK hP 4 2 rfl rfl (by omega) (by decide) dX6_times_31 ?_
          refine lv_lload_n hx hb dX6_times_32 rfl (lv_at hl 1 rfl) ?_
          refine W.lcmp hx hb dX6_times_33 ?_
          refine x_lif_ne (tgt := 41) hx hb dX6_times_34 (by decide) (fun c34 => ?_) (fun c34 => ?_)
          · refine lv_iconst (v := nI 0) hx hb dX6_times_41 (by decide) ?_
            refine x_iadd hx hb dX6_times_42 ?_
            refine lv_istore_n (lv' := [(3, .int (nI (v + 0))), (0, .ref (b 0)), (1, .long (k)), (4, .int (nI i))]) hx hb dX6_times_43 rfl hl (by decide) rfl (fun ls hl => ?_)
            refine lv_iinc (v := nI (i + 1)) (lv' := [(4, .int (nI (i + 1))), (3, .int (nI (v + 0))), (0, .ref (b 0)), (1, .long (k))]) hx hb dX6_times_44 hl (k := 3) rfl (x_inc _) (by decide) rfl (fun ls hl => ?_)
            refine lv_goto (tgt := 15) hx hb dX6_times_47 (by decide) ?_
            exact ih15 (i + 1) (v + 0) (by omega) (by omega) (by have h := i15_1; rw [show rn - i = (rn - (i + 1)) + 1 by omega, tmM] at h; first | (rw [if_pos c34] at h; exact h) | (rw [if_neg c34] at h; exact h)) _ _ hP hD hS ls (lv_sub hl [2, 3, 1, 0] rfl)
          · refine lv_iconst (v := nI 1) hx hb dX6_times_37 (by decide) ?_
            refine lv_goto (tgt := 42) hx hb dX6_times_38 (by decide) ?_
            refine x_iadd hx hb dX6_times_42 ?_
            refine lv_istore_n (lv' := [(3, .int (nI (v + 1))), (0, .ref (b 0)), (1, .long (k)), (4, .int (nI i))]) hx hb dX6_times_43 rfl hl (by decide) rfl (fun ls hl => ?_)
            refine lv_iinc (v := nI (i + 1)) (lv' := [(4, .int (nI (i + 1))), (3, .int (nI (v + 1))), (0, .ref (b 0)), (1, .long (k))]) hx hb dX6_times_44 hl (k := 3) rfl (x_inc _) (by decide) rfl (fun ls hl => ?_)
            refine lv_goto (tgt := 15) hx hb dX6_times_47 (by decide) ?_
            exact ih15 (i + 1) (v + 1) (by omega) (by omega) (by have h := i15_1; rw [show rn - i = (rn - (i + 1)) + 1 by omega, tmM] at h; first | (rw [if_pos c34] at h; exact h) | (rw [if_neg c34] at h; exact h)) _ _ hP hD hS ls (lv_sub hl [2, 3, 1, 0] rfl)
    exact L15 (rn - 0 + 1) 0 0 (by omega) (by omega) (by rfl) _ _ hP hD hS ls (lv_sub hl [2, 3, 1, 0] rfl)
  · exact absurd (ho.symm.trans c4) (by decide)

set_option maxHeartbeats 4000000 in
set_option maxRecDepth 100000 in
theorem c_M_fileB {l : Launch} {dC : Nat → ClassId} {dI : Nat → Nat → Nat} {A : Nat → Prop} {b : Nat → Nat} {cB cI cL : ClassId} {rb : Nat} {rd : Nat → Nat} {rq : Nat} {rQ rw : Nat → Nat} {ra : Nat} {ro : Bool} {rn : Nat} {rk rv : Nat → Int64} {rf : Nat} {fN fF fB fR : Nat → Nat} {rl : Nat} {lB lR : Nat → Nat} {rt rg rx rz : Nat} (x y : Int32) (hz : ¬ (isI x.toInt64 (lN 0) (lN 4) = true ∧ isI y.toInt64 (lN 0) (lN 3) = true)) : Met l yX6_file (Cond.code yX6_file cX6_file 3 (some .int) :: TB) { frames := 1, cells := 0, slots := 0, locals := 25 } (xPre (fun _ => True) (dC, dI) A (tyS cB cI cL) (wM b cB cI cL rb rd rq rQ rw ra ro rn rk rv rf fN fF fB fR rl lB lR rt rg rx rz) [.ref (b 0), .int (x), .int (y)]) (xQi (dC, dI) A ((-1)) (wM b cB cI cL rb rd rq rQ rw ra ro rn rk rv rf fN fF fB fR rl lB lR rt rg rx rz)) 0 0 A := by
  refine x_ofWi (cc := cX6_file) (maxL := 3) (by decide) rfl (Nat.le_of_ble_eq_true rfl) ?_
  intro p e s m args below meth c Q hx hb hml hts hown hK hN hP hD hS hret ls hl
  have hl : lv_has ls 3 [(0, .ref (b 0)), (1, .int (x)), (2, .int (y))] := hl
  have hown : s.vm.findClass RX6 = some m.cls := hown
  refine lv_iload_n hx hb dX6_file_0 rfl (lv_at hl 1 rfl) ?_
  refine lv_i2l hx hb dX6_file_1 rfl ?_
  refine lv_lconst (v := lN 0) hx hb dX6_file_2 rfl ?_
  refine lv_ldc2 (v := lN 4) hx hb hown (hts _ (List.mem_cons_of_mem _ tw_597)) dX6_file_3 ?_
  refine x_calli (va_runS (As := [.long (x.toInt64), .long (lN 0), .long (lN 4)]) (rest := []) ⟨hx, hb, hml, hown, hts⟩ (c_M_isIn x.toInt64 (lN 0) (lN 4)) (va_cwS 3 hts (tbS tw_599 tw_600 tw_91 tw_601) rfl rfl rfl (by decide +kernel) ⟨Nat.le_of_ble_eq_true rfl, Nat.le_of_ble_eq_true rfl⟩) ⟨y_blind, y_pre hK hP hD⟩ rfl rfl hl.1 rfl (lv_room (Nat.le_of_ble_eq_true rfl)) dX6_file_6 ⟨Nat.zero_le _, Nat.zero_le _⟩) hS (fun H locs hP hD hS => ?_)
  have hP : va_P (dC, dI) vwCl (wM b cB cI cL rb rd rq rQ rw ra ro rn rk rv rf fN fF fB fR rl lB lR rt rg rx rz) H := hP
  have hD : va_D A (wM b cB cI cL rb rd rq rQ rw ra ro rn rk rv rf fN fF fB fR rl lB lR rt rg rx rz) := hD
  refine x_if_eq_b (tgt := 24) hx hb dX6_file_9 (by decide) (fun c9 => ?_) (fun c9 => ?_)
  · refine lv_iconst (v := (-1)) hx hb dX6_file_24 (by decide) ?_
    exact hret dX6_file_25 (by rfl) hP hD hS
  · refine lv_iload_n hx hb dX6_file_12 rfl (lv_at hl 2 rfl) ?_
    refine lv_i2l hx hb dX6_file_13 rfl ?_
    refine lv_lconst (v := lN 0) hx hb dX6_file_14 rfl ?_
    refine lv_ldc2 (v := lN 3) hx hb hown (hts _ (List.mem_cons_of_mem _ tw_743)) dX6_file_15 ?_
    refine x_calli (va_runS (As := [.long (y.toInt64), .long (lN 0), .long (lN 3)]) (rest := []) ⟨hx, hb, hml, hown, hts⟩ (c_M_isIn y.toInt64 (lN 0) (lN 3)) (va_cwS 3 hts (tbS tw_599 tw_600 tw_91 tw_601) rfl rfl rfl (by decide +kernel) ⟨Nat.le_of_ble_eq_true rfl, Nat.le_of_ble_eq_true rfl⟩) ⟨y_blind, y_pre hK hP hD⟩ rfl rfl hl.1 rfl (lv_room (Nat.le_of_ble_eq_true rfl)) dX6_file_18 ⟨Nat.zero_le _, Nat.zero_le _⟩) hS (fun H locs hP hD hS => ?_)
    have hP : va_P (dC, dI) vwCl (wM b cB cI cL rb rd rq rQ rw ra ro rn rk rv rf fN fF fB fR rl lB lR rt rg rx rz) H := hP
    have hD : va_D A (wM b cB cI cL rb rd rq rQ rw ra ro rn rk rv rf fN fF fB fR rl lB lR rt rg rx rz) := hD
    refine x_if_ne_b (tgt := 26) hx hb dX6_file_21 (by decide) (fun c21 => ?_) (fun c21 => ?_)
    · exact absurd ⟨c9, c21⟩ hz
    · refine lv_iconst (v := (-1)) hx hb dX6_file_24 (by decide) ?_
      exact hret dX6_file_25 (by rfl) hP hD hS

set_option maxHeartbeats 4000000 in
set_option maxRecDepth 100000 in
theorem c_M_fileC {l : Launch} {dC : Nat → ClassId} {dI : Nat → Nat → Nat} {A : Nat → Prop} {b : Nat → Nat} {cB cI cL : ClassId} {rb : Nat} {rd : Nat → Nat} {rq : Nat} {rQ rw : Nat → Nat} {ra : Nat} {ro : Bool} {rn : Nat} {rk rv : Nat → Int64} {rf : Nat} {fN fF fB fR : Nat → Nat} {rl : Nat} {lB lR : Nat → Nat} {rt rg rx rz : Nat} (i w : Nat) (hi1 : i ≤ 4) (hw1 : w ≤ 3) (ho : ro = false) : Met l yX6_file (Cond.code yX6_file cX6_file 3 (some .int) :: TB) { frames := 1, cells := 0, slots := 0, locals := 25 } (xPre (fun _ => True) (dC, dI) A (tyS cB cI cL) (wM b cB cI cL rb rd rq rQ rw ra ro rn rk rv rf fN fF fB fR rl lB lR rt rg rx rz) [.ref (b 0), .int (nI i), .int (nI w)]) (xQi (dC, dI) A ((-4)) (wM b cB cI cL rb rd rq rQ rw ra ro rn rk rv rf fN fF fB fR rl lB lR rt rg rx rz)) 0 0 A := by
  refine x_ofWi (cc := cX6_file) (maxL := 3) (by decide) rfl (Nat.le_of_ble_eq_true rfl) ?_
  intro p e s m args below meth c Q hx hb hml hts hown hK hN hP hD hS hret ls hl
  have hl : lv_has ls 3 [(0, .ref (b 0)), (1, .int (nI i)), (2, .int (nI w))] := hl
  have hown : s.vm.findClass RX6 = some m.cls := hown
  have f105 := hts _ (List.mem_cons_of_mem _ tw_612)
  have in_X6 := (fun q hq => List.mem_cons_of_mem _ (inX6 q hq) : ∀ q ∈ wsX60, q ∈ (Cond.code yX6_file cX6_file 3 (some .int) :: TB))
  refine lv_iload_n hx hb dX6_file_0 rfl (lv_at hl 1 rfl) ?_
  refine lv_i2l (v := lN i) hx hb dX6_file_1 (nI_l (by omega)) ?_
  refine lv_lconst (v := lN 0) hx hb dX6_file_2 rfl ?_
  refine lv_ldc2 (v := lN 4) hx hb hown (hts _ (List.mem_cons_of_mem _ tw_597)) dX6_file_3 ?_
  refine x_calli (va_runS (As := [.long (lN i), .long (lN 0), .long (lN 4)]) (rest := []) ⟨hx, hb, hml, hown, hts⟩ (c_M_isInN i 0 4 (by omega) (by omega) (by omega)) (va_cwS 3 hts (tbS tw_599 tw_600 tw_91 tw_601) rfl rfl rfl (by decide +kernel) ⟨Nat.le_of_ble_eq_true rfl, Nat.le_of_ble_eq_true rfl⟩) ⟨y_blind, y_pre hK hP hD⟩ rfl rfl hl.1 rfl (lv_room (Nat.le_of_ble_eq_true rfl)) dX6_file_6 ⟨Nat.zero_le _, Nat.zero_le _⟩) hS (fun H locs hP hD hS => ?_)
  have hP : va_P (dC, dI) vwCl (wM b cB cI cL rb rd rq rQ rw ra ro rn rk rv rf fN fF fB fR rl lB lR rt rg rx rz) H := hP
  have hD : va_D A (wM b cB cI cL rb rd rq rQ rw ra ro rn rk rv rf fN fF fB fR rl lB lR rt rg rx rz) := hD
  refine x_if_eq_b (tgt := 24) hx hb dX6_file_9 (by decide) (fun c9 => ?_) (fun c9 => ?_)
  · exact absurd (of_decide_eq_false c9) (by omega)
  · refine lv_iload_n hx hb dX6_file_12 rfl (lv_at hl 2 rfl) ?_
    refine lv_i2l (v := lN w) hx hb dX6_file_13 (nI_l (by omega)) ?_
    refine lv_lconst (v := lN 0) hx hb dX6_file_14 rfl ?_
    refine lv_ldc2 (v := lN 3) hx hb hown (hts _ (List.mem_cons_of_mem _ tw_743)) dX6_file_15 ?_
    refine x_calli (va_runS (As := [.long (lN w), .long (lN 0), .long (lN 3)]) (rest := []) ⟨hx, hb, hml, hown, hts⟩ (c_M_isInN w 0 3 (by omega) (by omega) (by omega)) (va_cwS 3 hts (tbS tw_599 tw_600 tw_91 tw_601) rfl rfl rfl (by decide +kernel) ⟨Nat.le_of_ble_eq_true rfl, Nat.le_of_ble_eq_true rfl⟩) ⟨y_blind, y_pre hK hP hD⟩ rfl rfl hl.1 rfl (lv_room (Nat.le_of_ble_eq_true rfl)) dX6_file_18 ⟨Nat.zero_le _, Nat.zero_le _⟩) hS (fun H locs hP hD hS => ?_)
    have hP : va_P (dC, dI) vwCl (wM b cB cI cL rb rd rq rQ rw ra ro rn rk rv rf fN fF fB fR rl lB lR rt rg rx rz) H := hP
    have hD : va_D A (wM b cB cI cL rb rd rq rQ rw ra ro rn rk rv rf fN fF fB fR rl lB lR rt rg rx rz) := hD
    refine x_if_ne_b (tgt := 26) hx hb dX6_file_21 (by decide) (fun c21 => ?_) (fun c21 => ?_)
    · refine lv_aload_n hx hb dX6_file_26 rfl (lv_at hl 0 rfl) ?_
      refine va_get (D := (dC, dI)) (ci := 6) (v := .int (bI ro)) (C := RX6) (T := TX6) (N := 22) hx hb hts in_X6 hown hK hP 0 rfl rfl 6 (by decide) f105 (fun _ h9 => h9) rfl dX6_file_27 ?_
      refine x_if_ne_b (tgt := 36) hx hb dX6_file_30 (by decide) (fun c30 => ?_) (fun c30 => ?_)
      · exact absurd (ho.symm.trans c30) (by decide)
      · refine lv_bipush (v := (-4)) hx hb dX6_file_33 (by decide) ?_
        exact hret dX6_file_35 (by rfl) hP hD hS
    · exact absurd (of_decide_eq_false c21) (by omega)

set_option maxHeartbeats 4000000 in
set_option maxRecDepth 100000 in
theorem c_M_fileN {l : Launch} {dC : Nat → ClassId} {dI : Nat → Nat → Nat} {A : Nat → Prop} {b : Nat → Nat} {cB cI cL : ClassId} {rb : Nat} {rd : Nat → Nat} {rq : Nat} {rQ rw : Nat → Nat} {ra : Nat} {ro : Bool} {rn : Nat} {rk rv : Nat → Int64} {rf : Nat} {fN fF fB fR : Nat → Nat} {rl : Nat} {lB lR : Nat → Nat} {rt rg rx rz : Nat} (hrf : rf ≤ 5) (i w : Nat) (hi1 : i ≤ 4) (hw1 : w ≤ 3) (ho : ro = true) (hf1 : rf ≤ i) : Met l yX6_file (Cond.code yX6_file cX6_file 3 (some .int) :: TB) { frames := 1, cells := 0, slots := 0, locals := 25 } (xPre (fun _ => True) (dC, dI) A (tyS cB cI cL) (wM b cB cI cL rb rd rq rQ rw ra ro rn rk rv rf fN fF fB fR rl lB lR rt rg rx rz) [.ref (b 0), .int (nI i), .int (nI w)]) (xQi (dC, dI) A ((-1)) (wM b cB cI cL rb rd rq rQ rw ra ro rn rk rv rf fN fF fB fR rl lB lR rt rg rx rz)) 0 0 A := by
  refine x_ofWi (cc := cX6_file) (maxL := 3) (by decide) rfl (Nat.le_of_ble_eq_true rfl) ?_
  intro p e s m args below meth c Q hx hb hml hts hown hK hN hP hD hS hret ls hl
  have hl : lv_has ls 3 [(0, .ref (b 0)), (1, .int (nI i)), (2, .int (nI w))] := hl
  have hown : s.vm.findClass RX6 = some m.cls := hown
  have f105 := hts _ (List.mem_cons_of_mem _ tw_612)
  have in_X6 := (fun q hq => List.mem_cons_of_mem _ (inX6 q hq) : ∀ q ∈ wsX60, q ∈ (Cond.code yX6_file cX6_file 3 (some .int) :: TB))
  have f74 := hts _ (List.mem_cons_of_mem _ tw_616)
  refine lv_iload_n hx hb dX6_file_0 rfl (lv_at hl 1 rfl) ?_
  refine lv_i2l (v := lN i) hx hb dX6_file_1 (nI_l (by omega)) ?_
  refine lv_lconst (v := lN 0) hx hb dX6_file_2 rfl ?_
  refine lv_ldc2 (v := lN 4) hx hb hown (hts _ (List.mem_cons_of_mem _ tw_597)) dX6_file_3 ?_
  refine x_calli (va_runS (As := [.long (lN i), .long (lN 0), .long (lN 4)]) (rest := []) ⟨hx, hb, hml, hown, hts⟩ (c_M_isInN i 0 4 (by omega) (by omega) (by omega)) (va_cwS 3 hts (tbS tw_599 tw_600 tw_91 tw_601) rfl rfl rfl (by decide +kernel) ⟨Nat.le_of_ble_eq_true rfl, Nat.le_of_ble_eq_true rfl⟩) ⟨y_blind, y_pre hK hP hD⟩ rfl rfl hl.1 rfl (lv_room (Nat.le_of_ble_eq_true rfl)) dX6_file_6 ⟨Nat.zero_le _, Nat.zero_le _⟩) hS (fun H locs hP hD hS => ?_)
  have hP : va_P (dC, dI) vwCl (wM b cB cI cL rb rd rq rQ rw ra ro rn rk rv rf fN fF fB fR rl lB lR rt rg rx rz) H := hP
  have hD : va_D A (wM b cB cI cL rb rd rq rQ rw ra ro rn rk rv rf fN fF fB fR rl lB lR rt rg rx rz) := hD
  refine x_if_eq_b (tgt := 24) hx hb dX6_file_9 (by decide) (fun c9 => ?_) (fun c9 => ?_)
  · exact absurd (of_decide_eq_false c9) (by omega)
  · refine lv_iload_n hx hb dX6_file_12 rfl (lv_at hl 2 rfl) ?_
    refine lv_i2l (v := lN w) hx hb dX6_file_13 (nI_l (by omega)) ?_
    refine lv_lconst (v := lN 0) hx hb dX6_file_14 rfl ?_
    refine lv_ldc2 (v := lN 3) hx hb hown (hts _ (List.mem_cons_of_mem _ tw_743)) dX6_file_15 ?_
    refine x_calli (va_runS (As := [.long (lN w), .long (lN 0), .long (lN 3)]) (rest := []) ⟨hx, hb, hml, hown, hts⟩ (c_M_isInN w 0 3 (by omega) (by omega) (by omega)) (va_cwS 3 hts (tbS tw_599 tw_600 tw_91 tw_601) rfl rfl rfl (by decide +kernel) ⟨Nat.le_of_ble_eq_true rfl, Nat.le_of_ble_eq_true rfl⟩) ⟨y_blind, y_pre hK hP hD⟩ rfl rfl hl.1 rfl (lv_room (Nat.le_of_ble_eq_true rfl)) dX6_file_18 ⟨Nat.zero_le _, Nat.zero_le _⟩) hS (fun H locs hP hD hS => ?_)
    have hP : va_P (dC, dI) vwCl (wM b cB cI cL rb rd rq rQ rw ra ro rn rk rv rf fN fF fB fR rl lB lR rt rg rx rz) H := hP
    have hD : va_D A (wM b cB cI cL rb rd rq rQ rw ra ro rn rk rv rf fN fF fB fR rl lB lR rt rg rx rz) := hD
    refine x_if_ne_b (tgt := 26) hx hb dX6_file_21 (by decide) (fun c21 => ?_) (fun c21 => ?_)
    · refine lv_aload_n hx hb dX6_file_26 rfl (lv_at hl 0 rfl) ?_
      refine va_get (D := (dC, dI)) (ci := 6) (v := .int (bI ro)) (C := RX6) (T := TX6) (N := 22) hx hb hts in_X6 hown hK hP 0 rfl rfl 6 (by decide) f105 (fun _ h9 => h9) rfl dX6_file_27 ?_
      refine x_if_ne_b (tgt := 36) hx hb dX6_file_30 (by decide) (fun c30 => ?_) (fun c30 => ?_)
      · refine lv_iload_n hx hb dX6_file_36 rfl (lv_at hl 1 rfl) ?_
        refine lv_aload_n hx hb dX6_file_37 rfl (lv_at hl 0 rfl) ?_
        refine va_get (D := (dC, dI)) (ci := 6) (v := .int (nI rf)) (C := RX6) (T := TX6) (N := 22) hx hb hts in_X6 hown hK hP 0 rfl rfl 10 (by decide) f74 (fun _ h9 => h9) rfl dX6_file_38 ?_
        refine x_icmp_lt (tgt := 46) hx hb dX6_file_41 (by decide) (by omega) (by omega) (fun c41 => ?_) (fun c41 => ?_)
        · exact absurd c41 (by omega)
        · refine lv_iconst (v := (-1)) hx hb dX6_file_44 (by decide) ?_
          exact hret dX6_file_45 (by rfl) hP hD hS
      · exact absurd (ho.symm.trans c30) (by decide)
    · exact absurd (of_decide_eq_false c21) (by omega)

set_option maxHeartbeats 4000000 in
set_option maxRecDepth 100000 in
theorem c_M_fileO {l : Launch} {dC : Nat → ClassId} {dI : Nat → Nat → Nat} {A : Nat → Prop} {b : Nat → Nat} {cB cI cL : ClassId} {rb : Nat} {rd : Nat → Nat} {rq : Nat} {rQ rw : Nat → Nat} {ra : Nat} {ro : Bool} {rn : Nat} {rk rv : Nat → Int64} {rf : Nat} {fN fF fB fR : Nat → Nat} {rl : Nat} {lB lR : Nat → Nat} {rt rg rx rz : Nat} (hrf : rf ≤ 5) (i w : Nat) (hi1 : i ≤ 4) (hw1 : w ≤ 3) (ho : ro = true) (hf1 : i < rf) : Met l yX6_file (Cond.code yX6_file cX6_file 3 (some .int) :: TB) { frames := 1, cells := 0, slots := 0, locals := 25 } (xPre (fun _ => True) (dC, dI) A (tyS cB cI cL) (wM b cB cI cL rb rd rq rQ rw ra ro rn rk rv rf fN fF fB fR rl lB lR rt rg rx rz) [.ref (b 0), .int (nI i), .int (nI w)]) (xQi (dC, dI) A (nI (if w = 0 then fN i else if w = 1 then fF i else if w = 2 then fB i else fR i)) (wM b cB cI cL rb rd rq rQ rw ra ro rn rk rv rf fN fF fB fR rl lB lR rt rg rx rz)) 0 0 A := by
  refine x_ofWi (cc := cX6_file) (maxL := 3) (by decide) rfl (Nat.le_of_ble_eq_true rfl) ?_
  intro p e s m args below meth c Q hx hb hml hts hown hK hN hP hD hS hret ls hl
  have hl : lv_has ls 3 [(0, .ref (b 0)), (1, .int (nI i)), (2, .int (nI w))] := hl
  have hown : s.vm.findClass RX6 = some m.cls := hown
  have f105 := hts _ (List.mem_cons_of_mem _ tw_612)
  have in_X6 := (fun q hq => List.mem_cons_of_mem _ (inX6 q hq) : ∀ q ∈ wsX60, q ∈ (Cond.code yX6_file cX6_file 3 (some .int) :: TB))
  have f74 := hts _ (List.mem_cons_of_mem _ tw_616)
  have f36 := hts _ (List.mem_cons_of_mem _ tw_620)
  have f33 := hts _ (List.mem_cons_of_mem _ tw_619)
  have f30 := hts _ (List.mem_cons_of_mem _ tw_618)
  have f27 := hts _ (List.mem_cons_of_mem _ tw_617)
  refine lv_iload_n hx hb dX6_file_0 rfl (lv_at hl 1 rfl) ?_
  refine lv_i2l (v := lN i) hx hb dX6_file_1 (nI_l (by omega)) ?_
  refine lv_lconst (v := lN 0) hx hb dX6_file_2 rfl ?_
  refine lv_ldc2 (v := lN 4) hx hb hown (hts _ (List.mem_cons_of_mem _ tw_597)) dX6_file_3 ?_
  refine x_calli (va_runS (As := [.long (lN i), .long (lN 0), .long (lN 4)]) (rest := []) ⟨hx, hb, hml, hown, hts⟩ (c_M_isInN i 0 4 (by omega) (by omega) (by omega)) (va_cwS 3 hts (tbS tw_599 tw_600 tw_91 tw_601) rfl rfl rfl (by decide +kernel) ⟨Nat.le_of_ble_eq_true rfl, Nat.le_of_ble_eq_true rfl⟩) ⟨y_blind, y_pre hK hP hD⟩ rfl rfl hl.1 rfl (lv_room (Nat.le_of_ble_eq_true rfl)) dX6_file_6 ⟨Nat.zero_le _, Nat.zero_le _⟩) hS (fun H locs hP hD hS => ?_)
  have hP : va_P (dC, dI) vwCl (wM b cB cI cL rb rd rq rQ rw ra ro rn rk rv rf fN fF fB fR rl lB lR rt rg rx rz) H := hP
  have hD : va_D A (wM b cB cI cL rb rd rq rQ rw ra ro rn rk rv rf fN fF fB fR rl lB lR rt rg rx rz) := hD
  refine x_if_eq_b (tgt := 24) hx hb dX6_file_9 (by decide) (fun c9 => ?_) (fun c9 => ?_)
  · exact absurd (of_decide_eq_false c9) (by omega)
  · refine lv_iload_n hx hb dX6_file_12 rfl (lv_at hl 2 rfl) ?_
    refine lv_i2l (v := lN w) hx hb dX6_file_13 (nI_l (by omega)) ?_
    refine lv_lconst (v := lN 0) hx hb dX6_file_14 rfl ?_
    refine lv_ldc2 (v := lN 3) hx hb hown (hts _ (List.mem_cons_of_mem _ tw_743)) dX6_file_15 ?_
    refine x_calli (va_runS (As := [.long (lN w), .long (lN 0), .long (lN 3)]) (rest := []) ⟨hx, hb, hml, hown, hts⟩ (c_M_isInN w 0 3 (by omega) (by omega) (by omega)) (va_cwS 3 hts (tbS tw_599 tw_600 tw_91 tw_601) rfl rfl rfl (by decide +kernel) ⟨Nat.le_of_ble_eq_true rfl, Nat.le_of_ble_eq_true rfl⟩) ⟨y_blind, y_pre hK hP hD⟩ rfl rfl hl.1 rfl (lv_room (Nat.le_of_ble_eq_true rfl)) dX6_file_18 ⟨Nat.zero_le _, Nat.zero_le _⟩) hS (fun H locs hP hD hS => ?_)
    have hP : va_P (dC, dI) vwCl (wM b cB cI cL rb rd rq rQ rw ra ro rn rk rv rf fN fF fB fR rl lB lR rt rg rx rz) H := hP
    have hD : va_D A (wM b cB cI cL rb rd rq rQ rw ra ro rn rk rv rf fN fF fB fR rl lB lR rt rg rx rz) := hD
    refine x_if_ne_b (tgt := 26) hx hb dX6_file_21 (by decide) (fun c21 => ?_) (fun c21 => ?_)
    · refine lv_aload_n hx hb dX6_file_26 rfl (lv_at hl 0 rfl) ?_
      refine va_get (D := (dC, dI)) (ci := 6) (v := .int (bI ro)) (C := RX6) (T := TX6) (N := 22) hx hb hts in_X6 hown hK hP 0 rfl rfl 6 (by decide) f105 (fun _ h9 => h9) rfl dX6_file_27 ?_
      refine x_if_ne_b (tgt := 36) hx hb dX6_file_30 (by decide) (fun c30 => ?_) (fun c30 => ?_)
      · refine lv_iload_n hx hb dX6_file_36 rfl (lv_at hl 1 rfl) ?_
        refine lv_aload_n hx hb dX6_file_37 rfl (lv_at hl 0 rfl) ?_
        refine va_get (D := (dC, dI)) (ci := 6) (v := .int (nI rf)) (C := RX6) (T := TX6) (N := 22) hx hb hts in_X6 hown hK hP 0 rfl rfl 10 (by decide) f74 (fun _ h9 => h9) rfl dX6_file_38 ?_
        refine x_icmp_lt (tgt := 46) hx hb dX6_file_41 (by decide) (by omega) (by omega) (fun c41 => ?_) (fun c41 => ?_)
        · refine lv_iload_n hx hb dX6_file_46 rfl (lv_at hl 2 rfl) ?_
          refine x_if_ne (tgt := 59) hx hb dX6_file_47 (by decide) (by omega) (fun c47 => ?_) (fun c47 => ?_)
          · refine lv_iload_n hx hb dX6_file_59 rfl (lv_at hl 2 rfl) ?_
            refine lv_iconst (v := nI 1) hx hb dX6_file_60 (by decide) ?_
            refine x_icmp_ne (tgt := 73) hx hb dX6_file_61 (by decide) (by omega) (by omega) (fun c61 => ?_) (fun c61 => ?_)
            · refine lv_iload_n hx hb dX6_file_73 rfl (lv_at hl 2 rfl) ?_
              refine lv_iconst (v := nI 2) hx hb dX6_file_74 (by decide) ?_
              refine x_icmp_ne (tgt := 87) hx hb dX6_file_75 (by decide) (by omega) (by omega) (fun c75 => ?_) (fun c75 => ?_)
              · refine lv_aload_n hx hb dX6_file_87 rfl (lv_at hl 0 rfl) ?_
                refine va_get (D := (dC, dI)) (ci := 6) (v := .ref (b 9)) (C := RX6) (T := TX6) (N := 22) hx hb hts in_X6 hown hK hP 0 rfl rfl 14 (by decide) f36 (fun _ h9 => h9) rfl dX6_file_88 ?_
                refine lv_iload_n hx hb dX6_file_91 rfl (lv_at hl 1 rfl) ?_
                refine x_iald hx hb hK hP 9 1 rfl rfl (by omega) (by decide) dX6_file_92 ?_
                exact hret dX6_file_93 (by first | rw [if_pos c47] | rw [if_neg c47, if_pos c61] | rw [if_neg c47, if_neg c61, if_pos c75] | rw [if_neg c47, if_neg c61, if_neg c75]) hP hD hS
              · refine lv_aload_n hx hb dX6_file_78 rfl (lv_at hl 0 rfl) ?_
                refine va_get (D := (dC, dI)) (ci := 6) (v := .ref (b 8)) (C := RX6) (T := TX6) (N := 22) hx hb hts in_X6 hown hK hP 0 rfl rfl 13 (by decide) f33 (fun _ h9 => h9) rfl dX6_file_79 ?_
                refine lv_iload_n hx hb dX6_file_82 rfl (lv_at hl 1 rfl) ?_
                refine x_iald hx hb hK hP 8 1 rfl rfl (by omega) (by decide) dX6_file_83 ?_
                refine lv_goto (tgt := 93) hx hb dX6_file_84 (by decide) ?_
                exact hret dX6_file_93 (by first | rw [if_pos c47] | rw [if_neg c47, if_pos c61] | rw [if_neg c47, if_neg c61, if_pos c75] | rw [if_neg c47, if_neg c61, if_neg c75]) hP hD hS
            · refine lv_aload_n hx hb dX6_file_64 rfl (lv_at hl 0 rfl) ?_
              refine va_get (D := (dC, dI)) (ci := 6) (v := .ref (b 7)) (C := RX6) (T := TX6) (N := 22) hx hb hts in_X6 hown hK hP 0 rfl rfl 12 (by decide) f30 (fun _ h9 => h9) rfl dX6_file_65 ?_
              refine lv_iload_n hx hb dX6_file_68 rfl (lv_at hl 1 rfl) ?_
              refine x_iald hx hb hK hP 7 1 rfl rfl (by omega) (by decide) dX6_file_69 ?_
              refine lv_goto (tgt := 93) hx hb dX6_file_70 (by decide) ?_
              exact hret dX6_file_93 (by first | rw [if_pos c47] | rw [if_neg c47, if_pos c61] | rw [if_neg c47, if_neg c61, if_pos c75] | rw [if_neg c47, if_neg c61, if_neg c75]) hP hD hS
          · refine lv_aload_n hx hb dX6_file_50 rfl (lv_at hl 0 rfl) ?_
            refine va_get (D := (dC, dI)) (ci := 6) (v := .ref (b 6)) (C := RX6) (T := TX6) (N := 22) hx hb hts in_X6 hown hK hP 0 rfl rfl 11 (by decide) f27 (fun _ h9 => h9) rfl dX6_file_51 ?_
            refine lv_iload_n hx hb dX6_file_54 rfl (lv_at hl 1 rfl) ?_
            refine x_iald hx hb hK hP 6 1 rfl rfl (by omega) (by decide) dX6_file_55 ?_
            refine lv_goto (tgt := 93) hx hb dX6_file_56 (by decide) ?_
            exact hret dX6_file_93 (by first | rw [if_pos c47] | rw [if_neg c47, if_pos c61] | rw [if_neg c47, if_neg c61, if_pos c75] | rw [if_neg c47, if_neg c61, if_neg c75]) hP hD hS
        · exact absurd c41 (by omega)
      · exact absurd (ho.symm.trans c30) (by decide)
    · exact absurd (of_decide_eq_false c21) (by omega)

set_option maxHeartbeats 4000000 in
set_option maxRecDepth 100000 in
theorem c_M_useB {l : Launch} {dC : Nat → ClassId} {dI : Nat → Nat → Nat} {A : Nat → Prop} {b : Nat → Nat} {cB cI cL : ClassId} {rb : Nat} {rd : Nat → Nat} {rq : Nat} {rQ rw : Nat → Nat} {ra : Nat} {ro : Bool} {rn : Nat} {rk rv : Nat → Int64} {rf : Nat} {fN fF fB fR : Nat → Nat} {rl : Nat} {lB lR : Nat → Nat} {rt rg rx rz : Nat} (hrb : rb ≤ 64) (hb0 : 0 < rb) (x : Int32) (hz : ¬ isI x.toInt64 (lN 0) (lN (rb - 1)) = true) : Met l yX6_use (Cond.code yX6_use cX6_use 2 (some .int) :: TB) { frames := 2, cells := 0, slots := 0, locals := 44 } (xPre (fun _ => True) (dC, dI) A (tyS cB cI cL) (wM b cB cI cL rb rd rq rQ rw ra ro rn rk rv rf fN fF fB fR rl lB lR rt rg rx rz) [.ref (b 0), .int (x)]) (xQi (dC, dI) A ((-1)) (wM b cB cI cL rb rd rq rQ rw ra ro rn rk rv rf fN fF fB fR rl lB lR rt rg rx rz)) 0 0 A := by
  refine x_ofWi (cc := cX6_use) (maxL := 2) (by decide) rfl (Nat.le_of_ble_eq_true rfl) ?_
  intro p e s m args below meth c Q hx hb hml hts hown hK hN hP hD hS hret ls hl
  have hl : lv_has ls 2 [(0, .ref (b 0)), (1, .int (x))] := hl
  have hown : s.vm.findClass RX6 = some m.cls := hown
  have f99 := hts _ (List.mem_cons_of_mem _ tw_606)
  have in_X6 := (fun q hq => List.mem_cons_of_mem _ (inX6 q hq) : ∀ q ∈ wsX60, q ∈ (Cond.code yX6_use cX6_use 2 (some .int) :: TB))
  refine lv_iload_n hx hb dX6_use_0 rfl (lv_at hl 1 rfl) ?_
  refine lv_i2l hx hb dX6_use_1 rfl ?_
  refine lv_lconst (v := lN 0) hx hb dX6_use_2 rfl ?_
  refine lv_aload_n hx hb dX6_use_3 rfl (lv_at hl 0 rfl) ?_
  refine va_get (D := (dC, dI)) (ci := 6) (v := .int (nI rb)) (C := RX6) (T := TX6) (N := 22) hx hb hts in_X6 hown hK hP 0 rfl rfl 0 (by decide) f99 (fun _ h9 => h9) rfl dX6_use_4 ?_
  refine lv_iconst (v := nI 1) hx hb dX6_use_7 (by decide) ?_
  refine x_isub hx hb dX6_use_8 (by omega) ?_
  refine lv_i2l (v := lN (rb - 1)) hx hb dX6_use_9 (nI_l (by omega)) ?_
  refine x_calli (va_runS (As := [.long (x.toInt64), .long (lN 0), .long (lN (rb - 1))]) (rest := []) ⟨hx, hb, hml, hown, hts⟩ (c_M_isIn x.toInt64 (lN 0) (lN (rb - 1))) (va_cwS 3 hts (tbS tw_599 tw_600 tw_91 tw_601) rfl rfl rfl (by decide +kernel) ⟨Nat.le_of_ble_eq_true rfl, Nat.le_of_ble_eq_true rfl⟩) ⟨y_blind, y_pre hK hP hD⟩ rfl rfl hl.1 rfl (lv_room (Nat.le_of_ble_eq_true rfl)) dX6_use_10 ⟨Nat.zero_le _, Nat.zero_le _⟩) hS (fun H locs hP hD hS => ?_)
  have hP : va_P (dC, dI) vwCl (wM b cB cI cL rb rd rq rQ rw ra ro rn rk rv rf fN fF fB fR rl lB lR rt rg rx rz) H := hP
  have hD : va_D A (wM b cB cI cL rb rd rq rQ rw ra ro rn rk rv rf fN fF fB fR rl lB lR rt rg rx rz) := hD
  refine x_if_ne_b (tgt := 18) hx hb dX6_use_13 (by decide) (fun c13 => ?_) (fun c13 => ?_)
  · exact absurd c13 hz
  · refine lv_iconst (v := (-1)) hx hb dX6_use_16 (by decide) ?_
    exact hret dX6_use_17 (by rfl) hP hD hS

set_option maxHeartbeats 4000000 in
set_option maxRecDepth 100000 in
theorem c_M_useC {l : Launch} {dC : Nat → ClassId} {dI : Nat → Nat → Nat} {A : Nat → Prop} {b : Nat → Nat} {cB cI cL : ClassId} {rb : Nat} {rd : Nat → Nat} {rq : Nat} {rQ rw : Nat → Nat} {ra : Nat} {ro : Bool} {rn : Nat} {rk rv : Nat → Int64} {rf : Nat} {fN fF fB fR : Nat → Nat} {rl : Nat} {lB lR : Nat → Nat} {rt rg rx rz : Nat} (hrb : rb ≤ 64) (x : Nat) (hx1 : x < rb) (ho : ro = false) : Met l yX6_use (Cond.code yX6_use cX6_use 2 (some .int) :: TB) { frames := 2, cells := 0, slots := 0, locals := 44 } (xPre (fun _ => True) (dC, dI) A (tyS cB cI cL) (wM b cB cI cL rb rd rq rQ rw ra ro rn rk rv rf fN fF fB fR rl lB lR rt rg rx rz) [.ref (b 0), .int (nI x)]) (xQi (dC, dI) A ((-4)) (wM b cB cI cL rb rd rq rQ rw ra ro rn rk rv rf fN fF fB fR rl lB lR rt rg rx rz)) 0 0 A := by
  refine x_ofWi (cc := cX6_use) (maxL := 2) (by decide) rfl (Nat.le_of_ble_eq_true rfl) ?_
  intro p e s m args below meth c Q hx hb hml hts hown hK hN hP hD hS hret ls hl
  have hl : lv_has ls 2 [(0, .ref (b 0)), (1, .int (nI x))] := hl
  have hown : s.vm.findClass RX6 = some m.cls := hown
  have f99 := hts _ (List.mem_cons_of_mem _ tw_606)
  have in_X6 := (fun q hq => List.mem_cons_of_mem _ (inX6 q hq) : ∀ q ∈ wsX60, q ∈ (Cond.code yX6_use cX6_use 2 (some .int) :: TB))
  have f105 := hts _ (List.mem_cons_of_mem _ tw_612)
  refine lv_iload_n hx hb dX6_use_0 rfl (lv_at hl 1 rfl) ?_
  refine lv_i2l (v := lN x) hx hb dX6_use_1 (nI_l (by omega)) ?_
  refine lv_lconst (v := lN 0) hx hb dX6_use_2 rfl ?_
  refine lv_aload_n hx hb dX6_use_3 rfl (lv_at hl 0 rfl) ?_
  refine va_get (D := (dC, dI)) (ci := 6) (v := .int (nI rb)) (C := RX6) (T := TX6) (N := 22) hx hb hts in_X6 hown hK hP 0 rfl rfl 0 (by decide) f99 (fun _ h9 => h9) rfl dX6_use_4 ?_
  refine lv_iconst (v := nI 1) hx hb dX6_use_7 (by decide) ?_
  refine x_isub hx hb dX6_use_8 (by omega) ?_
  refine lv_i2l (v := lN (rb - 1)) hx hb dX6_use_9 (nI_l (by omega)) ?_
  refine x_calli (va_runS (As := [.long (lN x), .long (lN 0), .long (lN (rb - 1))]) (rest := []) ⟨hx, hb, hml, hown, hts⟩ (c_M_isInN x 0 (rb - 1) (by omega) (by omega) (by omega)) (va_cwS 3 hts (tbS tw_599 tw_600 tw_91 tw_601) rfl rfl rfl (by decide +kernel) ⟨Nat.le_of_ble_eq_true rfl, Nat.le_of_ble_eq_true rfl⟩) ⟨y_blind, y_pre hK hP hD⟩ rfl rfl hl.1 rfl (lv_room (Nat.le_of_ble_eq_true rfl)) dX6_use_10 ⟨Nat.zero_le _, Nat.zero_le _⟩) hS (fun H locs hP hD hS => ?_)
  have hP : va_P (dC, dI) vwCl (wM b cB cI cL rb rd rq rQ rw ra ro rn rk rv rf fN fF fB fR rl lB lR rt rg rx rz) H := hP
  have hD : va_D A (wM b cB cI cL rb rd rq rQ rw ra ro rn rk rv rf fN fF fB fR rl lB lR rt rg rx rz) := hD
  refine x_if_ne_b (tgt := 18) hx hb dX6_use_13 (by decide) (fun c13 => ?_) (fun c13 => ?_)
  · refine lv_aload_n hx hb dX6_use_18 rfl (lv_at hl 0 rfl) ?_
    refine va_get (D := (dC, dI)) (ci := 6) (v := .int (bI ro)) (C := RX6) (T := TX6) (N := 22) hx hb hts in_X6 hown hK hP 0 rfl rfl 6 (by decide) f105 (fun _ h9 => h9) rfl dX6_use_19 ?_
    refine x_if_eq_b (tgt := 33) hx hb dX6_use_22 (by decide) (fun c22 => ?_) (fun c22 => ?_)
    · refine lv_bipush (v := (-4)) hx hb dX6_use_33 (by decide) ?_
      exact hret dX6_use_35 (by rfl) hP hD hS
    · exact absurd (ho.symm.trans c22) (by decide)
  · exact absurd (of_decide_eq_false c13) (by omega)

set_option maxHeartbeats 4000000 in
set_option maxRecDepth 100000 in
theorem c_M_useO {l : Launch} {dC : Nat → ClassId} {dI : Nat → Nat → Nat} {A : Nat → Prop} {b : Nat → Nat} {cB cI cL : ClassId} {rb : Nat} {rd : Nat → Nat} {rq : Nat} {rQ rw : Nat → Nat} {ra : Nat} {ro : Bool} {rn : Nat} {rk rv : Nat → Int64} {rf : Nat} {fN fF fB fR : Nat → Nat} {rl : Nat} {lB lR : Nat → Nat} {rt rg rx rz : Nat} (hrb : rb ≤ 64) (hrf : rf ≤ 5) (hfF : ∀ j, fF j < 1048576) (hfB : ∀ j, fB j < 1048576) (hrl : rl ≤ 62) (hlB : ∀ j, lB j < 1048576) (x : Nat) (hx1 : x < rb) (ho : ro = true) : Met l yX6_use (Cond.code yX6_use cX6_use 2 (some .int) :: TB) { frames := 2, cells := 0, slots := 0, locals := 44 } (xPre (fun _ => True) (dC, dI) A (tyS cB cI cL) (wM b cB cI cL rb rd rq rQ rw ra ro rn rk rv rf fN fF fB fR rl lB lR rt rg rx rz) [.ref (b 0), .int (nI x)]) (xQi (dC, dI) A (nI (usM rf fF fB rl lB x)) (wM b cB cI cL rb rd rq rQ rw ra ro rn rk rv rf fN fF fB fR rl lB lR rt rg rx rz)) 0 0 A := by
  refine x_ofWi (cc := cX6_use) (maxL := 2) (by decide) rfl (Nat.le_of_ble_eq_true rfl) ?_
  intro p e s m args below meth c Q hx hb hml hts hown hK hN hP hD hS hret ls hl
  have hl : lv_has ls 2 [(0, .ref (b 0)), (1, .int (nI x))] := hl
  have hown : s.vm.findClass RX6 = some m.cls := hown
  have f99 := hts _ (List.mem_cons_of_mem _ tw_606)
  have in_X6 := (fun q hq => List.mem_cons_of_mem _ (inX6 q hq) : ∀ q ∈ wsX60, q ∈ (Cond.code yX6_use cX6_use 2 (some .int) :: TB))
  have f105 := hts _ (List.mem_cons_of_mem _ tw_612)
  refine lv_iload_n hx hb dX6_use_0 rfl (lv_at hl 1 rfl) ?_
  refine lv_i2l (v := lN x) hx hb dX6_use_1 (nI_l (by omega)) ?_
  refine lv_lconst (v := lN 0) hx hb dX6_use_2 rfl ?_
  refine lv_aload_n hx hb dX6_use_3 rfl (lv_at hl 0 rfl) ?_
  refine va_get (D := (dC, dI)) (ci := 6) (v := .int (nI rb)) (C := RX6) (T := TX6) (N := 22) hx hb hts in_X6 hown hK hP 0 rfl rfl 0 (by decide) f99 (fun _ h9 => h9) rfl dX6_use_4 ?_
  refine lv_iconst (v := nI 1) hx hb dX6_use_7 (by decide) ?_
  refine x_isub hx hb dX6_use_8 (by omega) ?_
  refine lv_i2l (v := lN (rb - 1)) hx hb dX6_use_9 (nI_l (by omega)) ?_
  refine x_calli (va_runS (As := [.long (lN x), .long (lN 0), .long (lN (rb - 1))]) (rest := []) ⟨hx, hb, hml, hown, hts⟩ (c_M_isInN x 0 (rb - 1) (by omega) (by omega) (by omega)) (va_cwS 3 hts (tbS tw_599 tw_600 tw_91 tw_601) rfl rfl rfl (by decide +kernel) ⟨Nat.le_of_ble_eq_true rfl, Nat.le_of_ble_eq_true rfl⟩) ⟨y_blind, y_pre hK hP hD⟩ rfl rfl hl.1 rfl (lv_room (Nat.le_of_ble_eq_true rfl)) dX6_use_10 ⟨Nat.zero_le _, Nat.zero_le _⟩) hS (fun H locs hP hD hS => ?_)
  have hP : va_P (dC, dI) vwCl (wM b cB cI cL rb rd rq rQ rw ra ro rn rk rv rf fN fF fB fR rl lB lR rt rg rx rz) H := hP
  have hD : va_D A (wM b cB cI cL rb rd rq rQ rw ra ro rn rk rv rf fN fF fB fR rl lB lR rt rg rx rz) := hD
  refine x_if_ne_b (tgt := 18) hx hb dX6_use_13 (by decide) (fun c13 => ?_) (fun c13 => ?_)
  · refine lv_aload_n hx hb dX6_use_18 rfl (lv_at hl 0 rfl) ?_
    refine va_get (D := (dC, dI)) (ci := 6) (v := .int (bI ro)) (C := RX6) (T := TX6) (N := 22) hx hb hts in_X6 hown hK hP 0 rfl rfl 6 (by decide) f105 (fun _ h9 => h9) rfl dX6_use_19 ?_
    refine x_if_eq_b (tgt := 33) hx hb dX6_use_22 (by decide) (fun c22 => ?_) (fun c22 => ?_)
    · exact absurd (ho.symm.trans c22) (by decide)
    · refine lv_aload_n hx hb dX6_use_25 rfl (lv_at hl 0 rfl) ?_
      refine lv_iload_n hx hb dX6_use_26 rfl (lv_at hl 1 rfl) ?_
      refine x_calli (va_runV (As := [.int (nI x)]) (rest := []) ⟨hx, hb, hml, hown, hts⟩ (c_M_useOf (by omega) hfF hfB (by omega) hlB x (by omega)) (cwV 1 hts (tbV tw_682 tw_684 tw_62 tw_91 tw_685) rfl rfl rfl (by decide +kernel) ⟨Nat.le_of_ble_eq_true rfl, Nat.le_of_ble_eq_true rfl⟩) ⟨y_blind, va_recv hK hP (ci := 6) (q0 := 0) rfl rfl, y_pre hK hP hD⟩ rfl rfl hl.1 rfl (lv_room (Nat.le_of_ble_eq_true rfl)) dX6_use_27 ⟨Nat.zero_le _, Nat.zero_le _⟩) hS (fun H locs hP hD hS => ?_)
      have hP : va_P (dC, dI) vwCl (wM b cB cI cL rb rd rq rQ rw ra ro rn rk rv rf fN fF fB fR rl lB lR rt rg rx rz) H := hP
      have hD : va_D A (wM b cB cI cL rb rd rq rQ rw ra ro rn rk rv rf fN fF fB fR rl lB lR rt rg rx rz) := hD
      have hv27 : usM rf fF fB rl lB x < 4 := usM_lt
      refine lv_goto (tgt := 35) hx hb dX6_use_30 (by decide) ?_
      exact hret dX6_use_35 (by rfl) hP hD hS
  · exact absurd (of_decide_eq_false c13) (by omega)

set_option maxHeartbeats 4000000 in
set_option maxRecDepth 100000 in
theorem c_M_octetB {l : Launch} {dC : Nat → ClassId} {dI : Nat → Nat → Nat} {A : Nat → Prop} {b : Nat → Nat} {cB cI cL : ClassId} {rb : Nat} {rd : Nat → Nat} {rq : Nat} {rQ rw : Nat → Nat} {ra : Nat} {ro : Bool} {rn : Nat} {rk rv : Nat → Int64} {rf : Nat} {fN fF fB fR : Nat → Nat} {rl : Nat} {lB lR : Nat → Nat} {rt rg rx rz : Nat} (hrb : rb ≤ 64) (hb0 : 0 < rb) (x y : Int32) (hz : ¬ (isI x.toInt64 (lN 0) (lN (rb - 1)) = true ∧ isI y.toInt64 (lN 0) (lN 63) = true)) : Met l yX6_octet (Cond.code yX6_octet cX6_octet 3 (some .int) :: TB) { frames := 1, cells := 0, slots := 0, locals := 25 } (xPre (fun _ => True) (dC, dI) A (tyS cB cI cL) (wM b cB cI cL rb rd rq rQ rw ra ro rn rk rv rf fN fF fB fR rl lB lR rt rg rx rz) [.ref (b 0), .int (x), .int (y)]) (xQi (dC, dI) A ((-1)) (wM b cB cI cL rb rd rq rQ rw ra ro rn rk rv rf fN fF fB fR rl lB lR rt rg rx rz)) 0 0 A := by
  refine x_ofWi (cc := cX6_octet) (maxL := 3) (by decide) rfl (Nat.le_of_ble_eq_true rfl) ?_
  intro p e s m args below meth c Q hx hb hml hts hown hK hN hP hD hS hret ls hl
  have hl : lv_has ls 3 [(0, .ref (b 0)), (1, .int (x)), (2, .int (y))] := hl
  have hown : s.vm.findClass RX6 = some m.cls := hown
  have f99 := hts _ (List.mem_cons_of_mem _ tw_606)
  have in_X6 := (fun q hq => List.mem_cons_of_mem _ (inX6 q hq) : ∀ q ∈ wsX60, q ∈ (Cond.code yX6_octet cX6_octet 3 (some .int) :: TB))
  refine lv_iload_n hx hb dX6_octet_0 rfl (lv_at hl 1 rfl) ?_
  refine lv_i2l hx hb dX6_octet_1 rfl ?_
  refine lv_lconst (v := lN 0) hx hb dX6_octet_2 rfl ?_
  refine lv_aload_n hx hb dX6_octet_3 rfl (lv_at hl 0 rfl) ?_
  refine va_get (D := (dC, dI)) (ci := 6) (v := .int (nI rb)) (C := RX6) (T := TX6) (N := 22) hx hb hts in_X6 hown hK hP 0 rfl rfl 0 (by decide) f99 (fun _ h9 => h9) rfl dX6_octet_4 ?_
  refine lv_iconst (v := nI 1) hx hb dX6_octet_7 (by decide) ?_
  refine x_isub hx hb dX6_octet_8 (by omega) ?_
  refine lv_i2l (v := lN (rb - 1)) hx hb dX6_octet_9 (nI_l (by omega)) ?_
  refine x_calli (va_runS (As := [.long (x.toInt64), .long (lN 0), .long (lN (rb - 1))]) (rest := []) ⟨hx, hb, hml, hown, hts⟩ (c_M_isIn x.toInt64 (lN 0) (lN (rb - 1))) (va_cwS 3 hts (tbS tw_599 tw_600 tw_91 tw_601) rfl rfl rfl (by decide +kernel) ⟨Nat.le_of_ble_eq_true rfl, Nat.le_of_ble_eq_true rfl⟩) ⟨y_blind, y_pre hK hP hD⟩ rfl rfl hl.1 rfl (lv_room (Nat.le_of_ble_eq_true rfl)) dX6_octet_10 ⟨Nat.zero_le _, Nat.zero_le _⟩) hS (fun H locs hP hD hS => ?_)
  have hP : va_P (dC, dI) vwCl (wM b cB cI cL rb rd rq rQ rw ra ro rn rk rv rf fN fF fB fR rl lB lR rt rg rx rz) H := hP
  have hD : va_D A (wM b cB cI cL rb rd rq rQ rw ra ro rn rk rv rf fN fF fB fR rl lB lR rt rg rx rz) := hD
  refine x_if_eq_b (tgt := 46) hx hb dX6_octet_13 (by decide) (fun c13 => ?_) (fun c13 => ?_)
  · refine lv_iconst (v := (-1)) hx hb dX6_octet_46 (by decide) ?_
    exact hret dX6_octet_47 (by rfl) hP hD hS
  · refine lv_iload_n hx hb dX6_octet_16 rfl (lv_at hl 2 rfl) ?_
    refine lv_i2l hx hb dX6_octet_17 rfl ?_
    refine lv_lconst (v := lN 0) hx hb dX6_octet_18 rfl ?_
    refine lv_ldc2 (v := lN 63) hx hb hown (hts _ (List.mem_cons_of_mem _ tw_825)) dX6_octet_19 ?_
    refine x_calli (va_runS (As := [.long (y.toInt64), .long (lN 0), .long (lN 63)]) (rest := []) ⟨hx, hb, hml, hown, hts⟩ (c_M_isIn y.toInt64 (lN 0) (lN 63)) (va_cwS 3 hts (tbS tw_599 tw_600 tw_91 tw_601) rfl rfl rfl (by decide +kernel) ⟨Nat.le_of_ble_eq_true rfl, Nat.le_of_ble_eq_true rfl⟩) ⟨y_blind, y_pre hK hP hD⟩ rfl rfl hl.1 rfl (lv_room (Nat.le_of_ble_eq_true rfl)) dX6_octet_22 ⟨Nat.zero_le _, Nat.zero_le _⟩) hS (fun H locs hP hD hS => ?_)
    have hP : va_P (dC, dI) vwCl (wM b cB cI cL rb rd rq rQ rw ra ro rn rk rv rf fN fF fB fR rl lB lR rt rg rx rz) H := hP
    have hD : va_D A (wM b cB cI cL rb rd rq rQ rw ra ro rn rk rv rf fN fF fB fR rl lB lR rt rg rx rz) := hD
    refine x_if_eq_b (tgt := 46) hx hb dX6_octet_25 (by decide) (fun c25 => ?_) (fun c25 => ?_)
    · refine lv_iconst (v := (-1)) hx hb dX6_octet_46 (by decide) ?_
      exact hret dX6_octet_47 (by rfl) hP hD hS
    · exact absurd ⟨c13, c25⟩ hz

set_option maxHeartbeats 4000000 in
set_option maxRecDepth 100000 in
theorem c_M_octetG {l : Launch} {dC : Nat → ClassId} {dI : Nat → Nat → Nat} {A : Nat → Prop} {b : Nat → Nat} {cB cI cL : ClassId} {rb : Nat} {rd : Nat → Nat} {rq : Nat} {rQ rw : Nat → Nat} {ra : Nat} {ro : Bool} {rn : Nat} {rk rv : Nat → Int64} {rf : Nat} {fN fF fB fR : Nat → Nat} {rl : Nat} {lB lR : Nat → Nat} {rt rg rx rz : Nat} (hrb : rb ≤ 64) (hrd : ∀ j, rd j < 256) (x i : Nat) (hx1 : x < rb) (hi1 : i < 64) : Met l yX6_octet (Cond.code yX6_octet cX6_octet 3 (some .int) :: TB) { frames := 1, cells := 0, slots := 0, locals := 25 } (xPre (fun _ => True) (dC, dI) A (tyS cB cI cL) (wM b cB cI cL rb rd rq rQ rw ra ro rn rk rv rf fN fF fB fR rl lB lR rt rg rx rz) [.ref (b 0), .int (nI x), .int (nI i)]) (xQi (dC, dI) A (nI (rd (64 * x + i))) (wM b cB cI cL rb rd rq rQ rw ra ro rn rk rv rf fN fF fB fR rl lB lR rt rg rx rz)) 0 0 A := by
  refine x_ofWi (cc := cX6_octet) (maxL := 3) (by decide) rfl (Nat.le_of_ble_eq_true rfl) ?_
  intro p e s m args below meth c Q hx hb hml hts hown hK hN hP hD hS hret ls hl
  have hl : lv_has ls 3 [(0, .ref (b 0)), (1, .int (nI x)), (2, .int (nI i))] := hl
  have hown : s.vm.findClass RX6 = some m.cls := hown
  have f99 := hts _ (List.mem_cons_of_mem _ tw_606)
  have in_X6 := (fun q hq => List.mem_cons_of_mem _ (inX6 q hq) : ∀ q ∈ wsX60, q ∈ (Cond.code yX6_octet cX6_octet 3 (some .int) :: TB))
  have f7 := hts _ (List.mem_cons_of_mem _ tw_607)
  refine lv_iload_n hx hb dX6_octet_0 rfl (lv_at hl 1 rfl) ?_
  refine lv_i2l (v := lN x) hx hb dX6_octet_1 (nI_l (by omega)) ?_
  refine lv_lconst (v := lN 0) hx hb dX6_octet_2 rfl ?_
  refine lv_aload_n hx hb dX6_octet_3 rfl (lv_at hl 0 rfl) ?_
  refine va_get (D := (dC, dI)) (ci := 6) (v := .int (nI rb)) (C := RX6) (T := TX6) (N := 22) hx hb hts in_X6 hown hK hP 0 rfl rfl 0 (by decide) f99 (fun _ h9 => h9) rfl dX6_octet_4 ?_
  refine lv_iconst (v := nI 1) hx hb dX6_octet_7 (by decide) ?_
  refine x_isub hx hb dX6_octet_8 (by omega) ?_
  refine lv_i2l (v := lN (rb - 1)) hx hb dX6_octet_9 (nI_l (by omega)) ?_
  refine x_calli (va_runS (As := [.long (lN x), .long (lN 0), .long (lN (rb - 1))]) (rest := []) ⟨hx, hb, hml, hown, hts⟩ (c_M_isInN x 0 (rb - 1) (by omega) (by omega) (by omega)) (va_cwS 3 hts (tbS tw_599 tw_600 tw_91 tw_601) rfl rfl rfl (by decide +kernel) ⟨Nat.le_of_ble_eq_true rfl, Nat.le_of_ble_eq_true rfl⟩) ⟨y_blind, y_pre hK hP hD⟩ rfl rfl hl.1 rfl (lv_room (Nat.le_of_ble_eq_true rfl)) dX6_octet_10 ⟨Nat.zero_le _, Nat.zero_le _⟩) hS (fun H locs hP hD hS => ?_)
  have hP : va_P (dC, dI) vwCl (wM b cB cI cL rb rd rq rQ rw ra ro rn rk rv rf fN fF fB fR rl lB lR rt rg rx rz) H := hP
  have hD : va_D A (wM b cB cI cL rb rd rq rQ rw ra ro rn rk rv rf fN fF fB fR rl lB lR rt rg rx rz) := hD
  refine x_if_eq_b (tgt := 46) hx hb dX6_octet_13 (by decide) (fun c13 => ?_) (fun c13 => ?_)
  · exact absurd (of_decide_eq_false c13) (by omega)
  · refine lv_iload_n hx hb dX6_octet_16 rfl (lv_at hl 2 rfl) ?_
    refine lv_i2l (v := lN i) hx hb dX6_octet_17 (nI_l (by omega)) ?_
    refine lv_lconst (v := lN 0) hx hb dX6_octet_18 rfl ?_
    refine lv_ldc2 (v := lN 63) hx hb hown (hts _ (List.mem_cons_of_mem _ tw_825)) dX6_octet_19 ?_
    refine x_calli (va_runS (As := [.long (lN i), .long (lN 0), .long (lN 63)]) (rest := []) ⟨hx, hb, hml, hown, hts⟩ (c_M_isInN i 0 63 (by omega) (by omega) (by omega)) (va_cwS 3 hts (tbS tw_599 tw_600 tw_91 tw_601) rfl rfl rfl (by decide +kernel) ⟨Nat.le_of_ble_eq_true rfl, Nat.le_of_ble_eq_true rfl⟩) ⟨y_blind, y_pre hK hP hD⟩ rfl rfl hl.1 rfl (lv_room (Nat.le_of_ble_eq_true rfl)) dX6_octet_22 ⟨Nat.zero_le _, Nat.zero_le _⟩) hS (fun H locs hP hD hS => ?_)
    have hP : va_P (dC, dI) vwCl (wM b cB cI cL rb rd rq rQ rw ra ro rn rk rv rf fN fF fB fR rl lB lR rt rg rx rz) H := hP
    have hD : va_D A (wM b cB cI cL rb rd rq rQ rw ra ro rn rk rv rf fN fF fB fR rl lB lR rt rg rx rz) := hD
    refine x_if_eq_b (tgt := 46) hx hb dX6_octet_25 (by decide) (fun c25 => ?_) (fun c25 => ?_)
    · exact absurd (of_decide_eq_false c25) (by omega)
    · refine lv_aload_n hx hb dX6_octet_28 rfl (lv_at hl 0 rfl) ?_
      refine va_get (D := (dC, dI)) (ci := 6) (v := .ref (b 1)) (C := RX6) (T := TX6) (N := 22) hx hb hts in_X6 hown hK hP 0 rfl rfl 1 (by decide) f7 (fun _ h9 => h9) rfl dX6_octet_29 ?_
      refine lv_bipush (v := nI 64) hx hb dX6_octet_32 (by decide) ?_
      refine lv_iload_n hx hb dX6_octet_34 rfl (lv_at hl 1 rfl) ?_
      refine x_imul hx hb dX6_octet_35 ?_
      refine lv_iload_n hx hb dX6_octet_36 rfl (lv_at hl 2 rfl) ?_
      refine x_iadd hx hb dX6_octet_37 ?_
      refine x_bald hx hb hK hP 1 0 rfl rfl (by omega) (by decide) dX6_octet_38 ?_
      refine lv_sipush (v := nI 255) hx hb dX6_octet_39 (by decide) ?_
      refine lv_iand hx hb dX6_octet_42 ?_
      refine x_top (y := nI (rd (64 * x + i))) (x_b255 (hrd _)) ?_
      refine lv_goto (tgt := 47) hx hb dX6_octet_43 (by decide) ?_
      exact hret dX6_octet_47 (by rfl) hP hD hS

set_option maxHeartbeats 4000000 in
set_option maxRecDepth 100000 in
theorem c_M_pokeB {l : Launch} {dC : Nat → ClassId} {dI : Nat → Nat → Nat} {A : Nat → Prop} {b : Nat → Nat} {cB cI cL : ClassId} {rb : Nat} {rd : Nat → Nat} {rq : Nat} {rQ rw : Nat → Nat} {ra : Nat} {ro : Bool} {rn : Nat} {rk rv : Nat → Int64} {rf : Nat} {fN fF fB fR : Nat → Nat} {rl : Nat} {lB lR : Nat → Nat} {rt rg rx rz : Nat} (hrb : rb ≤ 64) (hb0 : 0 < rb) (x y w : Int32) (hz : ¬ (isI x.toInt64 (lN 0) (lN (rb - 1)) = true ∧ isI y.toInt64 (lN 0) (lN 63) = true ∧ isI w.toInt64 (lN 1) (lN 255) = true)) : Met l yX6_poke (Cond.code yX6_poke cX6_poke 4 (some .int) :: TB) { frames := 1, cells := 0, slots := 0, locals := 25 } (xPre (fun _ => True) (dC, dI) A (tyS cB cI cL) (wM b cB cI cL rb rd rq rQ rw ra ro rn rk rv rf fN fF fB fR rl lB lR rt rg rx rz) [.ref (b 0), .int (x), .int (y), .int (w)]) (xQi (dC, dI) A ((-1)) (wM b cB cI cL rb rd rq rQ rw ra ro rn rk rv rf fN fF fB fR rl lB lR rt rg rx rz)) 0 0 A := by
  refine x_ofWi (cc := cX6_poke) (maxL := 4) (by decide) rfl (Nat.le_of_ble_eq_true rfl) ?_
  intro p e s m args below meth c Q hx hb hml hts hown hK hN hP hD hS hret ls hl
  have hl : lv_has ls 4 [(0, .ref (b 0)), (1, .int (x)), (2, .int (y)), (3, .int (w))] := hl
  have hown : s.vm.findClass RX6 = some m.cls := hown
  have f99 := hts _ (List.mem_cons_of_mem _ tw_606)
  have in_X6 := (fun q hq => List.mem_cons_of_mem _ (inX6 q hq) : ∀ q ∈ wsX60, q ∈ (Cond.code yX6_poke cX6_poke 4 (some .int) :: TB))
  refine lv_iload_n hx hb dX6_poke_0 rfl (lv_at hl 1 rfl) ?_
  refine lv_i2l hx hb dX6_poke_1 rfl ?_
  refine lv_lconst (v := lN 0) hx hb dX6_poke_2 rfl ?_
  refine lv_aload_n hx hb dX6_poke_3 rfl (lv_at hl 0 rfl) ?_
  refine va_get (D := (dC, dI)) (ci := 6) (v := .int (nI rb)) (C := RX6) (T := TX6) (N := 22) hx hb hts in_X6 hown hK hP 0 rfl rfl 0 (by decide) f99 (fun _ h9 => h9) rfl dX6_poke_4 ?_
  refine lv_iconst (v := nI 1) hx hb dX6_poke_7 (by decide) ?_
  refine x_isub hx hb dX6_poke_8 (by omega) ?_
  refine lv_i2l (v := lN (rb - 1)) hx hb dX6_poke_9 (nI_l (by omega)) ?_
  refine x_calli (va_runS (As := [.long (x.toInt64), .long (lN 0), .long (lN (rb - 1))]) (rest := []) ⟨hx, hb, hml, hown, hts⟩ (c_M_isIn x.toInt64 (lN 0) (lN (rb - 1))) (va_cwS 3 hts (tbS tw_599 tw_600 tw_91 tw_601) rfl rfl rfl (by decide +kernel) ⟨Nat.le_of_ble_eq_true rfl, Nat.le_of_ble_eq_true rfl⟩) ⟨y_blind, y_pre hK hP hD⟩ rfl rfl hl.1 rfl (lv_room (Nat.le_of_ble_eq_true rfl)) dX6_poke_10 ⟨Nat.zero_le _, Nat.zero_le _⟩) hS (fun H locs hP hD hS => ?_)
  have hP : va_P (dC, dI) vwCl (wM b cB cI cL rb rd rq rQ rw ra ro rn rk rv rf fN fF fB fR rl lB lR rt rg rx rz) H := hP
  have hD : va_D A (wM b cB cI cL rb rd rq rQ rw ra ro rn rk rv rf fN fF fB fR rl lB lR rt rg rx rz) := hD
  refine x_if_eq_b (tgt := 40) hx hb dX6_poke_13 (by decide) (fun c13 => ?_) (fun c13 => ?_)
  · refine lv_iconst (v := (-1)) hx hb dX6_poke_40 (by decide) ?_
    exact hret dX6_poke_41 (by rfl) hP hD hS
  · refine lv_iload_n hx hb dX6_poke_16 rfl (lv_at hl 2 rfl) ?_
    refine lv_i2l hx hb dX6_poke_17 rfl ?_
    refine lv_lconst (v := lN 0) hx hb dX6_poke_18 rfl ?_
    refine lv_ldc2 (v := lN 63) hx hb hown (hts _ (List.mem_cons_of_mem _ tw_825)) dX6_poke_19 ?_
    refine x_calli (va_runS (As := [.long (y.toInt64), .long (lN 0), .long (lN 63)]) (rest := []) ⟨hx, hb, hml, hown, hts⟩ (c_M_isIn y.toInt64 (lN 0) (lN 63)) (va_cwS 3 hts (tbS tw_599 tw_600 tw_91 tw_601) rfl rfl rfl (by decide +kernel) ⟨Nat.le_of_ble_eq_true rfl, Nat.le_of_ble_eq_true rfl⟩) ⟨y_blind, y_pre hK hP hD⟩ rfl rfl hl.1 rfl (lv_room (Nat.le_of_ble_eq_true rfl)) dX6_poke_22 ⟨Nat.zero_le _, Nat.zero_le _⟩) hS (fun H locs hP hD hS => ?_)
    have hP : va_P (dC, dI) vwCl (wM b cB cI cL rb rd rq rQ rw ra ro rn rk rv rf fN fF fB fR rl lB lR rt rg rx rz) H := hP
    have hD : va_D A (wM b cB cI cL rb rd rq rQ rw ra ro rn rk rv rf fN fF fB fR rl lB lR rt rg rx rz) := hD
    refine x_if_eq_b (tgt := 40) hx hb dX6_poke_25 (by decide) (fun c25 => ?_) (fun c25 => ?_)
    · refine lv_iconst (v := (-1)) hx hb dX6_poke_40 (by decide) ?_
      exact hret dX6_poke_41 (by rfl) hP hD hS
    · refine lv_iload_n hx hb dX6_poke_28 rfl (lv_at hl 3 rfl) ?_
      refine lv_i2l hx hb dX6_poke_29 rfl ?_
      refine lv_lconst (v := lN 1) hx hb dX6_poke_30 rfl ?_
      refine lv_ldc2 (v := lN 255) hx hb hown (hts _ (List.mem_cons_of_mem _ tw_830)) dX6_poke_31 ?_
      refine x_calli (va_runS (As := [.long (w.toInt64), .long (lN 1), .long (lN 255)]) (rest := []) ⟨hx, hb, hml, hown, hts⟩ (c_M_isIn w.toInt64 (lN 1) (lN 255)) (va_cwS 3 hts (tbS tw_599 tw_600 tw_91 tw_601) rfl rfl rfl (by decide +kernel) ⟨Nat.le_of_ble_eq_true rfl, Nat.le_of_ble_eq_true rfl⟩) ⟨y_blind, y_pre hK hP hD⟩ rfl rfl hl.1 rfl (lv_room (Nat.le_of_ble_eq_true rfl)) dX6_poke_34 ⟨Nat.zero_le _, Nat.zero_le _⟩) hS (fun H locs hP hD hS => ?_)
      have hP : va_P (dC, dI) vwCl (wM b cB cI cL rb rd rq rQ rw ra ro rn rk rv rf fN fF fB fR rl lB lR rt rg rx rz) H := hP
      have hD : va_D A (wM b cB cI cL rb rd rq rQ rw ra ro rn rk rv rf fN fF fB fR rl lB lR rt rg rx rz) := hD
      refine x_if_ne_b (tgt := 42) hx hb dX6_poke_37 (by decide) (fun c37 => ?_) (fun c37 => ?_)
      · exact absurd ⟨c13, c25, c37⟩ hz
      · refine lv_iconst (v := (-1)) hx hb dX6_poke_40 (by decide) ?_
        exact hret dX6_poke_41 (by rfl) hP hD hS

set_option maxHeartbeats 4000000 in
set_option maxRecDepth 100000 in
theorem c_M_pokeG {l : Launch} {dC : Nat → ClassId} {dI : Nat → Nat → Nat} {A : Nat → Prop} {b : Nat → Nat} {cB cI cL : ClassId} {rb : Nat} {rd : Nat → Nat} {rq : Nat} {rQ rw : Nat → Nat} {ra : Nat} {ro : Bool} {rn : Nat} {rk rv : Nat → Int64} {rf : Nat} {fN fF fB fR : Nat → Nat} {rl : Nat} {lB lR : Nat → Nat} {rt rg rx rz : Nat} (hrb : rb ≤ 64) (hrd : ∀ j, rd j < 256) (x i : Nat) (hx1 : x < rb) (hi1 : i < 64) (w : Nat) (hw0 : 1 ≤ w) (hw1 : w ≤ 255) : Met l yX6_poke (Cond.code yX6_poke cX6_poke 4 (some .int) :: TB) { frames := 1, cells := 0, slots := 0, locals := 25 } (xPre (fun _ => True) (dC, dI) A (tyS cB cI cL) (wM b cB cI cL rb rd rq rQ rw ra ro rn rk rv rf fN fF fB fR rl lB lR rt rg rx rz) [.ref (b 0), .int (nI x), .int (nI i), .int (nI w)]) (xQi (dC, dI) A (nI (rd (64 * x + i) ^^^ w)) (wM b cB cI cL rb (va_up rd (64 * x + i) (rd (64 * x + i) ^^^ w)) rq rQ rw ra ro rn rk rv rf fN fF fB fR rl lB lR rt rg rx rz)) 0 0 A := by
  refine x_ofWi (cc := cX6_poke) (maxL := 4) (by decide) rfl (Nat.le_of_ble_eq_true rfl) ?_
  intro p e s m args below meth c Q hx hb hml hts hown hK hN hP hD hS hret ls hl
  have hl : lv_has ls 4 [(0, .ref (b 0)), (1, .int (nI x)), (2, .int (nI i)), (3, .int (nI w))] := hl
  have hown : s.vm.findClass RX6 = some m.cls := hown
  have q1 := hrd (64 * x + i)
  have q2 : rd (64 * x + i) ^^^ w < 256 := Nat.xor_lt_two_pow (n := 8) q1 (by omega)
  have f99 := hts _ (List.mem_cons_of_mem _ tw_606)
  have in_X6 := (fun q hq => List.mem_cons_of_mem _ (inX6 q hq) : ∀ q ∈ wsX60, q ∈ (Cond.code yX6_poke cX6_poke 4 (some .int) :: TB))
  have f7 := hts _ (List.mem_cons_of_mem _ tw_607)
  refine lv_iload_n hx hb dX6_poke_0 rfl (lv_at hl 1 rfl) ?_
  refine lv_i2l (v := lN x) hx hb dX6_poke_1 (nI_l (by omega)) ?_
  refine lv_lconst (v := lN 0) hx hb dX6_poke_2 rfl ?_
  refine lv_aload_n hx hb dX6_poke_3 rfl (lv_at hl 0 rfl) ?_
  refine va_get (D := (dC, dI)) (ci := 6) (v := .int (nI rb)) (C := RX6) (T := TX6) (N := 22) hx hb hts in_X6 hown hK hP 0 rfl rfl 0 (by decide) f99 (fun _ h9 => h9) rfl dX6_poke_4 ?_
  refine lv_iconst (v := nI 1) hx hb dX6_poke_7 (by decide) ?_
  refine x_isub hx hb dX6_poke_8 (by omega) ?_
  refine lv_i2l (v := lN (rb - 1)) hx hb dX6_poke_9 (nI_l (by omega)) ?_
  refine x_calli (va_runS (As := [.long (lN x), .long (lN 0), .long (lN (rb - 1))]) (rest := []) ⟨hx, hb, hml, hown, hts⟩ (c_M_isInN x 0 (rb - 1) (by omega) (by omega) (by omega)) (va_cwS 3 hts (tbS tw_599 tw_600 tw_91 tw_601) rfl rfl rfl (by decide +kernel) ⟨Nat.le_of_ble_eq_true rfl, Nat.le_of_ble_eq_true rfl⟩) ⟨y_blind, y_pre hK hP hD⟩ rfl rfl hl.1 rfl (lv_room (Nat.le_of_ble_eq_true rfl)) dX6_poke_10 ⟨Nat.zero_le _, Nat.zero_le _⟩) hS (fun H locs hP hD hS => ?_)
  have hP : va_P (dC, dI) vwCl (wM b cB cI cL rb rd rq rQ rw ra ro rn rk rv rf fN fF fB fR rl lB lR rt rg rx rz) H := hP
  have hD : va_D A (wM b cB cI cL rb rd rq rQ rw ra ro rn rk rv rf fN fF fB fR rl lB lR rt rg rx rz) := hD
  refine x_if_eq_b (tgt := 40) hx hb dX6_poke_13 (by decide) (fun c13 => ?_) (fun c13 => ?_)
  · exact absurd (of_decide_eq_false c13) (by omega)
  · refine lv_iload_n hx hb dX6_poke_16 rfl (lv_at hl 2 rfl) ?_
    refine lv_i2l (v := lN i) hx hb dX6_poke_17 (nI_l (by omega)) ?_
    refine lv_lconst (v := lN 0) hx hb dX6_poke_18 rfl ?_
    refine lv_ldc2 (v := lN 63) hx hb hown (hts _ (List.mem_cons_of_mem _ tw_825)) dX6_poke_19 ?_
    refine x_calli (va_runS (As := [.long (lN i), .long (lN 0), .long (lN 63)]) (rest := []) ⟨hx, hb, hml, hown, hts⟩ (c_M_isInN i 0 63 (by omega) (by omega) (by omega)) (va_cwS 3 hts (tbS tw_599 tw_600 tw_91 tw_601) rfl rfl rfl (by decide +kernel) ⟨Nat.le_of_ble_eq_true rfl, Nat.le_of_ble_eq_true rfl⟩) ⟨y_blind, y_pre hK hP hD⟩ rfl rfl hl.1 rfl (lv_room (Nat.le_of_ble_eq_true rfl)) dX6_poke_22 ⟨Nat.zero_le _, Nat.zero_le _⟩) hS (fun H locs hP hD hS => ?_)
    have hP : va_P (dC, dI) vwCl (wM b cB cI cL rb rd rq rQ rw ra ro rn rk rv rf fN fF fB fR rl lB lR rt rg rx rz) H := hP
    have hD : va_D A (wM b cB cI cL rb rd rq rQ rw ra ro rn rk rv rf fN fF fB fR rl lB lR rt rg rx rz) := hD
    refine x_if_eq_b (tgt := 40) hx hb dX6_poke_25 (by decide) (fun c25 => ?_) (fun c25 => ?_)
    · exact absurd (of_decide_eq_false c25) (by omega)
    · refine lv_iload_n hx hb dX6_poke_28 rfl (lv_at hl 3 rfl) ?_
      refine lv_i2l (v := lN w) hx hb dX6_poke_29 (nI_l (by omega)) ?_
      refine lv_lconst (v := lN 1) hx hb dX6_poke_30 rfl ?_
      refine lv_ldc2 (v := lN 255) hx hb hown (hts _ (List.mem_cons_of_mem _ tw_830)) dX6_poke_31 ?_
      refine x_calli (va_runS (As := [.long (lN w), .long (lN 1), .long (lN 255)]) (rest := []) ⟨hx, hb, hml, hown, hts⟩ (c_M_isInN w 1 255 (by omega) (by omega) (by omega)) (va_cwS 3 hts (tbS tw_599 tw_600 tw_91 tw_601) rfl rfl rfl (by decide +kernel) ⟨Nat.le_of_ble_eq_true rfl, Nat.le_of_ble_eq_true rfl⟩) ⟨y_blind, y_pre hK hP hD⟩ rfl rfl hl.1 rfl (lv_room (Nat.le_of_ble_eq_true rfl)) dX6_poke_34 ⟨Nat.zero_le _, Nat.zero_le _⟩) hS (fun H locs hP hD hS => ?_)
      have hP : va_P (dC, dI) vwCl (wM b cB cI cL rb rd rq rQ rw ra ro rn rk rv rf fN fF fB fR rl lB lR rt rg rx rz) H := hP
      have hD : va_D A (wM b cB cI cL rb rd rq rQ rw ra ro rn rk rv rf fN fF fB fR rl lB lR rt rg rx rz) := hD
      refine x_if_ne_b (tgt := 42) hx hb dX6_poke_37 (by decide) (fun c37 => ?_) (fun c37 => ?_)
      · refine lv_aload_n hx hb dX6_poke_42 rfl (lv_at hl 0 rfl) ?_
        refine va_get (D := (dC, dI)) (ci := 6) (v := .ref (b 1)) (C := RX6) (T := TX6) (N := 22) hx hb hts in_X6 hown hK hP 0 rfl rfl 1 (by decide) f7 (fun _ h9 => h9) rfl dX6_poke_43 ?_
        refine lv_bipush (v := nI 64) hx hb dX6_poke_46 (by decide) ?_
        refine lv_iload_n hx hb dX6_poke_48 rfl (lv_at hl 1 rfl) ?_
        refine x_imul hx hb dX6_poke_49 ?_
        refine lv_iload_n hx hb dX6_poke_50 rfl (lv_at hl 2 rfl) ?_
        refine x_iadd hx hb dX6_poke_51 ?_
        refine lv_dup2_11 hx hb dX6_poke_52 rfl rfl ?_
        refine x_bald hx hb hK hP 1 0 rfl rfl (by omega) (by decide) dX6_poke_53 ?_
        refine lv_iload_n hx hb dX6_poke_54 rfl (lv_at hl 3 rfl) ?_
        refine lv_i2b (v := sb_b w) hx hb dX6_poke_55 rfl ?_
        refine lv_ixor hx hb dX6_poke_56 ?_
        refine lv_i2b hx hb dX6_poke_57 rfl ?_
        refine x_top (y := sb_b (rd (64 * x + i) ^^^ w)) (x_xorb q1 (by omega)) ?_
        refine x_bast hx hb hK hP hD hS 1 0 rfl rfl (by omega) (by decide) dX6_poke_58 (fun H locs hP hD hS => ?_)
        have hP : va_P (dC, dI) vwCl (wM b cB cI cL rb (va_up rd ((64 * x) + i) (rd (64 * x + i) ^^^ w)) rq rQ rw ra ro rn rk rv rf fN fF fB fR rl lB lR rt rg rx rz) H := hP
        have hD : va_D A (wM b cB cI cL rb (va_up rd ((64 * x) + i) (rd (64 * x + i) ^^^ w)) rq rQ rw ra ro rn rk rv rf fN fF fB fR rl lB lR rt rg rx rz) := hD
        refine lv_aload_n hx hb dX6_poke_59 rfl (lv_at hl 0 rfl) ?_
        refine va_get (D := (dC, dI)) (ci := 6) (v := .ref (b 1)) (C := RX6) (T := TX6) (N := 22) hx hb hts in_X6 hown hK hP 0 rfl rfl 1 (by decide) f7 (fun _ h9 => h9) rfl dX6_poke_60 ?_
        refine lv_bipush (v := nI 64) hx hb dX6_poke_63 (by decide) ?_
        refine lv_iload_n hx hb dX6_poke_65 rfl (lv_at hl 1 rfl) ?_
        refine x_imul hx hb dX6_poke_66 ?_
        refine lv_iload_n hx hb dX6_poke_67 rfl (lv_at hl 2 rfl) ?_
        refine x_iadd hx hb dX6_poke_68 ?_
        refine x_bald hx hb hK hP 1 0 rfl rfl (by omega) (by decide) dX6_poke_69 ?_
        refine lv_sipush (v := nI 255) hx hb dX6_poke_70 (by decide) ?_
        refine lv_iand hx hb dX6_poke_73 ?_
        refine x_top (y := nI (rd (64 * x + i) ^^^ w)) (by rw [va_up_self]; exact x_b255 q2) ?_
        exact hret dX6_poke_74 (by rfl) hP hD hS
      · exact absurd (of_decide_eq_false c37) (by omega)

set_option maxHeartbeats 4000000 in
set_option maxRecDepth 100000 in
theorem c_M_badC {l : Launch} {dC : Nat → ClassId} {dI : Nat → Nat → Nat} {A : Nat → Prop} {b : Nat → Nat} {cB cI cL : ClassId} {rb : Nat} {rd : Nat → Nat} {rq : Nat} {rQ rw : Nat → Nat} {ra : Nat} {ro : Bool} {rn : Nat} {rk rv : Nat → Int64} {rf : Nat} {fN fF fB fR : Nat → Nat} {rl : Nat} {lB lR : Nat → Nat} {rt rg rx rz : Nat} (ho : ro = false) : Met l yX6_bad (Cond.code yX6_bad cX6_bad 4 (some .int) :: TB) { frames := 2, cells := 0, slots := 0, locals := 46 } (xPre (fun _ => True) (dC, dI) A (tyS cB cI cL) (wM b cB cI cL rb rd rq rQ rw ra ro rn rk rv rf fN fF fB fR rl lB lR rt rg rx rz) [.ref (b 0)]) (xQi (dC, dI) A ((-4)) (wM b cB cI cL rb rd rq rQ rw ra ro rn rk rv rf fN fF fB fR rl lB lR rt rg rx rz)) 0 0 A := by
  refine x_ofWi (cc := cX6_bad) (maxL := 4) (by decide) rfl (Nat.le_of_ble_eq_true rfl) ?_
  intro p e s m args below meth c Q hx hb hml hts hown hK hN hP hD hS hret ls hl
  have hl : lv_has ls 4 [(0, .ref (b 0))] := hl
  have hown : s.vm.findClass RX6 = some m.cls := hown
  have f105 := hts _ (List.mem_cons_of_mem _ tw_612)
  have in_X6 := (fun q hq => List.mem_cons_of_mem _ (inX6 q hq) : ∀ q ∈ wsX60, q ∈ (Cond.code yX6_bad cX6_bad 4 (some .int) :: TB))
  refine lv_aload_n hx hb dX6_bad_0 rfl (lv_at hl 0 rfl) ?_
  refine va_get (D := (dC, dI)) (ci := 6) (v := .int (bI ro)) (C := RX6) (T := TX6) (N := 22) hx hb hts in_X6 hown hK hP 0 rfl rfl 6 (by decide) f105 (fun _ h9 => h9) rfl dX6_bad_1 ?_
  refine x_if_ne_b (tgt := 10) hx hb dX6_bad_4 (by decide) (fun c4 => ?_) (fun c4 => ?_)
  · exact absurd (ho.symm.trans c4) (by decide)
  · refine lv_bipush (v := (-4)) hx hb dX6_bad_7 (by decide) ?_
    exact hret dX6_bad_9 (by rfl) hP hD hS

set_option maxHeartbeats 4000000 in
set_option maxRecDepth 100000 in
theorem c_M_badO {l : Launch} {dC : Nat → ClassId} {dI : Nat → Nat → Nat} {A : Nat → Prop} {b : Nat → Nat} {cB cI cL : ClassId} {rb : Nat} {rd : Nat → Nat} {rq : Nat} {rQ rw : Nat → Nat} {ra : Nat} {ro : Bool} {rn : Nat} {rk rv : Nat → Int64} {rf : Nat} {fN fF fB fR : Nat → Nat} {rl : Nat} {lB lR : Nat → Nat} {rt rg rx rz : Nat} (hrb : rb ≤ 64) (hrd : ∀ j, rd j < 256) (hrQ : ∀ j, rQ j < 64) (hrq : rq ≤ 128) (hrf : rf ≤ 5) (hfF : ∀ j, fF j < 1048576) (hfB : ∀ j, fB j < 1048576) (hrl : rl ≤ 62) (hlB : ∀ j, lB j < 1048576) (hrg : rg < 2 ^ 30) (ho : ro = true) : Met l yX6_bad (Cond.code yX6_bad cX6_bad 4 (some .int) :: TB) { frames := 2, cells := 0, slots := 0, locals := 46 } (xPre (fun _ => True) (dC, dI) A (tyS cB cI cL) (wM b cB cI cL rb rd rq rQ rw ra ro rn rk rv rf fN fF fB fR rl lB lR rt rg rx rz) [.ref (b 0)]) (xQi (dC, dI) A (oI (bdM rb rd rq rQ rf fF fB rl lB rg rb 0)) (wM b cB cI cL rb rd rq rQ rw ra ro rn rk rv rf fN fF fB fR rl lB lR rt rg rx rz)) 0 0 A := by
  refine x_ofWi (cc := cX6_bad) (maxL := 4) (by decide) rfl (Nat.le_of_ble_eq_true rfl) ?_
  intro p e s m args below meth c Q hx hb hml hts hown hK hN hP hD hS hret ls hl
  have hl : lv_has ls 4 [(0, .ref (b 0))] := hl
  have hown : s.vm.findClass RX6 = some m.cls := hown
  have f105 := hts _ (List.mem_cons_of_mem _ tw_612)
  have in_X6 := (fun q hq => List.mem_cons_of_mem _ (inX6 q hq) : ∀ q ∈ wsX60, q ∈ (Cond.code yX6_bad cX6_bad 4 (some .int) :: TB))
  have f99 := hts _ (List.mem_cons_of_mem _ tw_606)
  have f83 := hts _ (List.mem_cons_of_mem _ tw_625)
  refine lv_aload_n hx hb dX6_bad_0 rfl (lv_at hl 0 rfl) ?_
  refine va_get (D := (dC, dI)) (ci := 6) (v := .int (bI ro)) (C := RX6) (T := TX6) (N := 22) hx hb hts in_X6 hown hK hP 0 rfl rfl 6 (by decide) f105 (fun _ h9 => h9) rfl dX6_bad_1 ?_
  refine x_if_ne_b (tgt := 10) hx hb dX6_bad_4 (by decide) (fun c4 => ?_) (fun c4 => ?_)
  · refine lv_iconst (v := nI 0) hx hb dX6_bad_10 (by decide) ?_
    refine lv_istore_n (lv' := [(1, .int (nI 0)), (0, .ref (b 0))]) hx hb dX6_bad_11 rfl hl (by decide) rfl (fun ls hl => ?_)
    have L12 : ∀ (fu12 : Nat) (y : Nat), (rb - y < fu12) → (y ≤ rb) → (bdM rb rd rq rQ rf fF fB rl lB rg (rb - y) y = bdM rb rd rq rQ rf fF fB rl lB rg rb 0) → ∀ (H : Heap) (locs : List Loc), va_P (dC, dI) vwCl (wM b cB cI cL rb rd rq rQ rw ra ro rn rk rv rf fN fF fB fR rl lB lR rt rg rx rz) H → va_D A (wM b cB cI cL rb rd rq rQ rw ra ro rn rk rv rf fN fF fB fR rl lB lR rt rg rx rz) → va_S A s.heap H locs → ∀ (ls : Array Slot), lv_has ls 4 [(0, .ref (b 0)), (1, .int (nI y))] → W p l e { frames := 2, cells := 0, slots := 0, locals := 46 } s m args below meth c H locs 0 0 Q (F0 m 12 ls []) := by
      intro fu12
      induction fu12 with
      | zero => intro y hm; exact absurd hm (Nat.not_lt_zero _)
      | succ fu12 ih12 =>
        intro y hm i12_0 i12_1 H locs hP hD hS ls hl
        refine lv_iload_n hx hb dX6_bad_12 rfl (lv_at hl 1 rfl) ?_
        refine lv_aload_n hx hb dX6_bad_13 rfl (lv_at hl 0 rfl) ?_
        refine va_get (D := (dC, dI)) (ci := 6) (v := .int (nI rb)) (C := RX6) (T := TX6) (N := 22) hx hb hts in_X6 hown hK hP 0 rfl rfl 0 (by decide) f99 (fun _ h9 => h9) rfl dX6_bad_14 ?_
        refine x_icmp_ge (tgt := 100) hx hb dX6_bad_17 (by decide) (by omega) (by omega) (fun c17 => ?_) (fun c17 => ?_)
        · refine lv_bipush (v := (-2)) hx hb dX6_bad_100 (by decide) ?_
          exact hret dX6_bad_102 (by have h := i12_1; rw [show rb - y = 0 by omega, bdM] at h; rw [← h]; rfl) hP hD hS
        · refine lv_aload_n hx hb dX6_bad_20 rfl (lv_at hl 0 rfl) ?_
          refine lv_iload_n hx hb dX6_bad_21 rfl (lv_at hl 1 rfl) ?_
          refine x_calli (va_runV (As := [.int (nI y)]) (rest := []) ⟨hx, hb, hml, hown, hts⟩ (c_M_useOf (by omega) hfF hfB (by omega) hlB y (by omega)) (cwV 1 hts (tbV tw_682 tw_684 tw_62 tw_91 tw_685) rfl rfl rfl (by decide +kernel) ⟨Nat.le_of_ble_eq_true rfl, Nat.le_of_ble_eq_true rfl⟩) ⟨y_blind, va_recv hK hP (ci := 6) (q0 := 0) rfl rfl, y_pre hK hP hD⟩ rfl rfl hl.1 rfl (lv_room (Nat.le_of_ble_eq_true rfl)) dX6_bad_22 ⟨Nat.zero_le _, Nat.zero_le _⟩) hS (fun H locs hP hD hS => ?_)
          have hP : va_P (dC, dI) vwCl (wM b cB cI cL rb rd rq rQ rw ra ro rn rk rv rf fN fF fB fR rl lB lR rt rg rx rz) H := hP
          have hD : va_D A (wM b cB cI cL rb rd rq rQ rw ra ro rn rk rv rf fN fF fB fR rl lB lR rt rg rx rz) := hD
          have hv22 : usM rf fF fB rl lB y < 4 := usM_lt
          refine lv_istore_n (lv' := [(2, .int (nI (usM rf fF fB rl lB y))), (0, .ref (b 0)), (1, .int (nI y))]) hx hb dX6_bad_25 rfl hl (by decide) rfl (fun ls hl => ?_)
          refine lv_iload_n hx hb dX6_bad_26 rfl (lv_at hl 2 rfl) ?_
          refine lv_iconst (v := nI 2) hx hb dX6_bad_27 (by decide) ?_
          refine x_icmp_ge (tgt := 62) hx hb dX6_bad_28 (by decide) (by omega) (by omega) (fun c28 => ?_) (fun c28 => ?_)
          · refine lv_iload_n hx hb dX6_bad_62 rfl (lv_at hl 0 rfl) ?_
            refine x_if_le (tgt := 70) hx hb dX6_bad_63 (by decide) (by omega) (fun c63 => ?_) (fun c63 => ?_)
            · refine lv_iconst (v := nI 0) hx hb dX6_bad_70 (by decide) ?_
              refine lv_istore_n (lv' := [(3, .int (nI 0)), (2, .int (nI (usM rf fF fB rl lB y))), (0, .ref (b 0)), (1, .int (nI y))]) hx hb dX6_bad_71 rfl hl (by decide) rfl (fun ls hl => ?_)
              refine lv_iload_n hx hb dX6_bad_72 rfl (lv_at hl 0 rfl) ?_
              refine x_if_eq (tgt := 94) hx hb dX6_bad_73 (by decide) (by decide) (fun c73 => ?_) (fun c73 => absurd c73 (by decide))
              refine lv_iinc (v := nI (y + 1)) (lv' := [(1, .int (nI (y + 1))), (3, .int (nI 0)), (2, .int (nI (usM rf fF fB rl lB y))), (0, .ref (b 0))]) hx hb dX6_bad_94 hl (k := 3) rfl (x_inc _) (by decide) rfl (fun ls hl => ?_)
              refine lv_goto (tgt := 12) hx hb dX6_bad_97 (by decide) ?_
              exact ih12 (y + 1) (by omega) (by omega) (by have h := i12_1; rw [show rb - y = (rb - (y + 1)) + 1 by omega] at h; exact bd_no (by first | exact fun q => absurd (c81.symm.trans q.2.1) (by decide) | exact fun q => absurd (c89.symm.trans q.2.2) (by decide) | exact fun q => absurd (q.1.1 c28).1 (by omega) | exact fun q => c51 (q.1.1 c28).2 | exact fun q => absurd (q.1.2 (by omega)) (by omega)) h) _ _ hP hD hS ls (lv_sub hl [3, 0] rfl)
            · refine lv_iconst (v := nI 1) hx hb dX6_bad_66 (by decide) ?_
              refine lv_goto (tgt := 71) hx hb dX6_bad_67 (by decide) ?_
              refine lv_istore_n (lv' := [(3, .int (nI 1)), (2, .int (nI (usM rf fF fB rl lB y))), (0, .ref (b 0)), (1, .int (nI y))]) hx hb dX6_bad_71 rfl hl (by decide) rfl (fun ls hl => ?_)
              refine lv_iload_n hx hb dX6_bad_72 rfl (lv_at hl 0 rfl) ?_
              refine x_if_eq (tgt := 94) hx hb dX6_bad_73 (by decide) (by decide) (fun c73 => absurd c73 (by decide)) (fun c73 => ?_)
              refine lv_aload_n hx hb dX6_bad_76 rfl (lv_at hl 2 rfl) ?_
              refine lv_iload_n hx hb dX6_bad_77 rfl (lv_at hl 3 rfl) ?_
              refine x_calli (va_runV (As := [.int (nI y)]) (rest := []) ⟨hx, hb, hml, hown, hts⟩ (c_M_isQueued hrQ (by omega) y (by omega)) (cwV 1 hts (tbV tw_797 tw_799 tw_82 tw_91 tw_800) rfl rfl rfl (by decide +kernel) ⟨Nat.le_of_ble_eq_true rfl, Nat.le_of_ble_eq_true rfl⟩) ⟨y_blind, va_recv hK hP (ci := 6) (q0 := 0) rfl rfl, y_pre hK hP hD⟩ rfl rfl hl.1 rfl (lv_room (Nat.le_of_ble_eq_true rfl)) dX6_bad_78 ⟨Nat.zero_le _, Nat.zero_le _⟩) hS (fun H locs hP hD hS => ?_)
              have hP : va_P (dC, dI) vwCl (wM b cB cI cL rb rd rq rQ rw ra ro rn rk rv rf fN fF fB fR rl lB lR rt rg rx rz) H := hP
              have hD : va_D A (wM b cB cI cL rb rd rq rQ rw ra ro rn rk rv rf fN fF fB fR rl lB lR rt rg rx rz) := hD
              refine x_if_ne_b (tgt := 94) hx hb dX6_bad_81 (by decide) (fun c81 => ?_) (fun c81 => ?_)
              · refine lv_iinc (v := nI (y + 1)) (lv' := [(1, .int (nI (y + 1))), (3, .int (nI 1)), (2, .int (nI (usM rf fF fB rl lB y))), (0, .ref (b 0))]) hx hb dX6_bad_94 hl (k := 3) rfl (x_inc _) (by decide) rfl (fun ls hl => ?_)
                refine lv_goto (tgt := 12) hx hb dX6_bad_97 (by decide) ?_
                exact ih12 (y + 1) (by omega) (by omega) (by have h := i12_1; rw [show rb - y = (rb - (y + 1)) + 1 by omega] at h; exact bd_no (by first | exact fun q => absurd (c81.symm.trans q.2.1) (by decide) | exact fun q => absurd (c89.symm.trans q.2.2) (by decide) | exact fun q => absurd (q.1.1 c28).1 (by omega) | exact fun q => c51 (q.1.1 c28).2 | exact fun q => absurd (q.1.2 (by omega)) (by omega)) h) _ _ hP hD hS ls (lv_sub hl [3, 0] rfl)
              · refine lv_aload_n hx hb dX6_bad_84 rfl (lv_at hl 2 rfl) ?_
                refine lv_iload_n hx hb dX6_bad_85 rfl (lv_at hl 3 rfl) ?_
                refine x_calli (va_runV (As := [.int (nI y)]) (rest := []) ⟨hx, hb, hml, hown, hts⟩ (c_M_isWhole hrd y (by omega)) (cwV 1 hts (tbV tw_763 tw_765 tw_75 tw_91 tw_766) rfl rfl rfl (by decide +kernel) ⟨Nat.le_of_ble_eq_true rfl, Nat.le_of_ble_eq_true rfl⟩) ⟨y_blind, va_recv hK hP (ci := 6) (q0 := 0) rfl rfl, y_pre hK hP hD⟩ rfl rfl hl.1 rfl (lv_room (Nat.le_of_ble_eq_true rfl)) dX6_bad_86 ⟨Nat.zero_le _, Nat.zero_le _⟩) hS (fun H locs hP hD hS => ?_)
                have hP : va_P (dC, dI) vwCl (wM b cB cI cL rb rd rq rQ rw ra ro rn rk rv rf fN fF fB fR rl lB lR rt rg rx rz) H := hP
                have hD : va_D A (wM b cB cI cL rb rd rq rQ rw ra ro rn rk rv rf fN fF fB fR rl lB lR rt rg rx rz) := hD
                refine x_if_ne_b (tgt := 94) hx hb dX6_bad_89 (by decide) (fun c89 => ?_) (fun c89 => ?_)
                · refine lv_iinc (v := nI (y + 1)) (lv' := [(1, .int (nI (y + 1))), (3, .int (nI 1)), (2, .int (nI (usM rf fF fB rl lB y))), (0, .ref (b 0))]) hx hb dX6_bad_94 hl (k := 3) rfl (x_inc _) (by decide) rfl (fun ls hl => ?_)
                  refine lv_goto (tgt := 12) hx hb dX6_bad_97 (by decide) ?_
                  exact ih12 (y + 1) (by omega) (by omega) (by have h := i12_1; rw [show rb - y = (rb - (y + 1)) + 1 by omega] at h; exact bd_no (by first | exact fun q => absurd (c81.symm.trans q.2.1) (by decide) | exact fun q => absurd (c89.symm.trans q.2.2) (by decide) | exact fun q => absurd (q.1.1 c28).1 (by omega) | exact fun q => c51 (q.1.1 c28).2 | exact fun q => absurd (q.1.2 (by omega)) (by omega)) h) _ _ hP hD hS ls (lv_sub hl [3, 0] rfl)
                · refine lv_iload_n hx hb dX6_bad_92 rfl (lv_at hl 3 rfl) ?_
                  exact hret dX6_bad_93 (by have h := i12_1; rw [show rb - y = (rb - (y + 1)) + 1 by omega] at h; exact bd_yes (by first | exact ⟨⟨fun _ => ⟨c37, c51⟩, fun q => absurd c28 (by omega)⟩, c81, c89⟩ | exact ⟨⟨fun q => absurd q (by omega), fun _ => c63⟩, c81, c89⟩) h) hP hD hS
          · refine lv_aload_n hx hb dX6_bad_31 rfl (lv_at hl 1 rfl) ?_
            refine va_get (D := (dC, dI)) (ci := 6) (v := .long (lN rg)) (C := RX6) (T := TX6) (N := 22) hx hb hts in_X6 hown hK hP 0 rfl rfl 19 (by decide) f83 (fun _ h9 => h9) rfl dX6_bad_32 ?_
            refine lv_lconst (v := lN 0) hx hb dX6_bad_35 rfl ?_
            refine W.lcmp hx hb dX6_bad_36 ?_
            refine x_lif_le (tgt := 58) hx hb dX6_bad_37 (by decide) (fun c37 => ?_) (fun c37 => ?_)
            · have c37 : rg = 0 := Nat.le_zero.mp ((pk_lLE (by omega) (by decide)).mp c37)
              refine lv_iconst (v := nI 0) hx hb dX6_bad_58 (by decide) ?_
              refine lv_goto (tgt := 71) hx hb dX6_bad_59 (by decide) ?_
              refine lv_istore_n (lv' := [(3, .int (nI 0)), (2, .int (nI (usM rf fF fB rl lB y))), (0, .ref (b 0)), (1, .int (nI y))]) hx hb dX6_bad_71 rfl hl (by decide) rfl (fun ls hl => ?_)
              refine lv_iload_n hx hb dX6_bad_72 rfl (lv_at hl 0 rfl) ?_
              refine x_if_eq (tgt := 94) hx hb dX6_bad_73 (by decide) (by decide) (fun c73 => ?_) (fun c73 => absurd c73 (by decide))
              refine lv_iinc (v := nI (y + 1)) (lv' := [(1, .int (nI (y + 1))), (3, .int (nI 0)), (2, .int (nI (usM rf fF fB rl lB y))), (0, .ref (b 0))]) hx hb dX6_bad_94 hl (k := 3) rfl (x_inc _) (by decide) rfl (fun ls hl => ?_)
              refine lv_goto (tgt := 12) hx hb dX6_bad_97 (by decide) ?_
              exact ih12 (y + 1) (by omega) (by omega) (by have h := i12_1; rw [show rb - y = (rb - (y + 1)) + 1 by omega] at h; exact bd_no (by first | exact fun q => absurd (c81.symm.trans q.2.1) (by decide) | exact fun q => absurd (c89.symm.trans q.2.2) (by decide) | exact fun q => absurd (q.1.1 c28).1 (by omega) | exact fun q => c51 (q.1.1 c28).2 | exact fun q => absurd (q.1.2 (by omega)) (by omega)) h) _ _ hP hD hS ls (lv_sub hl [3, 0] rfl)
            · have c37 : 0 < rg := Nat.lt_of_not_le (fun q => c37 ((pk_lLE (by omega) (by decide)).mpr q))
              refine lv_aload_n hx hb dX6_bad_40 rfl (lv_at hl 1 rfl) ?_
              refine va_get (D := (dC, dI)) (ci := 6) (v := .long (lN rg)) (C := RX6) (T := TX6) (N := 22) hx hb hts in_X6 hown hK hP 0 rfl rfl 19 (by decide) f83 (fun _ h9 => h9) rfl dX6_bad_41 ?_
              refine lv_ldc2 (v := lN 2) hx hb hown (hts _ (List.mem_cons_of_mem _ tw_738)) dX6_bad_44 ?_
              refine lv_lrem hx hb dX6_bad_47 (by decide) ?_
              refine x_topl (y := lN (rg % 2)) (x_lrem2 (by omega)) ?_
              refine lv_iload_n hx hb dX6_bad_48 rfl (lv_at hl 2 rfl) ?_
              refine lv_i2l (v := lN y) hx hb dX6_bad_49 (nI_l (by omega)) ?_
              refine W.lcmp hx hb dX6_bad_50 ?_
              refine x_lif_ne (tgt := 58) hx hb dX6_bad_51 (by decide) (fun c51 => ?_) (fun c51 => ?_)
              · have c51 : ¬ rg % 2 = y := fun q => c51 (by rw [q])
                refine lv_iconst (v := nI 0) hx hb dX6_bad_58 (by decide) ?_
                refine lv_goto (tgt := 71) hx hb dX6_bad_59 (by decide) ?_
                refine lv_istore_n (lv' := [(3, .int (nI 0)), (2, .int (nI (usM rf fF fB rl lB y))), (0, .ref (b 0)), (1, .int (nI y))]) hx hb dX6_bad_71 rfl hl (by decide) rfl (fun ls hl => ?_)
                refine lv_iload_n hx hb dX6_bad_72 rfl (lv_at hl 0 rfl) ?_
                refine x_if_eq (tgt := 94) hx hb dX6_bad_73 (by decide) (by decide) (fun c73 => ?_) (fun c73 => absurd c73 (by decide))
                refine lv_iinc (v := nI (y + 1)) (lv' := [(1, .int (nI (y + 1))), (3, .int (nI 0)), (2, .int (nI (usM rf fF fB rl lB y))), (0, .ref (b 0))]) hx hb dX6_bad_94 hl (k := 3) rfl (x_inc _) (by decide) rfl (fun ls hl => ?_)
                refine lv_goto (tgt := 12) hx hb dX6_bad_97 (by decide) ?_
                exact ih12 (y + 1) (by omega) (by omega) (by have h := i12_1; rw [show rb - y = (rb - (y + 1)) + 1 by omega] at h; exact bd_no (by first | exact fun q => absurd (c81.symm.trans q.2.1) (by decide) | exact fun q => absurd (c89.symm.trans q.2.2) (by decide) | exact fun q => absurd (q.1.1 c28).1 (by omega) | exact fun q => c51 (q.1.1 c28).2 | exact fun q => absurd (q.1.2 (by omega)) (by omega)) h) _ _ hP hD hS ls (lv_sub hl [3, 0] rfl)
              · have c51 : rg % 2 = y := lN_inj (by omega) (by omega) c51
                refine lv_iconst (v := nI 1) hx hb dX6_bad_54 (by decide) ?_
                refine lv_goto (tgt := 71) hx hb dX6_bad_55 (by decide) ?_
                refine lv_istore_n (lv' := [(3, .int (nI 1)), (2, .int (nI (usM rf fF fB rl lB y))), (0, .ref (b 0)), (1, .int (nI y))]) hx hb dX6_bad_71 rfl hl (by decide) rfl (fun ls hl => ?_)
                refine lv_iload_n hx hb dX6_bad_72 rfl (lv_at hl 0 rfl) ?_
                refine x_if_eq (tgt := 94) hx hb dX6_bad_73 (by decide) (by decide) (fun c73 => absurd c73 (by decide)) (fun c73 => ?_)
                refine lv_aload_n hx hb dX6_bad_76 rfl (lv_at hl 2 rfl) ?_
                refine lv_iload_n hx hb dX6_bad_77 rfl (lv_at hl 3 rfl) ?_
                refine x_calli (va_runV (As := [.int (nI y)]) (rest := []) ⟨hx, hb, hml, hown, hts⟩ (c_M_isQueued hrQ (by omega) y (by omega)) (cwV 1 hts (tbV tw_797 tw_799 tw_82 tw_91 tw_800) rfl rfl rfl (by decide +kernel) ⟨Nat.le_of_ble_eq_true rfl, Nat.le_of_ble_eq_true rfl⟩) ⟨y_blind, va_recv hK hP (ci := 6) (q0 := 0) rfl rfl, y_pre hK hP hD⟩ rfl rfl hl.1 rfl (lv_room (Nat.le_of_ble_eq_true rfl)) dX6_bad_78 ⟨Nat.zero_le _, Nat.zero_le _⟩) hS (fun H locs hP hD hS => ?_)
                have hP : va_P (dC, dI) vwCl (wM b cB cI cL rb rd rq rQ rw ra ro rn rk rv rf fN fF fB fR rl lB lR rt rg rx rz) H := hP
                have hD : va_D A (wM b cB cI cL rb rd rq rQ rw ra ro rn rk rv rf fN fF fB fR rl lB lR rt rg rx rz) := hD
                refine x_if_ne_b (tgt := 94) hx hb dX6_bad_81 (by decide) (fun c81 => ?_) (fun c81 => ?_)
                · refine lv_iinc (v := nI (y + 1)) (lv' := [(1, .int (nI (y + 1))), (3, .int (nI 1)), (2, .int (nI (usM rf fF fB rl lB y))), (0, .ref (b 0))]) hx hb dX6_bad_94 hl (k := 3) rfl (x_inc _) (by decide) rfl (fun ls hl => ?_)
                  refine lv_goto (tgt := 12) hx hb dX6_bad_97 (by decide) ?_
                  exact ih12 (y + 1) (by omega) (by omega) (by have h := i12_1; rw [show rb - y = (rb - (y + 1)) + 1 by omega] at h; exact bd_no (by first | exact fun q => absurd (c81.symm.trans q.2.1) (by decide) | exact fun q => absurd (c89.symm.trans q.2.2) (by decide) | exact fun q => absurd (q.1.1 c28).1 (by omega) | exact fun q => c51 (q.1.1 c28).2 | exact fun q => absurd (q.1.2 (by omega)) (by omega)) h) _ _ hP hD hS ls (lv_sub hl [3, 0] rfl)
                · refine lv_aload_n hx hb dX6_bad_84 rfl (lv_at hl 2 rfl) ?_
                  refine lv_iload_n hx hb dX6_bad_85 rfl (lv_at hl 3 rfl) ?_
                  refine x_calli (va_runV (As := [.int (nI y)]) (rest := []) ⟨hx, hb, hml, hown, hts⟩ (c_M_isWhole hrd y (by omega)) (cwV 1 hts (tbV tw_763 tw_765 tw_75 tw_91 tw_766) rfl rfl rfl (by decide +kernel) ⟨Nat.le_of_ble_eq_true rfl, Nat.le_of_ble_eq_true rfl⟩) ⟨y_blind, va_recv hK hP (ci := 6) (q0 := 0) rfl rfl, y_pre hK hP hD⟩ rfl rfl hl.1 rfl (lv_room (Nat.le_of_ble_eq_true rfl)) dX6_bad_86 ⟨Nat.zero_le _, Nat.zero_le _⟩) hS (fun H locs hP hD hS => ?_)
                  have hP : va_P (dC, dI) vwCl (wM b cB cI cL rb rd rq rQ rw ra ro rn rk rv rf fN fF fB fR rl lB lR rt rg rx rz) H := hP
                  have hD : va_D A (wM b cB cI cL rb rd rq rQ rw ra ro rn rk rv rf fN fF fB fR rl lB lR rt rg rx rz) := hD
                  refine x_if_ne_b (tgt := 94) hx hb dX6_bad_89 (by decide) (fun c89 => ?_) (fun c89 => ?_)
                  · refine lv_iinc (v := nI (y + 1)) (lv' := [(1, .int (nI (y + 1))), (3, .int (nI 1)), (2, .int (nI (usM rf fF fB rl lB y))), (0, .ref (b 0))]) hx hb dX6_bad_94 hl (k := 3) rfl (x_inc _) (by decide) rfl (fun ls hl => ?_)
                    refine lv_goto (tgt := 12) hx hb dX6_bad_97 (by decide) ?_
                    exact ih12 (y + 1) (by omega) (by omega) (by have h := i12_1; rw [show rb - y = (rb - (y + 1)) + 1 by omega] at h; exact bd_no (by first | exact fun q => absurd (c81.symm.trans q.2.1) (by decide) | exact fun q => absurd (c89.symm.trans q.2.2) (by decide) | exact fun q => absurd (q.1.1 c28).1 (by omega) | exact fun q => c51 (q.1.1 c28).2 | exact fun q => absurd (q.1.2 (by omega)) (by omega)) h) _ _ hP hD hS ls (lv_sub hl [3, 0] rfl)
                  · refine lv_iload_n hx hb dX6_bad_92 rfl (lv_at hl 3 rfl) ?_
                    exact hret dX6_bad_93 (by have h := i12_1; rw [show rb - y = (rb - (y + 1)) + 1 by omega] at h; exact bd_yes (by first | exact ⟨⟨fun _ => ⟨c37, c51⟩, fun q => absurd c28 (by omega)⟩, c81, c89⟩ | exact ⟨⟨fun q => absurd q (by omega), fun _ => c63⟩, c81, c89⟩) h) hP hD hS
    exact L12 (rb - 0 + 1) 0 (by omega) (by omega) (by rfl) _ _ hP hD hS ls (lv_sub hl [1, 0] rfl)
  · exact absurd (ho.symm.trans c4) (by decide)

set_option maxHeartbeats 4000000 in
set_option maxRecDepth 100000 in
theorem c_M_queuedC {l : Launch} {dC : Nat → ClassId} {dI : Nat → Nat → Nat} {A : Nat → Prop} {b : Nat → Nat} {cB cI cL : ClassId} {rb : Nat} {rd : Nat → Nat} {rq : Nat} {rQ rw : Nat → Nat} {ra : Nat} {ro : Bool} {rn : Nat} {rk rv : Nat → Int64} {rf : Nat} {fN fF fB fR : Nat → Nat} {rl : Nat} {lB lR : Nat → Nat} {rt rg rx rz : Nat} (x : Int32) (ho : ro = false) : Met l yX6_queued (Cond.code yX6_queued cX6_queued 2 (some .int) :: TB) { frames := 1, cells := 0, slots := 0, locals := 25 } (xPre (fun _ => True) (dC, dI) A (tyS cB cI cL) (wM b cB cI cL rb rd rq rQ rw ra ro rn rk rv rf fN fF fB fR rl lB lR rt rg rx rz) [.ref (b 0), .int (x)]) (xQi (dC, dI) A ((-4)) (wM b cB cI cL rb rd rq rQ rw ra ro rn rk rv rf fN fF fB fR rl lB lR rt rg rx rz)) 0 0 A := by
  refine x_ofWi (cc := cX6_queued) (maxL := 2) (by decide) rfl (Nat.le_of_ble_eq_true rfl) ?_
  intro p e s m args below meth c Q hx hb hml hts hown hK hN hP hD hS hret ls hl
  have hl : lv_has ls 2 [(0, .ref (b 0)), (1, .int (x))] := hl
  have hown : s.vm.findClass RX6 = some m.cls := hown
  have f105 := hts _ (List.mem_cons_of_mem _ tw_612)
  have in_X6 := (fun q hq => List.mem_cons_of_mem _ (inX6 q hq) : ∀ q ∈ wsX60, q ∈ (Cond.code yX6_queued cX6_queued 2 (some .int) :: TB))
  refine lv_aload_n hx hb dX6_queued_0 rfl (lv_at hl 0 rfl) ?_
  refine va_get (D := (dC, dI)) (ci := 6) (v := .int (bI ro)) (C := RX6) (T := TX6) (N := 22) hx hb hts in_X6 hown hK hP 0 rfl rfl 6 (by decide) f105 (fun _ h9 => h9) rfl dX6_queued_1 ?_
  refine x_if_ne_b (tgt := 10) hx hb dX6_queued_4 (by decide) (fun c4 => ?_) (fun c4 => ?_)
  · exact absurd (ho.symm.trans c4) (by decide)
  · refine lv_bipush (v := (-4)) hx hb dX6_queued_7 (by decide) ?_
    exact hret dX6_queued_9 (by rfl) hP hD hS

set_option maxHeartbeats 4000000 in
set_option maxRecDepth 100000 in
theorem c_M_queuedN {l : Launch} {dC : Nat → ClassId} {dI : Nat → Nat → Nat} {A : Nat → Prop} {b : Nat → Nat} {cB cI cL : ClassId} {rb : Nat} {rd : Nat → Nat} {rq : Nat} {rQ rw : Nat → Nat} {ra : Nat} {ro : Bool} {rn : Nat} {rk rv : Nat → Int64} {rf : Nat} {fN fF fB fR : Nat → Nat} {rl : Nat} {lB lR : Nat → Nat} {rt rg rx rz : Nat} (hrq : rq ≤ 128) (x : Int32) (ho : ro = true) (hz : ¬ isI x.toInt64 (lN 0) (nI rq - nI 1).toInt64 = true) : Met l yX6_queued (Cond.code yX6_queued cX6_queued 2 (some .int) :: TB) { frames := 1, cells := 0, slots := 0, locals := 25 } (xPre (fun _ => True) (dC, dI) A (tyS cB cI cL) (wM b cB cI cL rb rd rq rQ rw ra ro rn rk rv rf fN fF fB fR rl lB lR rt rg rx rz) [.ref (b 0), .int (x)]) (xQi (dC, dI) A ((-2)) (wM b cB cI cL rb rd rq rQ rw ra ro rn rk rv rf fN fF fB fR rl lB lR rt rg rx rz)) 0 0 A := by
  refine x_ofWi (cc := cX6_queued) (maxL := 2) (by decide) rfl (Nat.le_of_ble_eq_true rfl) ?_
  intro p e s m args below meth c Q hx hb hml hts hown hK hN hP hD hS hret ls hl
  have hl : lv_has ls 2 [(0, .ref (b 0)), (1, .int (x))] := hl
  have hown : s.vm.findClass RX6 = some m.cls := hown
  have f105 := hts _ (List.mem_cons_of_mem _ tw_612)
  have in_X6 := (fun q hq => List.mem_cons_of_mem _ (inX6 q hq) : ∀ q ∈ wsX60, q ∈ (Cond.code yX6_queued cX6_queued 2 (some .int) :: TB))
  have f58 := hts _ (List.mem_cons_of_mem _ tw_608)
  refine lv_aload_n hx hb dX6_queued_0 rfl (lv_at hl 0 rfl) ?_
  refine va_get (D := (dC, dI)) (ci := 6) (v := .int (bI ro)) (C := RX6) (T := TX6) (N := 22) hx hb hts in_X6 hown hK hP 0 rfl rfl 6 (by decide) f105 (fun _ h9 => h9) rfl dX6_queued_1 ?_
  refine x_if_ne_b (tgt := 10) hx hb dX6_queued_4 (by decide) (fun c4 => ?_) (fun c4 => ?_)
  · refine lv_iload_n hx hb dX6_queued_10 rfl (lv_at hl 1 rfl) ?_
    refine lv_i2l hx hb dX6_queued_11 rfl ?_
    refine lv_lconst (v := lN 0) hx hb dX6_queued_12 rfl ?_
    refine lv_aload_n hx hb dX6_queued_13 rfl (lv_at hl 0 rfl) ?_
    refine va_get (D := (dC, dI)) (ci := 6) (v := .int (nI rq)) (C := RX6) (T := TX6) (N := 22) hx hb hts in_X6 hown hK hP 0 rfl rfl 2 (by decide) f58 (fun _ h9 => h9) rfl dX6_queued_14 ?_
    refine lv_iconst (v := nI 1) hx hb dX6_queued_17 (by decide) ?_
    refine lv_isub hx hb dX6_queued_18 ?_
    refine lv_i2l hx hb dX6_queued_19 rfl ?_
    refine x_calli (va_runS (As := [.long (x.toInt64), .long (lN 0), .long ((nI rq - nI 1).toInt64)]) (rest := []) ⟨hx, hb, hml, hown, hts⟩ (c_M_isIn x.toInt64 (lN 0) ((nI rq - nI 1).toInt64)) (va_cwS 3 hts (tbS tw_599 tw_600 tw_91 tw_601) rfl rfl rfl (by decide +kernel) ⟨Nat.le_of_ble_eq_true rfl, Nat.le_of_ble_eq_true rfl⟩) ⟨y_blind, y_pre hK hP hD⟩ rfl rfl hl.1 rfl (lv_room (Nat.le_of_ble_eq_true rfl)) dX6_queued_20 ⟨Nat.zero_le _, Nat.zero_le _⟩) hS (fun H locs hP hD hS => ?_)
    have hP : va_P (dC, dI) vwCl (wM b cB cI cL rb rd rq rQ rw ra ro rn rk rv rf fN fF fB fR rl lB lR rt rg rx rz) H := hP
    have hD : va_D A (wM b cB cI cL rb rd rq rQ rw ra ro rn rk rv rf fN fF fB fR rl lB lR rt rg rx rz) := hD
    refine x_if_eq_b (tgt := 35) hx hb dX6_queued_23 (by decide) (fun c23 => ?_) (fun c23 => ?_)
    · refine lv_bipush (v := (-2)) hx hb dX6_queued_35 (by decide) ?_
      exact hret dX6_queued_37 (by rfl) hP hD hS
    · exact absurd c23 hz
  · exact absurd (ho.symm.trans c4) (by decide)

set_option maxHeartbeats 4000000 in
set_option maxRecDepth 100000 in
theorem c_M_queuedG {l : Launch} {dC : Nat → ClassId} {dI : Nat → Nat → Nat} {A : Nat → Prop} {b : Nat → Nat} {cB cI cL : ClassId} {rb : Nat} {rd : Nat → Nat} {rq : Nat} {rQ rw : Nat → Nat} {ra : Nat} {ro : Bool} {rn : Nat} {rk rv : Nat → Int64} {rf : Nat} {fN fF fB fR : Nat → Nat} {rl : Nat} {lB lR : Nat → Nat} {rt rg rx rz : Nat} (hrq : rq ≤ 128) (i : Nat) (ho : ro = true) (hi1 : i < rq) : Met l yX6_queued (Cond.code yX6_queued cX6_queued 2 (some .int) :: TB) { frames := 1, cells := 0, slots := 0, locals := 25 } (xPre (fun _ => True) (dC, dI) A (tyS cB cI cL) (wM b cB cI cL rb rd rq rQ rw ra ro rn rk rv rf fN fF fB fR rl lB lR rt rg rx rz) [.ref (b 0), .int (nI i)]) (xQi (dC, dI) A (nI (rQ i)) (wM b cB cI cL rb rd rq rQ rw ra ro rn rk rv rf fN fF fB fR rl lB lR rt rg rx rz)) 0 0 A := by
  refine x_ofWi (cc := cX6_queued) (maxL := 2) (by decide) rfl (Nat.le_of_ble_eq_true rfl) ?_
  intro p e s m args below meth c Q hx hb hml hts hown hK hN hP hD hS hret ls hl
  have hl : lv_has ls 2 [(0, .ref (b 0)), (1, .int (nI i))] := hl
  have hown : s.vm.findClass RX6 = some m.cls := hown
  have f105 := hts _ (List.mem_cons_of_mem _ tw_612)
  have in_X6 := (fun q hq => List.mem_cons_of_mem _ (inX6 q hq) : ∀ q ∈ wsX60, q ∈ (Cond.code yX6_queued cX6_queued 2 (some .int) :: TB))
  have f58 := hts _ (List.mem_cons_of_mem _ tw_608)
  have f13 := hts _ (List.mem_cons_of_mem _ tw_609)
  refine lv_aload_n hx hb dX6_queued_0 rfl (lv_at hl 0 rfl) ?_
  refine va_get (D := (dC, dI)) (ci := 6) (v := .int (bI ro)) (C := RX6) (T := TX6) (N := 22) hx hb hts in_X6 hown hK hP 0 rfl rfl 6 (by decide) f105 (fun _ h9 => h9) rfl dX6_queued_1 ?_
  refine x_if_ne_b (tgt := 10) hx hb dX6_queued_4 (by decide) (fun c4 => ?_) (fun c4 => ?_)
  · refine lv_iload_n hx hb dX6_queued_10 rfl (lv_at hl 1 rfl) ?_
    refine lv_i2l (v := lN i) hx hb dX6_queued_11 (nI_l (by omega)) ?_
    refine lv_lconst (v := lN 0) hx hb dX6_queued_12 rfl ?_
    refine lv_aload_n hx hb dX6_queued_13 rfl (lv_at hl 0 rfl) ?_
    refine va_get (D := (dC, dI)) (ci := 6) (v := .int (nI rq)) (C := RX6) (T := TX6) (N := 22) hx hb hts in_X6 hown hK hP 0 rfl rfl 2 (by decide) f58 (fun _ h9 => h9) rfl dX6_queued_14 ?_
    refine lv_iconst (v := nI 1) hx hb dX6_queued_17 (by decide) ?_
    refine x_isub hx hb dX6_queued_18 (by omega) ?_
    refine lv_i2l (v := lN (rq - 1)) hx hb dX6_queued_19 (nI_l (by omega)) ?_
    refine x_calli (va_runS (As := [.long (lN i), .long (lN 0), .long (lN (rq - 1))]) (rest := []) ⟨hx, hb, hml, hown, hts⟩ (c_M_isInN i 0 (rq - 1) (by omega) (by omega) (by omega)) (va_cwS 3 hts (tbS tw_599 tw_600 tw_91 tw_601) rfl rfl rfl (by decide +kernel) ⟨Nat.le_of_ble_eq_true rfl, Nat.le_of_ble_eq_true rfl⟩) ⟨y_blind, y_pre hK hP hD⟩ rfl rfl hl.1 rfl (lv_room (Nat.le_of_ble_eq_true rfl)) dX6_queued_20 ⟨Nat.zero_le _, Nat.zero_le _⟩) hS (fun H locs hP hD hS => ?_)
    have hP : va_P (dC, dI) vwCl (wM b cB cI cL rb rd rq rQ rw ra ro rn rk rv rf fN fF fB fR rl lB lR rt rg rx rz) H := hP
    have hD : va_D A (wM b cB cI cL rb rd rq rQ rw ra ro rn rk rv rf fN fF fB fR rl lB lR rt rg rx rz) := hD
    refine x_if_eq_b (tgt := 35) hx hb dX6_queued_23 (by decide) (fun c23 => ?_) (fun c23 => ?_)
    · exact absurd (of_decide_eq_false c23) (by omega)
    · refine lv_aload_n hx hb dX6_queued_26 rfl (lv_at hl 0 rfl) ?_
      refine va_get (D := (dC, dI)) (ci := 6) (v := .ref (b 2)) (C := RX6) (T := TX6) (N := 22) hx hb hts in_X6 hown hK hP 0 rfl rfl 3 (by decide) f13 (fun _ h9 => h9) rfl dX6_queued_27 ?_
      refine lv_iload_n hx hb dX6_queued_30 rfl (lv_at hl 1 rfl) ?_
      refine x_iald hx hb hK hP 2 1 rfl rfl (by omega) (by decide) dX6_queued_31 ?_
      refine lv_goto (tgt := 37) hx hb dX6_queued_32 (by decide) ?_
      exact hret dX6_queued_37 (by rfl) hP hD hS
  · exact absurd (ho.symm.trans c4) (by decide)

set_option maxHeartbeats 4000000 in
set_option maxRecDepth 100000 in
theorem c_M_countB {l : Launch} {dC : Nat → ClassId} {dI : Nat → Nat → Nat} {A : Nat → Prop} {b : Nat → Nat} {cB cI cL : ClassId} {rb : Nat} {rd : Nat → Nat} {rq : Nat} {rQ rw : Nat → Nat} {ra : Nat} {ro : Bool} {rn : Nat} {rk rv : Nat → Int64} {rf : Nat} {fN fF fB fR : Nat → Nat} {rl : Nat} {lB lR : Nat → Nat} {rt rg rx rz : Nat} (x : Int32) (hz : isI x.toInt64 (lN 0) (lN 10) = false) : Met l yX6_count (Cond.code yX6_count cX6_count 4 (some .int) :: TB) { frames := 2, cells := 0, slots := 0, locals := 44 } (xPre (fun _ => True) (dC, dI) A (tyS cB cI cL) (wM b cB cI cL rb rd rq rQ rw ra ro rn rk rv rf fN fF fB fR rl lB lR rt rg rx rz) [.ref (b 0), .int (x)]) (xQi (dC, dI) A ((-1)) (wM b cB cI cL rb rd rq rQ rw ra ro rn rk rv rf fN fF fB fR rl lB lR rt rg rx rz)) 0 0 A := by
  refine x_ofWi (cc := cX6_count) (maxL := 4) (by decide) rfl (Nat.le_of_ble_eq_true rfl) ?_
  intro p e s m args below meth c Q hx hb hml hts hown hK hN hP hD hS hret ls hl
  have hl : lv_has ls 4 [(0, .ref (b 0)), (1, .int (x))] := hl
  have hown : s.vm.findClass RX6 = some m.cls := hown
  refine lv_iload_n hx hb dX6_count_0 rfl (lv_at hl 1 rfl) ?_
  refine lv_i2l hx hb dX6_count_1 rfl ?_
  refine lv_lconst (v := lN 0) hx hb dX6_count_2 rfl ?_
  refine lv_ldc2 (v := lN 10) hx hb hown (hts _ (List.mem_cons_of_mem _ tw_843)) dX6_count_3 ?_
  refine x_calli (va_runS (As := [.long (x.toInt64), .long (lN 0), .long (lN 10)]) (rest := []) ⟨hx, hb, hml, hown, hts⟩ (c_M_isIn x.toInt64 (lN 0) (lN 10)) (va_cwS 3 hts (tbS tw_599 tw_600 tw_91 tw_601) rfl rfl rfl (by decide +kernel) ⟨Nat.le_of_ble_eq_true rfl, Nat.le_of_ble_eq_true rfl⟩) ⟨y_blind, y_pre hK hP hD⟩ rfl rfl hl.1 rfl (lv_room (Nat.le_of_ble_eq_true rfl)) dX6_count_6 ⟨Nat.zero_le _, Nat.zero_le _⟩) hS (fun H locs hP hD hS => ?_)
  have hP : va_P (dC, dI) vwCl (wM b cB cI cL rb rd rq rQ rw ra ro rn rk rv rf fN fF fB fR rl lB lR rt rg rx rz) H := hP
  have hD : va_D A (wM b cB cI cL rb rd rq rQ rw ra ro rn rk rv rf fN fF fB fR rl lB lR rt rg rx rz) := hD
  refine x_if_ne_b (tgt := 14) hx hb dX6_count_9 (by decide) (fun c9 => ?_) (fun c9 => ?_)
  · exact absurd (hz.symm.trans c9) (by decide)
  · refine lv_iconst (v := (-1)) hx hb dX6_count_12 (by decide) ?_
    exact hret dX6_count_13 (by rfl) hP hD hS

set_option maxHeartbeats 4000000 in
set_option maxRecDepth 100000 in
theorem c_M_countZ {l : Launch} {dC : Nat → ClassId} {dI : Nat → Nat → Nat} {A : Nat → Prop} {b : Nat → Nat} {cB cI cL : ClassId} {rb : Nat} {rd : Nat → Nat} {rq : Nat} {rQ rw : Nat → Nat} {ra : Nat} {ro : Bool} {rn : Nat} {rk rv : Nat → Int64} {rf : Nat} {fN fF fB fR : Nat → Nat} {rl : Nat} {lB lR : Nat → Nat} {rt rg rx rz : Nat} (w : Nat) (hw1 : w = 0) : Met l yX6_count (Cond.code yX6_count cX6_count 4 (some .int) :: TB) { frames := 2, cells := 0, slots := 0, locals := 44 } (xPre (fun _ => True) (dC, dI) A (tyS cB cI cL) (wM b cB cI cL rb rd rq rQ rw ra ro rn rk rv rf fN fF fB fR rl lB lR rt rg rx rz) [.ref (b 0), .int (nI w)]) (xQi (dC, dI) A (nI rb) (wM b cB cI cL rb rd rq rQ rw ra ro rn rk rv rf fN fF fB fR rl lB lR rt rg rx rz)) 0 0 A := by
  refine x_ofWi (cc := cX6_count) (maxL := 4) (by decide) rfl (Nat.le_of_ble_eq_true rfl) ?_
  intro p e s m args below meth c Q hx hb hml hts hown hK hN hP hD hS hret ls hl
  have hl : lv_has ls 4 [(0, .ref (b 0)), (1, .int (nI w))] := hl
  have hown : s.vm.findClass RX6 = some m.cls := hown
  have f99 := hts _ (List.mem_cons_of_mem _ tw_606)
  have in_X6 := (fun q hq => List.mem_cons_of_mem _ (inX6 q hq) : ∀ q ∈ wsX60, q ∈ (Cond.code yX6_count cX6_count 4 (some .int) :: TB))
  refine lv_iload_n hx hb dX6_count_0 rfl (lv_at hl 1 rfl) ?_
  refine lv_i2l (v := lN w) hx hb dX6_count_1 (nI_l (by omega)) ?_
  refine lv_lconst (v := lN 0) hx hb dX6_count_2 rfl ?_
  refine lv_ldc2 (v := lN 10) hx hb hown (hts _ (List.mem_cons_of_mem _ tw_843)) dX6_count_3 ?_
  refine x_calli (va_runS (As := [.long (lN w), .long (lN 0), .long (lN 10)]) (rest := []) ⟨hx, hb, hml, hown, hts⟩ (c_M_isInN w 0 10 (by omega) (by omega) (by omega)) (va_cwS 3 hts (tbS tw_599 tw_600 tw_91 tw_601) rfl rfl rfl (by decide +kernel) ⟨Nat.le_of_ble_eq_true rfl, Nat.le_of_ble_eq_true rfl⟩) ⟨y_blind, y_pre hK hP hD⟩ rfl rfl hl.1 rfl (lv_room (Nat.le_of_ble_eq_true rfl)) dX6_count_6 ⟨Nat.zero_le _, Nat.zero_le _⟩) hS (fun H locs hP hD hS => ?_)
  have hP : va_P (dC, dI) vwCl (wM b cB cI cL rb rd rq rQ rw ra ro rn rk rv rf fN fF fB fR rl lB lR rt rg rx rz) H := hP
  have hD : va_D A (wM b cB cI cL rb rd rq rQ rw ra ro rn rk rv rf fN fF fB fR rl lB lR rt rg rx rz) := hD
  refine x_if_ne_b (tgt := 14) hx hb dX6_count_9 (by decide) (fun c9 => ?_) (fun c9 => ?_)
  · refine lv_iload_n hx hb dX6_count_14 rfl (lv_at hl 1 rfl) ?_
    refine x_if_ne (tgt := 23) hx hb dX6_count_15 (by decide) (by omega) (fun c15 => ?_) (fun c15 => ?_)
    · exact absurd hw1 c15
    · refine lv_aload_n hx hb dX6_count_18 rfl (lv_at hl 0 rfl) ?_
      refine va_get (D := (dC, dI)) (ci := 6) (v := .int (nI rb)) (C := RX6) (T := TX6) (N := 22) hx hb hts in_X6 hown hK hP 0 rfl rfl 0 (by decide) f99 (fun _ h9 => h9) rfl dX6_count_19 ?_
      exact hret dX6_count_22 (by rfl) hP hD hS
  · exact absurd (of_decide_eq_false c9) (by omega)

set_option maxHeartbeats 4000000 in
set_option maxRecDepth 100000 in
theorem c_M_countP {l : Launch} {dC : Nat → ClassId} {dI : Nat → Nat → Nat} {A : Nat → Prop} {b : Nat → Nat} {cB cI cL : ClassId} {rb : Nat} {rd : Nat → Nat} {rq : Nat} {rQ rw : Nat → Nat} {ra : Nat} {ro : Bool} {rn : Nat} {rk rv : Nat → Int64} {rf : Nat} {fN fF fB fR : Nat → Nat} {rl : Nat} {lB lR : Nat → Nat} {rt rg rx rz : Nat} (w : Nat) (hw1 : w = 9) : Met l yX6_count (Cond.code yX6_count cX6_count 4 (some .int) :: TB) { frames := 2, cells := 0, slots := 0, locals := 44 } (xPre (fun _ => True) (dC, dI) A (tyS cB cI cL) (wM b cB cI cL rb rd rq rQ rw ra ro rn rk rv rf fN fF fB fR rl lB lR rt rg rx rz) [.ref (b 0), .int (nI w)]) (xQi (dC, dI) A (bI ro) (wM b cB cI cL rb rd rq rQ rw ra ro rn rk rv rf fN fF fB fR rl lB lR rt rg rx rz)) 0 0 A := by
  refine x_ofWi (cc := cX6_count) (maxL := 4) (by decide) rfl (Nat.le_of_ble_eq_true rfl) ?_
  intro p e s m args below meth c Q hx hb hml hts hown hK hN hP hD hS hret ls hl
  have hl : lv_has ls 4 [(0, .ref (b 0)), (1, .int (nI w))] := hl
  have hown : s.vm.findClass RX6 = some m.cls := hown
  have f105 := hts _ (List.mem_cons_of_mem _ tw_612)
  have in_X6 := (fun q hq => List.mem_cons_of_mem _ (inX6 q hq) : ∀ q ∈ wsX60, q ∈ (Cond.code yX6_count cX6_count 4 (some .int) :: TB))
  refine lv_iload_n hx hb dX6_count_0 rfl (lv_at hl 1 rfl) ?_
  refine lv_i2l (v := lN w) hx hb dX6_count_1 (nI_l (by omega)) ?_
  refine lv_lconst (v := lN 0) hx hb dX6_count_2 rfl ?_
  refine lv_ldc2 (v := lN 10) hx hb hown (hts _ (List.mem_cons_of_mem _ tw_843)) dX6_count_3 ?_
  refine x_calli (va_runS (As := [.long (lN w), .long (lN 0), .long (lN 10)]) (rest := []) ⟨hx, hb, hml, hown, hts⟩ (c_M_isInN w 0 10 (by omega) (by omega) (by omega)) (va_cwS 3 hts (tbS tw_599 tw_600 tw_91 tw_601) rfl rfl rfl (by decide +kernel) ⟨Nat.le_of_ble_eq_true rfl, Nat.le_of_ble_eq_true rfl⟩) ⟨y_blind, y_pre hK hP hD⟩ rfl rfl hl.1 rfl (lv_room (Nat.le_of_ble_eq_true rfl)) dX6_count_6 ⟨Nat.zero_le _, Nat.zero_le _⟩) hS (fun H locs hP hD hS => ?_)
  have hP : va_P (dC, dI) vwCl (wM b cB cI cL rb rd rq rQ rw ra ro rn rk rv rf fN fF fB fR rl lB lR rt rg rx rz) H := hP
  have hD : va_D A (wM b cB cI cL rb rd rq rQ rw ra ro rn rk rv rf fN fF fB fR rl lB lR rt rg rx rz) := hD
  refine x_if_ne_b (tgt := 14) hx hb dX6_count_9 (by decide) (fun c9 => ?_) (fun c9 => ?_)
  · refine lv_iload_n hx hb dX6_count_14 rfl (lv_at hl 1 rfl) ?_
    refine x_if_ne (tgt := 23) hx hb dX6_count_15 (by decide) (by omega) (fun c15 => ?_) (fun c15 => ?_)
    · refine lv_iload_n hx hb dX6_count_23 rfl (lv_at hl 1 rfl) ?_
      refine lv_bipush (v := nI 9) hx hb dX6_count_24 (by decide) ?_
      refine x_icmp_ne (tgt := 42) hx hb dX6_count_26 (by decide) (by omega) (by omega) (fun c26 => ?_) (fun c26 => ?_)
      · exact absurd hw1 c26
      · refine lv_aload_n hx hb dX6_count_29 rfl (lv_at hl 0 rfl) ?_
        refine va_get (D := (dC, dI)) (ci := 6) (v := .int (bI ro)) (C := RX6) (T := TX6) (N := 22) hx hb hts in_X6 hown hK hP 0 rfl rfl 6 (by decide) f105 (fun _ h9 => h9) rfl dX6_count_30 ?_
        refine x_if_eq_b (tgt := 40) hx hb dX6_count_33 (by decide) (fun c33 => ?_) (fun c33 => ?_)
        · refine lv_iconst (v := nI 0) hx hb dX6_count_40 (by decide) ?_
          exact hret dX6_count_41 (by rw [c33]; rfl) hP hD hS
        · refine lv_iconst (v := nI 1) hx hb dX6_count_36 (by decide) ?_
          refine lv_goto (tgt := 41) hx hb dX6_count_37 (by decide) ?_
          exact hret dX6_count_41 (by rw [c33]; rfl) hP hD hS
    · exact absurd c15 (by omega)
  · exact absurd (of_decide_eq_false c9) (by omega)

set_option maxHeartbeats 4000000 in
set_option maxRecDepth 100000 in
theorem c_M_countC {l : Launch} {dC : Nat → ClassId} {dI : Nat → Nat → Nat} {A : Nat → Prop} {b : Nat → Nat} {cB cI cL : ClassId} {rb : Nat} {rd : Nat → Nat} {rq : Nat} {rQ rw : Nat → Nat} {ra : Nat} {ro : Bool} {rn : Nat} {rk rv : Nat → Int64} {rf : Nat} {fN fF fB fR : Nat → Nat} {rl : Nat} {lB lR : Nat → Nat} {rt rg rx rz : Nat} (w : Nat) (hw1 : w ≤ 10) (ho : ro = false) (hw0 : w ≠ 0) (hw9 : w ≠ 9) : Met l yX6_count (Cond.code yX6_count cX6_count 4 (some .int) :: TB) { frames := 2, cells := 0, slots := 0, locals := 44 } (xPre (fun _ => True) (dC, dI) A (tyS cB cI cL) (wM b cB cI cL rb rd rq rQ rw ra ro rn rk rv rf fN fF fB fR rl lB lR rt rg rx rz) [.ref (b 0), .int (nI w)]) (xQi (dC, dI) A (nI 0) (wM b cB cI cL rb rd rq rQ rw ra ro rn rk rv rf fN fF fB fR rl lB lR rt rg rx rz)) 0 0 A := by
  refine x_ofWi (cc := cX6_count) (maxL := 4) (by decide) rfl (Nat.le_of_ble_eq_true rfl) ?_
  intro p e s m args below meth c Q hx hb hml hts hown hK hN hP hD hS hret ls hl
  have hl : lv_has ls 4 [(0, .ref (b 0)), (1, .int (nI w))] := hl
  have hown : s.vm.findClass RX6 = some m.cls := hown
  have f105 := hts _ (List.mem_cons_of_mem _ tw_612)
  have in_X6 := (fun q hq => List.mem_cons_of_mem _ (inX6 q hq) : ∀ q ∈ wsX60, q ∈ (Cond.code yX6_count cX6_count 4 (some .int) :: TB))
  refine lv_iload_n hx hb dX6_count_0 rfl (lv_at hl 1 rfl) ?_
  refine lv_i2l (v := lN w) hx hb dX6_count_1 (nI_l (by omega)) ?_
  refine lv_lconst (v := lN 0) hx hb dX6_count_2 rfl ?_
  refine lv_ldc2 (v := lN 10) hx hb hown (hts _ (List.mem_cons_of_mem _ tw_843)) dX6_count_3 ?_
  refine x_calli (va_runS (As := [.long (lN w), .long (lN 0), .long (lN 10)]) (rest := []) ⟨hx, hb, hml, hown, hts⟩ (c_M_isInN w 0 10 (by omega) (by omega) (by omega)) (va_cwS 3 hts (tbS tw_599 tw_600 tw_91 tw_601) rfl rfl rfl (by decide +kernel) ⟨Nat.le_of_ble_eq_true rfl, Nat.le_of_ble_eq_true rfl⟩) ⟨y_blind, y_pre hK hP hD⟩ rfl rfl hl.1 rfl (lv_room (Nat.le_of_ble_eq_true rfl)) dX6_count_6 ⟨Nat.zero_le _, Nat.zero_le _⟩) hS (fun H locs hP hD hS => ?_)
  have hP : va_P (dC, dI) vwCl (wM b cB cI cL rb rd rq rQ rw ra ro rn rk rv rf fN fF fB fR rl lB lR rt rg rx rz) H := hP
  have hD : va_D A (wM b cB cI cL rb rd rq rQ rw ra ro rn rk rv rf fN fF fB fR rl lB lR rt rg rx rz) := hD
  refine x_if_ne_b (tgt := 14) hx hb dX6_count_9 (by decide) (fun c9 => ?_) (fun c9 => ?_)
  · refine lv_iload_n hx hb dX6_count_14 rfl (lv_at hl 1 rfl) ?_
    refine x_if_ne (tgt := 23) hx hb dX6_count_15 (by decide) (by omega) (fun c15 => ?_) (fun c15 => ?_)
    · refine lv_iload_n hx hb dX6_count_23 rfl (lv_at hl 1 rfl) ?_
      refine lv_bipush (v := nI 9) hx hb dX6_count_24 (by decide) ?_
      refine x_icmp_ne (tgt := 42) hx hb dX6_count_26 (by decide) (by omega) (by omega) (fun c26 => ?_) (fun c26 => ?_)
      · refine lv_aload_n hx hb dX6_count_42 rfl (lv_at hl 0 rfl) ?_
        refine va_get (D := (dC, dI)) (ci := 6) (v := .int (bI ro)) (C := RX6) (T := TX6) (N := 22) hx hb hts in_X6 hown hK hP 0 rfl rfl 6 (by decide) f105 (fun _ h9 => h9) rfl dX6_count_43 ?_
        refine x_if_ne_b (tgt := 51) hx hb dX6_count_46 (by decide) (fun c46 => ?_) (fun c46 => ?_)
        · exact absurd (ho.symm.trans c46) (by decide)
        · refine lv_iconst (v := nI 0) hx hb dX6_count_49 (by decide) ?_
          exact hret dX6_count_50 (by rfl) hP hD hS
      · exact absurd c26 hw9
    · exact absurd c15 (by omega)
  · exact absurd (of_decide_eq_false c9) (by omega)

set_option maxHeartbeats 4000000 in
set_option maxRecDepth 100000 in
theorem c_M_countO {l : Launch} {dC : Nat → ClassId} {dI : Nat → Nat → Nat} {A : Nat → Prop} {b : Nat → Nat} {cB cI cL : ClassId} {rb : Nat} {rd : Nat → Nat} {rq : Nat} {rQ rw : Nat → Nat} {ra : Nat} {ro : Bool} {rn : Nat} {rk rv : Nat → Int64} {rf : Nat} {fN fF fB fR : Nat → Nat} {rl : Nat} {lB lR : Nat → Nat} {rt rg rx rz : Nat} (hrb : rb ≤ 64) (hrf : rf ≤ 5) (hfF : ∀ j, fF j < 1048576) (hfB : ∀ j, fB j < 1048576) (hrl : rl ≤ 62) (hlB : ∀ j, lB j < 1048576) (w : Nat) (hw1 : w ≤ 10) (ho : ro = true) (hw0 : w ≠ 0) (hw9 : w ≠ 9) : Met l yX6_count (Cond.code yX6_count cX6_count 4 (some .int) :: TB) { frames := 2, cells := 0, slots := 0, locals := 44 } (xPre (fun _ => True) (dC, dI) A (tyS cB cI cL) (wM b cB cI cL rb rd rq rQ rw ra ro rn rk rv rf fN fF fB fR rl lB lR rt rg rx rz) [.ref (b 0), .int (nI w)]) (xQi (dC, dI) A (nI (ctM (fcM (usM rf fF fB rl lB) (rb - 2) 2 0) rf rn rt rl rq rg rx rz w)) (wM b cB cI cL rb rd rq rQ rw ra ro rn rk rv rf fN fF fB fR rl lB lR rt rg rx rz)) 0 0 A := by
  refine x_ofWi (cc := cX6_count) (maxL := 4) (by decide) rfl (Nat.le_of_ble_eq_true rfl) ?_
  intro p e s m args below meth c Q hx hb hml hts hown hK hN hP hD hS hret ls hl
  have hl : lv_has ls 4 [(0, .ref (b 0)), (1, .int (nI w))] := hl
  have hown : s.vm.findClass RX6 = some m.cls := hown
  have f105 := hts _ (List.mem_cons_of_mem _ tw_612)
  have in_X6 := (fun q hq => List.mem_cons_of_mem _ (inX6 q hq) : ∀ q ∈ wsX60, q ∈ (Cond.code yX6_count cX6_count 4 (some .int) :: TB))
  have f99 := hts _ (List.mem_cons_of_mem _ tw_606)
  have f74 := hts _ (List.mem_cons_of_mem _ tw_616)
  have f71 := hts _ (List.mem_cons_of_mem _ tw_613)
  have f80 := hts _ (List.mem_cons_of_mem _ tw_624)
  have f77 := hts _ (List.mem_cons_of_mem _ tw_621)
  have f58 := hts _ (List.mem_cons_of_mem _ tw_608)
  have f83 := hts _ (List.mem_cons_of_mem _ tw_625)
  have f87 := hts _ (List.mem_cons_of_mem _ tw_626)
  have f90 := hts _ (List.mem_cons_of_mem _ tw_627)
  refine lv_iload_n hx hb dX6_count_0 rfl (lv_at hl 1 rfl) ?_
  refine lv_i2l (v := lN w) hx hb dX6_count_1 (nI_l (by omega)) ?_
  refine lv_lconst (v := lN 0) hx hb dX6_count_2 rfl ?_
  refine lv_ldc2 (v := lN 10) hx hb hown (hts _ (List.mem_cons_of_mem _ tw_843)) dX6_count_3 ?_
  refine x_calli (va_runS (As := [.long (lN w), .long (lN 0), .long (lN 10)]) (rest := []) ⟨hx, hb, hml, hown, hts⟩ (c_M_isInN w 0 10 (by omega) (by omega) (by omega)) (va_cwS 3 hts (tbS tw_599 tw_600 tw_91 tw_601) rfl rfl rfl (by decide +kernel) ⟨Nat.le_of_ble_eq_true rfl, Nat.le_of_ble_eq_true rfl⟩) ⟨y_blind, y_pre hK hP hD⟩ rfl rfl hl.1 rfl (lv_room (Nat.le_of_ble_eq_true rfl)) dX6_count_6 ⟨Nat.zero_le _, Nat.zero_le _⟩) hS (fun H locs hP hD hS => ?_)
  have hP : va_P (dC, dI) vwCl (wM b cB cI cL rb rd rq rQ rw ra ro rn rk rv rf fN fF fB fR rl lB lR rt rg rx rz) H := hP
  have hD : va_D A (wM b cB cI cL rb rd rq rQ rw ra ro rn rk rv rf fN fF fB fR rl lB lR rt rg rx rz) := hD
  refine x_if_ne_b (tgt := 14) hx hb dX6_count_9 (by decide) (fun c9 => ?_) (fun c9 => ?_)
  · refine lv_iload_n hx hb dX6_count_14 rfl (lv_at hl 1 rfl) ?_
    refine x_if_ne (tgt := 23) hx hb dX6_count_15 (by decide) (by omega) (fun c15 => ?_) (fun c15 => ?_)
    · refine lv_iload_n hx hb dX6_count_23 rfl (lv_at hl 1 rfl) ?_
      refine lv_bipush (v := nI 9) hx hb dX6_count_24 (by decide) ?_
      refine x_icmp_ne (tgt := 42) hx hb dX6_count_26 (by decide) (by omega) (by omega) (fun c26 => ?_) (fun c26 => ?_)
      · refine lv_aload_n hx hb dX6_count_42 rfl (lv_at hl 0 rfl) ?_
        refine va_get (D := (dC, dI)) (ci := 6) (v := .int (bI ro)) (C := RX6) (T := TX6) (N := 22) hx hb hts in_X6 hown hK hP 0 rfl rfl 6 (by decide) f105 (fun _ h9 => h9) rfl dX6_count_43 ?_
        refine x_if_ne_b (tgt := 51) hx hb dX6_count_46 (by decide) (fun c46 => ?_) (fun c46 => ?_)
        · refine lv_iload_n hx hb dX6_count_51 rfl (lv_at hl 1 rfl) ?_
          rcases (show w = 1 ∨ w = 2 ∨ w = 3 ∨ w = 4 ∨ w = 5 ∨ w = 6 ∨ w = 7 ∨ w = 8 ∨ (w < 1 ∨ 8 < w) by omega) with c52 | c52 | c52 | c52 | c52 | c52 | c52 | c52 | c52
          · refine x_tabIn (tgt := 100) hx hb dX6_count_52 c52 (by decide) (by decide) (by decide) rfl (by decide) ?_
            refine lv_iconst (v := nI 0) hx hb dX6_count_100 (by decide) ?_
            refine lv_istore_n (lv' := [(2, .int (nI 0)), (0, .ref (b 0)), (1, .int (nI w))]) hx hb dX6_count_101 rfl hl (by decide) rfl (fun ls hl => ?_)
            refine lv_iconst (v := nI 2) hx hb dX6_count_102 (by decide) ?_
            refine lv_istore_n (lv' := [(3, .int (nI 2)), (2, .int (nI 0)), (0, .ref (b 0)), (1, .int (nI w))]) hx hb dX6_count_103 rfl hl (by decide) rfl (fun ls hl => ?_)
            have L104 : ∀ (fu104 : Nat) (y : Nat) (v : Nat), (rb - y < fu104) → (2 ≤ y ∧ y ≤ 66) → (fcM (usM rf fF fB rl lB) (rb - y) y v = fcM (usM rf fF fB rl lB) (rb - 2) 2 0) → ∀ (H : Heap) (locs : List Loc), va_P (dC, dI) vwCl (wM b cB cI cL rb rd rq rQ rw ra ro rn rk rv rf fN fF fB fR rl lB lR rt rg rx rz) H → va_D A (wM b cB cI cL rb rd rq rQ rw ra ro rn rk rv rf fN fF fB fR rl lB lR rt rg rx rz) → va_S A s.heap H locs → ∀ (ls : Array Slot), lv_has ls 4 [(0, .ref (b 0)), (1, .int (nI w)), (2, .int (nI v)), (3, .int (nI y))] → W p l e { frames := 2, cells := 0, slots := 0, locals := 44 } s m args below meth c H locs 0 0 Q (F0 m 104 ls []) := by
              intro fu104
              induction fu104 with
              | zero => intro y v hm; exact absurd hm (Nat.not_lt_zero _)
              | succ fu104 ih104 =>
                intro y v hm i104_0 i104_1 H locs hP hD hS ls hl
                refine lv_iload_n hx hb dX6_count_104 rfl (lv_at hl 3 rfl) ?_
                refine lv_aload_n hx hb dX6_count_105 rfl (lv_at hl 0 rfl) ?_
                refine va_get (D := (dC, dI)) (ci := 6) (v := .int (nI rb)) (C := RX6) (T := TX6) (N := 22) hx hb hts in_X6 hown hK hP 0 rfl rfl 0 (by decide) f99 (fun _ h9 => h9) rfl dX6_count_106 ?_
                refine x_icmp_ge (tgt := 134) hx hb dX6_count_109 (by decide) (by omega) (by omega) (fun c109 => ?_) (fun c109 => ?_)
                · refine lv_iload_n hx hb dX6_count_134 rfl (lv_at hl 2 rfl) ?_
                  exact hret dX6_count_135 (by have h := i104_1; rw [show rb - y = 0 by omega, fcM] at h; rw [c52, ctM, if_pos rfl, ← h]) hP hD hS
                · refine lv_iload_n hx hb dX6_count_112 rfl (lv_at hl 2 rfl) ?_
                  refine lv_aload_n hx hb dX6_count_113 rfl (lv_at hl 0 rfl) ?_
                  refine lv_iload_n hx hb dX6_count_114 rfl (lv_at hl 3 rfl) ?_
                  refine x_calli (va_runV (As := [.int (nI y)]) (rest := [.int (nI v)]) ⟨hx, hb, hml, hown, hts⟩ (c_M_useOf (by omega) hfF hfB (by omega) hlB y (by omega)) (cwV 1 hts (tbV tw_682 tw_684 tw_62 tw_91 tw_685) rfl rfl rfl (by decide +kernel) ⟨Nat.le_of_ble_eq_true rfl, Nat.le_of_ble_eq_true rfl⟩) ⟨y_blind, va_recv hK hP (ci := 6) (q0 := 0) rfl rfl, y_pre hK hP hD⟩ rfl rfl hl.1 rfl (lv_room (Nat.le_of_ble_eq_true rfl)) dX6_count_115 ⟨Nat.zero_le _, Nat.zero_le _⟩) hS (fun H locs hP hD hS => ?_)
                  have hP : va_P (dC, dI) vwCl (wM b cB cI cL rb rd rq rQ rw ra ro rn rk rv rf fN fF fB fR rl lB lR rt rg rx rz) H := hP
                  have hD : va_D A (wM b cB cI cL rb rd rq rQ rw ra ro rn rk rv rf fN fF fB fR rl lB lR rt rg rx rz) := hD
                  have hv115 : usM rf fF fB rl lB y < 4 := usM_lt
                  refine x_if_ne (tgt := 125) hx hb dX6_count_118 (by decide) (by omega) (fun c118 => ?_) (fun c118 => ?_)
                  · refine lv_iconst (v := nI 0) hx hb dX6_count_125 (by decide) ?_
                    refine x_iadd hx hb dX6_count_126 ?_
                    refine lv_istore_n (lv' := [(2, .int (nI (v + 0))), (0, .ref (b 0)), (1, .int (nI w)), (3, .int (nI y))]) hx hb dX6_count_127 rfl hl (by decide) rfl (fun ls hl => ?_)
                    refine lv_iinc (v := nI (y + 1)) (lv' := [(3, .int (nI (y + 1))), (2, .int (nI (v + 0))), (0, .ref (b 0)), (1, .int (nI w))]) hx hb dX6_count_128 hl (k := 3) rfl (x_inc _) (by decide) rfl (fun ls hl => ?_)
                    refine lv_goto (tgt := 104) hx hb dX6_count_131 (by decide) ?_
                    exact ih104 (y + 1) (v + 0) (by omega) (by omega) (by have h := i104_1; rw [show rb - y = (rb - (y + 1)) + 1 by omega, fcM] at h; first | (rw [if_pos c118] at h; exact h) | (rw [if_neg c118] at h; exact h)) _ _ hP hD hS ls (lv_sub hl [2, 3, 1, 0] rfl)
                  · refine lv_iconst (v := nI 1) hx hb dX6_count_121 (by decide) ?_
                    refine lv_goto (tgt := 126) hx hb dX6_count_122 (by decide) ?_
                    refine x_iadd hx hb dX6_count_126 ?_
                    refine lv_istore_n (lv' := [(2, .int (nI (v + 1))), (0, .ref (b 0)), (1, .int (nI w)), (3, .int (nI y))]) hx hb dX6_count_127 rfl hl (by decide) rfl (fun ls hl => ?_)
                    refine lv_iinc (v := nI (y + 1)) (lv' := [(3, .int (nI (y + 1))), (2, .int (nI (v + 1))), (0, .ref (b 0)), (1, .int (nI w))]) hx hb dX6_count_128 hl (k := 3) rfl (x_inc _) (by decide) rfl (fun ls hl => ?_)
                    refine lv_goto (tgt := 104) hx hb dX6_count_131 (by decide) ?_
                    exact ih104 (y + 1) (v + 1) (by omega) (by omega) (by have h := i104_1; rw [show rb - y = (rb - (y + 1)) + 1 by omega, fcM] at h; first | (rw [if_pos c118] at h; exact h) | (rw [if_neg c118] at h; exact h)) _ _ hP hD hS ls (lv_sub hl [2, 3, 1, 0] rfl)
            exact L104 (rb - 2 + 1) 2 0 (by omega) (by omega) (by rfl) _ _ hP hD hS ls (lv_sub hl [2, 3, 1, 0] rfl)
          · refine x_tabIn (tgt := 136) hx hb dX6_count_52 c52 (by decide) (by decide) (by decide) rfl (by decide) ?_
            refine lv_aload_n hx hb dX6_count_136 rfl (lv_at hl 0 rfl) ?_
            refine va_get (D := (dC, dI)) (ci := 6) (v := .int (nI rf)) (C := RX6) (T := TX6) (N := 22) hx hb hts in_X6 hown hK hP 0 rfl rfl 10 (by decide) f74 (fun _ h9 => h9) rfl dX6_count_137 ?_
            exact hret dX6_count_140 (by rw [c52]; rfl) hP hD hS
          · refine x_tabIn (tgt := 141) hx hb dX6_count_52 c52 (by decide) (by decide) (by decide) rfl (by decide) ?_
            refine lv_aload_n hx hb dX6_count_141 rfl (lv_at hl 0 rfl) ?_
            refine va_get (D := (dC, dI)) (ci := 6) (v := .int (nI rn)) (C := RX6) (T := TX6) (N := 22) hx hb hts in_X6 hown hK hP 0 rfl rfl 7 (by decide) f71 (fun _ h9 => h9) rfl dX6_count_142 ?_
            exact hret dX6_count_145 (by rw [c52]; rfl) hP hD hS
          · refine x_tabIn (tgt := 146) hx hb dX6_count_52 c52 (by decide) (by decide) (by decide) rfl (by decide) ?_
            refine lv_aload_n hx hb dX6_count_146 rfl (lv_at hl 0 rfl) ?_
            refine va_get (D := (dC, dI)) (ci := 6) (v := .int (nI rt)) (C := RX6) (T := TX6) (N := 22) hx hb hts in_X6 hown hK hP 0 rfl rfl 18 (by decide) f80 (fun _ h9 => h9) rfl dX6_count_147 ?_
            exact hret dX6_count_150 (by rw [c52]; rfl) hP hD hS
          · refine x_tabIn (tgt := 151) hx hb dX6_count_52 c52 (by decide) (by decide) (by decide) rfl (by decide) ?_
            refine lv_aload_n hx hb dX6_count_151 rfl (lv_at hl 0 rfl) ?_
            refine va_get (D := (dC, dI)) (ci := 6) (v := .int (nI rl)) (C := RX6) (T := TX6) (N := 22) hx hb hts in_X6 hown hK hP 0 rfl rfl 15 (by decide) f77 (fun _ h9 => h9) rfl dX6_count_152 ?_
            exact hret dX6_count_155 (by rw [c52]; rfl) hP hD hS
          · refine x_tabIn (tgt := 156) hx hb dX6_count_52 c52 (by decide) (by decide) (by decide) rfl (by decide) ?_
            refine lv_aload_n hx hb dX6_count_156 rfl (lv_at hl 0 rfl) ?_
            refine va_get (D := (dC, dI)) (ci := 6) (v := .int (nI rq)) (C := RX6) (T := TX6) (N := 22) hx hb hts in_X6 hown hK hP 0 rfl rfl 2 (by decide) f58 (fun _ h9 => h9) rfl dX6_count_157 ?_
            exact hret dX6_count_160 (by rw [c52]; rfl) hP hD hS
          · refine x_tabIn (tgt := 161) hx hb dX6_count_52 c52 (by decide) (by decide) (by decide) rfl (by decide) ?_
            refine lv_aload_n hx hb dX6_count_161 rfl (lv_at hl 0 rfl) ?_
            refine va_get (D := (dC, dI)) (ci := 6) (v := .long (lN rg)) (C := RX6) (T := TX6) (N := 22) hx hb hts in_X6 hown hK hP 0 rfl rfl 19 (by decide) f83 (fun _ h9 => h9) rfl dX6_count_162 ?_
            refine lv_l2i (v := nI rg) hx hb dX6_count_165 (lN_i _) ?_
            exact hret dX6_count_166 (by rw [c52]; rfl) hP hD hS
          · refine x_tabIn (tgt := 167) hx hb dX6_count_52 c52 (by decide) (by decide) (by decide) rfl (by decide) ?_
            refine lv_aload_n hx hb dX6_count_167 rfl (lv_at hl 0 rfl) ?_
            refine va_get (D := (dC, dI)) (ci := 6) (v := .long (lN rx)) (C := RX6) (T := TX6) (N := 22) hx hb hts in_X6 hown hK hP 0 rfl rfl 20 (by decide) f87 (fun _ h9 => h9) rfl dX6_count_168 ?_
            refine lv_l2i (v := nI rx) hx hb dX6_count_171 (lN_i _) ?_
            exact hret dX6_count_172 (by rw [c52]; rfl) hP hD hS
          · refine x_tabOut (tgt := 173) hx hb dX6_count_52 (by omega) (by omega) (by decide) ?_
            refine lv_aload_n hx hb dX6_count_173 rfl (lv_at hl 0 rfl) ?_
            refine va_get (D := (dC, dI)) (ci := 6) (v := .int (nI rz)) (C := RX6) (T := TX6) (N := 22) hx hb hts in_X6 hown hK hP 0 rfl rfl 21 (by decide) f90 (fun _ h9 => h9) rfl dX6_count_174 ?_
            exact hret dX6_count_177 (by rw [show w = 10 by omega]; rfl) hP hD hS
        · exact absurd (ho.symm.trans c46) (by decide)
      · exact absurd c26 hw9
    · exact absurd c15 (by omega)
  · exact absurd (of_decide_eq_false c9) (by omega)

set_option maxHeartbeats 4000000 in
set_option maxRecDepth 100000 in
theorem c_M_recordB {l : Launch} {dC : Nat → ClassId} {dI : Nat → Nat → Nat} {A : Nat → Prop} {b : Nat → Nat} {cB cI cL : ClassId} {rb : Nat} {rd : Nat → Nat} {rq : Nat} {rQ rw : Nat → Nat} {ra : Nat} {ro : Bool} {rn : Nat} {rk rv : Nat → Int64} {rf : Nat} {fN fF fB fR : Nat → Nat} {rl : Nat} {lB lR : Nat → Nat} {rt rg rx rz : Nat} (hrn : rn ≤ 210) (x y : Int32) (hz : ¬ (isI x.toInt64 (lN 0) (nI rn - nI 1).toInt64 = true ∧ isI y.toInt64 (lN 0) (lN 2) = true)) : Met l yX6_record (Cond.code yX6_record cX6_record 6 (some .long) :: TB) { frames := 1, cells := 0, slots := 0, locals := 25 } (xPre (fun _ => True) (dC, dI) A (tyS cB cI cL) (wM b cB cI cL rb rd rq rQ rw ra ro rn rk rv rf fN fF fB fR rl lB lR rt rg rx rz) [.ref (b 0), .int (x), .int (y)]) (xQl (dC, dI) A (lN 0) (wM b cB cI cL rb rd rq rQ rw ra ro rn rk rv rf fN fF fB fR rl lB lR rt rg rx rz)) 0 0 A := by
  refine x_ofWl (cc := cX6_record) (maxL := 6) (by decide) rfl (Nat.le_of_ble_eq_true rfl) ?_
  intro p e s m args below meth c Q hx hb hml hts hown hK hN hP hD hS hret ls hl
  have hl : lv_has ls 6 [(0, .ref (b 0)), (1, .int (x)), (2, .int (y))] := hl
  have hown : s.vm.findClass RX6 = some m.cls := hown
  have f71 := hts _ (List.mem_cons_of_mem _ tw_613)
  have in_X6 := (fun q hq => List.mem_cons_of_mem _ (inX6 q hq) : ∀ q ∈ wsX60, q ∈ (Cond.code yX6_record cX6_record 6 (some .long) :: TB))
  refine lv_iload_n hx hb dX6_record_0 rfl (lv_at hl 1 rfl) ?_
  refine lv_i2l hx hb dX6_record_1 rfl ?_
  refine lv_lconst (v := lN 0) hx hb dX6_record_2 rfl ?_
  refine lv_aload_n hx hb dX6_record_3 rfl (lv_at hl 0 rfl) ?_
  refine va_get (D := (dC, dI)) (ci := 6) (v := .int (nI rn)) (C := RX6) (T := TX6) (N := 22) hx hb hts in_X6 hown hK hP 0 rfl rfl 7 (by decide) f71 (fun _ h9 => h9) rfl dX6_record_4 ?_
  refine lv_iconst (v := nI 1) hx hb dX6_record_7 (by decide) ?_
  refine lv_isub hx hb dX6_record_8 ?_
  refine lv_i2l hx hb dX6_record_9 rfl ?_
  refine x_calli (va_runS (As := [.long (x.toInt64), .long (lN 0), .long ((nI rn - nI 1).toInt64)]) (rest := []) ⟨hx, hb, hml, hown, hts⟩ (c_M_isIn x.toInt64 (lN 0) ((nI rn - nI 1).toInt64)) (va_cwS 3 hts (tbS tw_599 tw_600 tw_91 tw_601) rfl rfl rfl (by decide +kernel) ⟨Nat.le_of_ble_eq_true rfl, Nat.le_of_ble_eq_true rfl⟩) ⟨y_blind, y_pre hK hP hD⟩ rfl rfl hl.1 rfl (lv_room (Nat.le_of_ble_eq_true rfl)) dX6_record_10 ⟨Nat.zero_le _, Nat.zero_le _⟩) hS (fun H locs hP hD hS => ?_)
  have hP : va_P (dC, dI) vwCl (wM b cB cI cL rb rd rq rQ rw ra ro rn rk rv rf fN fF fB fR rl lB lR rt rg rx rz) H := hP
  have hD : va_D A (wM b cB cI cL rb rd rq rQ rw ra ro rn rk rv rf fN fF fB fR rl lB lR rt rg rx rz) := hD
  refine x_if_eq_b (tgt := 28) hx hb dX6_record_13 (by decide) (fun c13 => ?_) (fun c13 => ?_)
  · refine lv_lconst (v := lN 0) hx hb dX6_record_28 rfl ?_
    exact hret dX6_record_29 (by rfl) hP hD hS
  · refine lv_iload_n hx hb dX6_record_16 rfl (lv_at hl 2 rfl) ?_
    refine lv_i2l hx hb dX6_record_17 rfl ?_
    refine lv_lconst (v := lN 0) hx hb dX6_record_18 rfl ?_
    refine lv_ldc2 (v := lN 2) hx hb hown (hts _ (List.mem_cons_of_mem _ tw_738)) dX6_record_19 ?_
    refine x_calli (va_runS (As := [.long (y.toInt64), .long (lN 0), .long (lN 2)]) (rest := []) ⟨hx, hb, hml, hown, hts⟩ (c_M_isIn y.toInt64 (lN 0) (lN 2)) (va_cwS 3 hts (tbS tw_599 tw_600 tw_91 tw_601) rfl rfl rfl (by decide +kernel) ⟨Nat.le_of_ble_eq_true rfl, Nat.le_of_ble_eq_true rfl⟩) ⟨y_blind, y_pre hK hP hD⟩ rfl rfl hl.1 rfl (lv_room (Nat.le_of_ble_eq_true rfl)) dX6_record_22 ⟨Nat.zero_le _, Nat.zero_le _⟩) hS (fun H locs hP hD hS => ?_)
    have hP : va_P (dC, dI) vwCl (wM b cB cI cL rb rd rq rQ rw ra ro rn rk rv rf fN fF fB fR rl lB lR rt rg rx rz) H := hP
    have hD : va_D A (wM b cB cI cL rb rd rq rQ rw ra ro rn rk rv rf fN fF fB fR rl lB lR rt rg rx rz) := hD
    refine x_if_ne_b (tgt := 30) hx hb dX6_record_25 (by decide) (fun c25 => ?_) (fun c25 => ?_)
    · exact absurd ⟨c13, c25⟩ hz
    · refine lv_lconst (v := lN 0) hx hb dX6_record_28 rfl ?_
      exact hret dX6_record_29 (by rfl) hP hD hS

set_option maxHeartbeats 4000000 in
set_option maxRecDepth 100000 in
theorem c_M_recordG {l : Launch} {dC : Nat → ClassId} {dI : Nat → Nat → Nat} {A : Nat → Prop} {b : Nat → Nat} {cB cI cL : ClassId} {rb : Nat} {rd : Nat → Nat} {rq : Nat} {rQ rw : Nat → Nat} {ra : Nat} {ro : Bool} {rn : Nat} {rk rv : Nat → Int64} {rf : Nat} {fN fF fB fR : Nat → Nat} {rl : Nat} {lB lR : Nat → Nat} {rt rg rx rz : Nat} (hrn : rn ≤ 210) (hrf : rf ≤ 5) (hfR : ∀ j, fR j < 1048576) (hrt : rt ≤ rn ∧ rt ≤ 3) (i w : Nat) (hi1 : i < rn) (hw1 : w ≤ 2) : Met l yX6_record (Cond.code yX6_record cX6_record 6 (some .long) :: TB) { frames := 1, cells := 0, slots := 0, locals := 25 } (xPre (fun _ => True) (dC, dI) A (tyS cB cI cL) (wM b cB cI cL rb rd rq rQ rw ra ro rn rk rv rf fN fF fB fR rl lB lR rt rg rx rz) [.ref (b 0), .int (nI i), .int (nI w)]) (xQl (dC, dI) A (rcX rk rv (ifM fR rf 0 0) rn rt w (rcO rk rn i rn 0)) (wM b cB cI cL rb rd rq rQ rw ra ro rn rk rv rf fN fF fB fR rl lB lR rt rg rx rz)) 0 0 A := by
  refine x_ofWl (cc := cX6_record) (maxL := 6) (by decide) rfl (Nat.le_of_ble_eq_true rfl) ?_
  intro p e s m args below meth c Q hx hb hml hts hown hK hN hP hD hS hret ls hl
  have hl : lv_has ls 6 [(0, .ref (b 0)), (1, .int (nI i)), (2, .int (nI w))] := hl
  have hown : s.vm.findClass RX6 = some m.cls := hown
  have f71 := hts _ (List.mem_cons_of_mem _ tw_613)
  have in_X6 := (fun q hq => List.mem_cons_of_mem _ (inX6 q hq) : ∀ q ∈ wsX60, q ∈ (Cond.code yX6_record cX6_record 6 (some .long) :: TB))
  have f80 := hts _ (List.mem_cons_of_mem _ tw_624)
  have f24 := hts _ (List.mem_cons_of_mem _ tw_615)
  have f20 := hts _ (List.mem_cons_of_mem _ tw_614)
  refine lv_iload_n hx hb dX6_record_0 rfl (lv_at hl 1 rfl) ?_
  refine lv_i2l (v := lN i) hx hb dX6_record_1 (nI_l (by omega)) ?_
  refine lv_lconst (v := lN 0) hx hb dX6_record_2 rfl ?_
  refine lv_aload_n hx hb dX6_record_3 rfl (lv_at hl 0 rfl) ?_
  refine va_get (D := (dC, dI)) (ci := 6) (v := .int (nI rn)) (C := RX6) (T := TX6) (N := 22) hx hb hts in_X6 hown hK hP 0 rfl rfl 7 (by decide) f71 (fun _ h9 => h9) rfl dX6_record_4 ?_
  refine lv_iconst (v := nI 1) hx hb dX6_record_7 (by decide) ?_
  refine x_isub hx hb dX6_record_8 (by omega) ?_
  refine lv_i2l (v := lN (rn - 1)) hx hb dX6_record_9 (nI_l (by omega)) ?_
  refine x_calli (va_runS (As := [.long (lN i), .long (lN 0), .long (lN (rn - 1))]) (rest := []) ⟨hx, hb, hml, hown, hts⟩ (c_M_isInN i 0 (rn - 1) (by omega) (by omega) (by omega)) (va_cwS 3 hts (tbS tw_599 tw_600 tw_91 tw_601) rfl rfl rfl (by decide +kernel) ⟨Nat.le_of_ble_eq_true rfl, Nat.le_of_ble_eq_true rfl⟩) ⟨y_blind, y_pre hK hP hD⟩ rfl rfl hl.1 rfl (lv_room (Nat.le_of_ble_eq_true rfl)) dX6_record_10 ⟨Nat.zero_le _, Nat.zero_le _⟩) hS (fun H locs hP hD hS => ?_)
  have hP : va_P (dC, dI) vwCl (wM b cB cI cL rb rd rq rQ rw ra ro rn rk rv rf fN fF fB fR rl lB lR rt rg rx rz) H := hP
  have hD : va_D A (wM b cB cI cL rb rd rq rQ rw ra ro rn rk rv rf fN fF fB fR rl lB lR rt rg rx rz) := hD
  refine x_if_eq_b (tgt := 28) hx hb dX6_record_13 (by decide) (fun c13 => ?_) (fun c13 => ?_)
  · exact absurd (of_decide_eq_false c13) (by omega)
  · refine lv_iload_n hx hb dX6_record_16 rfl (lv_at hl 2 rfl) ?_
    refine lv_i2l (v := lN w) hx hb dX6_record_17 (nI_l (by omega)) ?_
    refine lv_lconst (v := lN 0) hx hb dX6_record_18 rfl ?_
    refine lv_ldc2 (v := lN 2) hx hb hown (hts _ (List.mem_cons_of_mem _ tw_738)) dX6_record_19 ?_
    refine x_calli (va_runS (As := [.long (lN w), .long (lN 0), .long (lN 2)]) (rest := []) ⟨hx, hb, hml, hown, hts⟩ (c_M_isInN w 0 2 (by omega) (by omega) (by omega)) (va_cwS 3 hts (tbS tw_599 tw_600 tw_91 tw_601) rfl rfl rfl (by decide +kernel) ⟨Nat.le_of_ble_eq_true rfl, Nat.le_of_ble_eq_true rfl⟩) ⟨y_blind, y_pre hK hP hD⟩ rfl rfl hl.1 rfl (lv_room (Nat.le_of_ble_eq_true rfl)) dX6_record_22 ⟨Nat.zero_le _, Nat.zero_le _⟩) hS (fun H locs hP hD hS => ?_)
    have hP : va_P (dC, dI) vwCl (wM b cB cI cL rb rd rq rQ rw ra ro rn rk rv rf fN fF fB fR rl lB lR rt rg rx rz) H := hP
    have hD : va_D A (wM b cB cI cL rb rd rq rQ rw ra ro rn rk rv rf fN fF fB fR rl lB lR rt rg rx rz) := hD
    refine x_if_ne_b (tgt := 30) hx hb dX6_record_25 (by decide) (fun c25 => ?_) (fun c25 => ?_)
    · refine lv_iconst (v := nI 0) hx hb dX6_record_30 (by decide) ?_
      refine lv_istore_n (lv' := [(3, .int (nI 0)), (0, .ref (b 0)), (1, .int (nI i)), (2, .int (nI w))]) hx hb dX6_record_31 rfl hl (by decide) rfl (fun ls hl => ?_)
      have L32 : ∀ (fu32 : Nat) (k1 : Nat), (rn - k1 < fu32) → (k1 ≤ rn) → (rcO rk rn i (rn - k1) k1 = rcO rk rn i rn 0) → ∀ (H : Heap) (locs : List Loc), va_P (dC, dI) vwCl (wM b cB cI cL rb rd rq rQ rw ra ro rn rk rv rf fN fF fB fR rl lB lR rt rg rx rz) H → va_D A (wM b cB cI cL rb rd rq rQ rw ra ro rn rk rv rf fN fF fB fR rl lB lR rt rg rx rz) → va_S A s.heap H locs → ∀ (ls : Array Slot), lv_has ls 6 [(0, .ref (b 0)), (1, .int (nI i)), (2, .int (nI w)), (3, .int (nI k1))] → W p l e { frames := 1, cells := 0, slots := 0, locals := 25 } s m args below meth c H locs 0 0 Q (F0 m 32 ls []) := by
        intro fu32
        induction fu32 with
        | zero => intro k1 hm; exact absurd hm (Nat.not_lt_zero _)
        | succ fu32 ih32 =>
          intro k1 hm i32_0 i32_1 H locs hP hD hS ls hl
          refine lv_iload_n hx hb dX6_record_32 rfl (lv_at hl 3 rfl) ?_
          refine lv_aload_n hx hb dX6_record_33 rfl (lv_at hl 0 rfl) ?_
          refine va_get (D := (dC, dI)) (ci := 6) (v := .int (nI rn)) (C := RX6) (T := TX6) (N := 22) hx hb hts in_X6 hown hK hP 0 rfl rfl 7 (by decide) f71 (fun _ h9 => h9) rfl dX6_record_34 ?_
          refine x_icmp_ge (tgt := 186) hx hb dX6_record_37 (by decide) (by omega) (by omega) (fun c37 => ?_) (fun c37 => ?_)
          · refine lv_lconst (v := lN 0) hx hb dX6_record_186 rfl ?_
            exact hret dX6_record_187 (by have h := i32_1; rw [show rn - k1 = 0 by omega, rcO] at h; rw [← h]; rfl) hP hD hS
          · refine lv_iconst (v := nI 0) hx hb dX6_record_40 (by decide) ?_
            refine lv_istore (lv' := [(4, .int (nI 0)), (0, .ref (b 0)), (1, .int (nI i)), (2, .int (nI w)), (3, .int (nI k1))]) hx hb dX6_record_41 hl (by decide) rfl (fun ls hl => ?_)
            refine lv_iconst (v := nI 0) hx hb dX6_record_43 (by decide) ?_
            refine lv_istore (lv' := [(5, .int (nI 0)), (4, .int (nI 0)), (0, .ref (b 0)), (1, .int (nI i)), (2, .int (nI w)), (3, .int (nI k1))]) hx hb dX6_record_44 hl (by decide) rfl (fun ls hl => ?_)
            have L46 : ∀ (fu46 : Nat) (j : Nat) (v : Nat), (rn - j < fu46) → (j ≤ rn) → (bfM rk k1 (rn - j) j v = bfM rk k1 rn 0 0) → (v ≤ j) → ∀ (H : Heap) (locs : List Loc), va_P (dC, dI) vwCl (wM b cB cI cL rb rd rq rQ rw ra ro rn rk rv rf fN fF fB fR rl lB lR rt rg rx rz) H → va_D A (wM b cB cI cL rb rd rq rQ rw ra ro rn rk rv rf fN fF fB fR rl lB lR rt rg rx rz) → va_S A s.heap H locs → ∀ (ls : Array Slot), lv_has ls 6 [(0, .ref (b 0)), (1, .int (nI i)), (2, .int (nI w)), (3, .int (nI k1)), (4, .int (nI v)), (5, .int (nI j))] → W p l e { frames := 1, cells := 0, slots := 0, locals := 25 } s m args below meth c H locs 0 0 Q (F0 m 46 ls []) := by
              intro fu46
              induction fu46 with
              | zero => intro j v hm; exact absurd hm (Nat.not_lt_zero _)
              | succ fu46 ih46 =>
                intro j v hm i46_0 i46_1 i46_2 H locs hP hD hS ls hl
                refine lv_iload hx hb dX6_record_46 (lv_at hl 5 rfl) ?_
                refine lv_aload_n hx hb dX6_record_48 rfl (lv_at hl 0 rfl) ?_
                refine va_get (D := (dC, dI)) (ci := 6) (v := .int (nI rn)) (C := RX6) (T := TX6) (N := 22) hx hb hts in_X6 hown hK hP 0 rfl rfl 7 (by decide) f71 (fun _ h9 => h9) rfl dX6_record_49 ?_
                refine x_icmp_ge (tgt := 111) hx hb dX6_record_52 (by decide) (by omega) (by omega) (fun c52 => ?_) (fun c52 => ?_)
                · have zb : bfM rk k1 rn 0 0 = v := by
                    have h := i46_1
                    rw [show rn - j = 0 by omega, bfM] at h
                    exact h.symm
                  refine lv_iload hx hb dX6_record_111 (lv_at hl 4 rfl) ?_
                  refine lv_iload_n hx hb dX6_record_113 rfl (lv_at hl 1 rfl) ?_
                  refine x_icmp_eq (tgt := 120) hx hb dX6_record_114 (by decide) (by omega) (by omega) (fun c114 => ?_) (fun c114 => ?_)
                  · have zk : rcO rk rn i rn 0 = some k1 := by
                      have h := i32_1
                      rw [show rn - k1 = (rn - (k1 + 1)) + 1 by omega, rcO, zb, if_pos c114] at h
                      exact h.symm
                    refine lv_iload_n hx hb dX6_record_120 rfl (lv_at hl 2 rfl) ?_
                    refine x_if_ne (tgt := 133) hx hb dX6_record_121 (by decide) (by omega) (fun c121 => ?_) (fun c121 => ?_)
                    · refine lv_iload_n hx hb dX6_record_133 rfl (lv_at hl 2 rfl) ?_
                      refine lv_iconst (v := nI 1) hx hb dX6_record_134 (by decide) ?_
                      refine x_icmp_ne (tgt := 147) hx hb dX6_record_135 (by decide) (by omega) (by omega) (fun c135 => ?_) (fun c135 => ?_)
                      · refine lv_iload_n hx hb dX6_record_147 rfl (lv_at hl 3 rfl) ?_
                        refine lv_aload_n hx hb dX6_record_148 rfl (lv_at hl 0 rfl) ?_
                        refine x_calli (va_runV (As := []) (rest := [.int (nI k1)]) ⟨hx, hb, hml, hown, hts⟩ (c_M_inFiles (by omega) hfR) (cwV 0 hts (tbV tw_726 tw_728 tw_69 tw_91 tw_729) rfl rfl rfl (by decide +kernel) ⟨Nat.le_of_ble_eq_true rfl, Nat.le_of_ble_eq_true rfl⟩) ⟨y_blind, va_recv hK hP (ci := 6) (q0 := 0) rfl rfl, y_pre hK hP hD⟩ rfl rfl hl.1 rfl (lv_room (Nat.le_of_ble_eq_true rfl)) dX6_record_149 ⟨Nat.zero_le _, Nat.zero_le _⟩) hS (fun H locs hP hD hS => ?_)
                        have hP : va_P (dC, dI) vwCl (wM b cB cI cL rb rd rq rQ rw ra ro rn rk rv rf fN fF fB fR rl lB lR rt rg rx rz) H := hP
                        have hD : va_D A (wM b cB cI cL rb rd rq rQ rw ra ro rn rk rv rf fN fF fB fR rl lB lR rt rg rx rz) := hD
                        have hv149 := ifM_lt hfR rf 0 0
                        refine x_icmp_ge (tgt := 159) hx hb dX6_record_152 (by decide) (by omega) (by omega) (fun c152 => ?_) (fun c152 => ?_)
                        · refine lv_iload_n hx hb dX6_record_159 rfl (lv_at hl 3 rfl) ?_
                          refine lv_aload_n hx hb dX6_record_160 rfl (lv_at hl 0 rfl) ?_
                          refine va_get (D := (dC, dI)) (ci := 6) (v := .int (nI rn)) (C := RX6) (T := TX6) (N := 22) hx hb hts in_X6 hown hK hP 0 rfl rfl 7 (by decide) f71 (fun _ h9 => h9) rfl dX6_record_161 ?_
                          refine lv_aload_n hx hb dX6_record_164 rfl (lv_at hl 0 rfl) ?_
                          refine va_get (D := (dC, dI)) (ci := 6) (v := .int (nI rt)) (C := RX6) (T := TX6) (N := 22) hx hb hts in_X6 hown hK hP 0 rfl rfl 18 (by decide) f80 (fun _ h9 => h9) rfl dX6_record_165 ?_
                          refine x_isub hx hb dX6_record_168 (by omega) ?_
                          refine x_icmp_ge (tgt := 176) hx hb dX6_record_169 (by decide) (by omega) (by omega) (fun c169 => ?_) (fun c169 => ?_)
                          · refine lv_ldc2 (v := lN 2) hx hb hown (hts _ (List.mem_cons_of_mem _ tw_738)) dX6_record_176 ?_
                            exact hret dX6_record_179 (by rw [zk, rcX]; first | rw [if_pos c121] | rw [if_neg c121, if_pos c135] | rw [if_neg c121, if_neg c135, if_pos c152] | rw [if_neg c121, if_neg c135, if_neg (Nat.not_lt.mpr c152), if_pos c169] | rw [if_neg c121, if_neg c135, if_neg (Nat.not_lt.mpr c152), if_neg (Nat.not_lt.mpr c169)]) hP hD hS
                          · refine lv_lconst (v := lN 1) hx hb dX6_record_172 rfl ?_
                            refine lv_goto (tgt := 179) hx hb dX6_record_173 (by decide) ?_
                            exact hret dX6_record_179 (by rw [zk, rcX]; first | rw [if_pos c121] | rw [if_neg c121, if_pos c135] | rw [if_neg c121, if_neg c135, if_pos c152] | rw [if_neg c121, if_neg c135, if_neg (Nat.not_lt.mpr c152), if_pos c169] | rw [if_neg c121, if_neg c135, if_neg (Nat.not_lt.mpr c152), if_neg (Nat.not_lt.mpr c169)]) hP hD hS
                        · refine lv_lconst (v := lN 0) hx hb dX6_record_155 rfl ?_
                          refine lv_goto (tgt := 179) hx hb dX6_record_156 (by decide) ?_
                          exact hret dX6_record_179 (by rw [zk, rcX]; first | rw [if_pos c121] | rw [if_neg c121, if_pos c135] | rw [if_neg c121, if_neg c135, if_pos c152] | rw [if_neg c121, if_neg c135, if_neg (Nat.not_lt.mpr c152), if_pos c169] | rw [if_neg c121, if_neg c135, if_neg (Nat.not_lt.mpr c152), if_neg (Nat.not_lt.mpr c169)]) hP hD hS
                      · refine lv_aload_n hx hb dX6_record_138 rfl (lv_at hl 0 rfl) ?_
                        refine va_get (D := (dC, dI)) (ci := 6) (v := .ref (b 5)) (C := RX6) (T := TX6) (N := 22) hx hb hts in_X6 hown hK hP 0 rfl rfl 9 (by decide) f24 (fun _ h9 => h9) rfl dX6_record_139 ?_
                        refine lv_iload_n hx hb dX6_record_142 rfl (lv_at hl 3 rfl) ?_
                        refine x_lald hx hb hK hP 5 2 rfl rfl (by omega) (by decide) dX6_record_143 ?_
                        refine lv_goto (tgt := 179) hx hb dX6_record_144 (by decide) ?_
                        exact hret dX6_record_179 (by rw [zk, rcX]; first | rw [if_pos c121] | rw [if_neg c121, if_pos c135] | rw [if_neg c121, if_neg c135, if_pos c152] | rw [if_neg c121, if_neg c135, if_neg (Nat.not_lt.mpr c152), if_pos c169] | rw [if_neg c121, if_neg c135, if_neg (Nat.not_lt.mpr c152), if_neg (Nat.not_lt.mpr c169)]) hP hD hS
                    · refine lv_aload_n hx hb dX6_record_124 rfl (lv_at hl 0 rfl) ?_
                      refine va_get (D := (dC, dI)) (ci := 6) (v := .ref (b 4)) (C := RX6) (T := TX6) (N := 22) hx hb hts in_X6 hown hK hP 0 rfl rfl 8 (by decide) f20 (fun _ h9 => h9) rfl dX6_record_125 ?_
                      refine lv_iload_n hx hb dX6_record_128 rfl (lv_at hl 3 rfl) ?_
                      refine x_lald hx hb hK hP 4 2 rfl rfl (by omega) (by decide) dX6_record_129 ?_
                      refine lv_goto (tgt := 179) hx hb dX6_record_130 (by decide) ?_
                      exact hret dX6_record_179 (by rw [zk, rcX]; first | rw [if_pos c121] | rw [if_neg c121, if_pos c135] | rw [if_neg c121, if_neg c135, if_pos c152] | rw [if_neg c121, if_neg c135, if_neg (Nat.not_lt.mpr c152), if_pos c169] | rw [if_neg c121, if_neg c135, if_neg (Nat.not_lt.mpr c152), if_neg (Nat.not_lt.mpr c169)]) hP hD hS
                  · refine lv_goto (tgt := 180) hx hb dX6_record_117 (by decide) ?_
                    refine lv_iinc (v := nI (k1 + 1)) (lv' := [(3, .int (nI (k1 + 1))), (0, .ref (b 0)), (1, .int (nI i)), (2, .int (nI w)), (4, .int (nI v)), (5, .int (nI j))]) hx hb dX6_record_180 hl (k := 3) rfl (x_inc _) (by decide) rfl (fun ls hl => ?_)
                    refine lv_goto (tgt := 32) hx hb dX6_record_183 (by decide) ?_
                    exact ih32 (k1 + 1) (by omega) (by omega) (by have h := i32_1; rw [show rn - k1 = (rn - (k1 + 1)) + 1 by omega, rcO, zb, if_neg c114] at h; exact h) _ _ hP hD hS ls (lv_sub hl [1, 2, 3, 0] rfl)
                · refine lv_iload hx hb dX6_record_55 (lv_at hl 4 rfl) ?_
                  refine lv_aload_n hx hb dX6_record_57 rfl (lv_at hl 0 rfl) ?_
                  refine va_get (D := (dC, dI)) (ci := 6) (v := .ref (b 4)) (C := RX6) (T := TX6) (N := 22) hx hb hts in_X6 hown hK hP 0 rfl rfl 8 (by decide) f20 (fun _ h9 => h9) rfl dX6_record_58 ?_
                  refine lv_iload hx hb dX6_record_61 (lv_at hl 5 rfl) ?_
                  refine x_lald hx hb hK hP 4 2 rfl rfl (by omega) (by decide) dX6_record_63 ?_
                  refine lv_aload_n hx hb dX6_record_64 rfl (lv_at hl 0 rfl) ?_
                  refine va_get (D := (dC, dI)) (ci := 6) (v := .ref (b 4)) (C := RX6) (T := TX6) (N := 22) hx hb hts in_X6 hown hK hP 0 rfl rfl 8 (by decide) f20 (fun _ h9 => h9) rfl dX6_record_65 ?_
                  refine lv_iload_n hx hb dX6_record_68 rfl (lv_at hl 3 rfl) ?_
                  refine x_lald hx hb hK hP 4 2 rfl rfl (by omega) (by decide) dX6_record_69 ?_
                  refine W.lcmp hx hb dX6_record_70 ?_
                  refine x_lif_lt (tgt := 97) hx hb dX6_record_71 (by decide) (fun c71 => ?_) (fun c71 => ?_)
                  · refine lv_iconst (v := nI 1) hx hb dX6_record_97 (by decide) ?_
                    refine lv_goto (tgt := 102) hx hb dX6_record_98 (by decide) ?_
                    refine x_iadd hx hb dX6_record_102 ?_
                    refine lv_istore (lv' := [(4, .int (nI (v + 1))), (0, .ref (b 0)), (1, .int (nI i)), (2, .int (nI w)), (3, .int (nI k1)), (5, .int (nI j))]) hx hb dX6_record_103 hl (by decide) rfl (fun ls hl => ?_)
                    refine lv_iinc (v := nI (j + 1)) (lv' := [(5, .int (nI (j + 1))), (4, .int (nI (v + 1))), (0, .ref (b 0)), (1, .int (nI i)), (2, .int (nI w)), (3, .int (nI k1))]) hx hb dX6_record_105 hl (k := 5) rfl (x_inc _) (by decide) rfl (fun ls hl => ?_)
                    refine lv_goto (tgt := 46) hx hb dX6_record_108 (by decide) ?_
                    exact ih46 (j + 1) (v + 1) (by omega) (by omega) (by have h := i46_1; rw [show rn - j = (rn - (j + 1)) + 1 by omega] at h; first | exact (bf_lt c71 h) | exact (bf_eq c88 c94 h) | exact (bf_ge c71 (fun q => absurd q.2 (by omega)) h) | exact (bf_ge c71 (fun q => c88 q.1) h)) (by omega) _ _ hP hD hS ls (lv_sub hl [2, 3, 4, 5, 1, 0] rfl)
                  · refine lv_aload_n hx hb dX6_record_74 rfl (lv_at hl 0 rfl) ?_
                    refine va_get (D := (dC, dI)) (ci := 6) (v := .ref (b 4)) (C := RX6) (T := TX6) (N := 22) hx hb hts in_X6 hown hK hP 0 rfl rfl 8 (by decide) f20 (fun _ h9 => h9) rfl dX6_record_75 ?_
                    refine lv_iload hx hb dX6_record_78 (lv_at hl 5 rfl) ?_
                    refine x_lald hx hb hK hP 4 2 rfl rfl (by omega) (by decide) dX6_record_80 ?_
                    refine lv_aload_n hx hb dX6_record_81 rfl (lv_at hl 0 rfl) ?_
                    refine va_get (D := (dC, dI)) (ci := 6) (v := .ref (b 4)) (C := RX6) (T := TX6) (N := 22) hx hb hts in_X6 hown hK hP 0 rfl rfl 8 (by decide) f20 (fun _ h9 => h9) rfl dX6_record_82 ?_
                    refine lv_iload_n hx hb dX6_record_85 rfl (lv_at hl 3 rfl) ?_
                    refine x_lald hx hb hK hP 4 2 rfl rfl (by omega) (by decide) dX6_record_86 ?_
                    refine W.lcmp hx hb dX6_record_87 ?_
                    refine x_lif_ne (tgt := 101) hx hb dX6_record_88 (by decide) (fun c88 => ?_) (fun c88 => ?_)
                    · refine lv_iconst (v := nI 0) hx hb dX6_record_101 (by decide) ?_
                      refine x_iadd hx hb dX6_record_102 ?_
                      refine lv_istore (lv' := [(4, .int (nI (v + 0))), (0, .ref (b 0)), (1, .int (nI i)), (2, .int (nI w)), (3, .int (nI k1)), (5, .int (nI j))]) hx hb dX6_record_103 hl (by decide) rfl (fun ls hl => ?_)
                      refine lv_iinc (v := nI (j + 1)) (lv' := [(5, .int (nI (j + 1))), (4, .int (nI (v + 0))), (0, .ref (b 0)), (1, .int (nI i)), (2, .int (nI w)), (3, .int (nI k1))]) hx hb dX6_record_105 hl (k := 5) rfl (x_inc _) (by decide) rfl (fun ls hl => ?_)
                      refine lv_goto (tgt := 46) hx hb dX6_record_108 (by decide) ?_
                      exact ih46 (j + 1) (v + 0) (by omega) (by omega) (by have h := i46_1; rw [show rn - j = (rn - (j + 1)) + 1 by omega] at h; first | exact (bf_lt c71 h) | exact (bf_eq c88 c94 h) | exact (bf_ge c71 (fun q => absurd q.2 (by omega)) h) | exact (bf_ge c71 (fun q => c88 q.1) h)) (by omega) _ _ hP hD hS ls (lv_sub hl [2, 3, 4, 5, 1, 0] rfl)
                    · refine lv_iload hx hb dX6_record_91 (lv_at hl 5 rfl) ?_
                      refine lv_iload_n hx hb dX6_record_93 rfl (lv_at hl 3 rfl) ?_
                      refine x_icmp_ge (tgt := 101) hx hb dX6_record_94 (by decide) (by omega) (by omega) (fun c94 => ?_) (fun c94 => ?_)
                      · refine lv_iconst (v := nI 0) hx hb dX6_record_101 (by decide) ?_
                        refine x_iadd hx hb dX6_record_102 ?_
                        refine lv_istore (lv' := [(4, .int (nI (v + 0))), (0, .ref (b 0)), (1, .int (nI i)), (2, .int (nI w)), (3, .int (nI k1)), (5, .int (nI j))]) hx hb dX6_record_103 hl (by decide) rfl (fun ls hl => ?_)
                        refine lv_iinc (v := nI (j + 1)) (lv' := [(5, .int (nI (j + 1))), (4, .int (nI (v + 0))), (0, .ref (b 0)), (1, .int (nI i)), (2, .int (nI w)), (3, .int (nI k1))]) hx hb dX6_record_105 hl (k := 5) rfl (x_inc _) (by decide) rfl (fun ls hl => ?_)
                        refine lv_goto (tgt := 46) hx hb dX6_record_108 (by decide) ?_
                        exact ih46 (j + 1) (v + 0) (by omega) (by omega) (by have h := i46_1; rw [show rn - j = (rn - (j + 1)) + 1 by omega] at h; first | exact (bf_lt c71 h) | exact (bf_eq c88 c94 h) | exact (bf_ge c71 (fun q => absurd q.2 (by omega)) h) | exact (bf_ge c71 (fun q => c88 q.1) h)) (by omega) _ _ hP hD hS ls (lv_sub hl [2, 3, 4, 5, 1, 0] rfl)
                      · refine lv_iconst (v := nI 1) hx hb dX6_record_97 (by decide) ?_
                        refine lv_goto (tgt := 102) hx hb dX6_record_98 (by decide) ?_
                        refine x_iadd hx hb dX6_record_102 ?_
                        refine lv_istore (lv' := [(4, .int (nI (v + 1))), (0, .ref (b 0)), (1, .int (nI i)), (2, .int (nI w)), (3, .int (nI k1)), (5, .int (nI j))]) hx hb dX6_record_103 hl (by decide) rfl (fun ls hl => ?_)
                        refine lv_iinc (v := nI (j + 1)) (lv' := [(5, .int (nI (j + 1))), (4, .int (nI (v + 1))), (0, .ref (b 0)), (1, .int (nI i)), (2, .int (nI w)), (3, .int (nI k1))]) hx hb dX6_record_105 hl (k := 5) rfl (x_inc _) (by decide) rfl (fun ls hl => ?_)
                        refine lv_goto (tgt := 46) hx hb dX6_record_108 (by decide) ?_
                        exact ih46 (j + 1) (v + 1) (by omega) (by omega) (by have h := i46_1; rw [show rn - j = (rn - (j + 1)) + 1 by omega] at h; first | exact (bf_lt c71 h) | exact (bf_eq c88 c94 h) | exact (bf_ge c71 (fun q => absurd q.2 (by omega)) h) | exact (bf_ge c71 (fun q => c88 q.1) h)) (by omega) _ _ hP hD hS ls (lv_sub hl [2, 3, 4, 5, 1, 0] rfl)
            exact L46 (rn - 0 + 1) 0 0 (by omega) (by omega) (by rfl) (by omega) _ _ hP hD hS ls (lv_sub hl [2, 3, 4, 5, 1, 0] rfl)
      exact L32 (rn - 0 + 1) 0 (by omega) (by omega) (by rfl) _ _ hP hD hS ls (lv_sub hl [1, 2, 3, 0] rfl)
    · exact absurd (of_decide_eq_false c25) (by omega)
