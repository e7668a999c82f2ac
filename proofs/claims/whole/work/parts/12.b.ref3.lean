set_option maxHeartbeats 4000000 in
set_option maxRecDepth 100000 in
theorem c_M_readsFiles {l : Launch} {dC : Nat → ClassId} {dI : Nat → Nat → Nat} {A : Nat → Prop} {b : Nat → Nat} {cB cI cL : ClassId} {rb : Nat} {rd : Nat → Nat} {rq : Nat} {rQ rw : Nat → Nat} {ra : Nat} {ro : Bool} {rn : Nat} {rk rv : Nat → Int64} {rf : Nat} {fN fF fB fR : Nat → Nat} {rl : Nat} {lB lR : Nat → Nat} {rt rg rx rz : Nat} (hrb : rb ≤ 64) (hrd : ∀ j, rd j < 256) (hfN : ∀ j, fN j < 1048576) (hfF : ∀ j, fF j < 1048576) (hfB : ∀ j, fB j < 1048576) (hfR : ∀ j, fR j < 1048576) (hrz : rz < 2 ^ 18) (x : Nat) (hx1 : x + 64 ≤ 4096) (hx5 : rd (x + 1) ≤ 5) (hn0 : rn = 0) (hgF : ∀ g, g < rd (x + 1) → 2 ≤ (rf1 rd x (rd (x + 1)) 0 (fN, fF, fB, fR, rz)).2.1 g ∧ 1 ≤ (rf1 rd x (rd (x + 1)) 0 (fN, fF, fB, fR, rz)).2.2.1 g ∧ 3 * (rf1 rd x (rd (x + 1)) 0 (fN, fF, fB, fR, rz)).2.2.1 g ≤ (rf1 rd x (rd (x + 1)) 0 (fN, fF, fB, fR, rz)).2.2.2.1 g + 2) (hgN : ∀ g h, g < h → h < rd (x + 1) → (rf1 rd x (rd (x + 1)) 0 (fN, fF, fB, fR, rz)).2.1 g + (rf1 rd x (rd (x + 1)) 0 (fN, fF, fB, fR, rz)).2.2.1 g ≤ (rf1 rd x (rd (x + 1)) 0 (fN, fF, fB, fR, rz)).2.1 h ∨ (rf1 rd x (rd (x + 1)) 0 (fN, fF, fB, fR, rz)).2.1 h + (rf1 rd x (rd (x + 1)) 0 (fN, fF, fB, fR, rz)).2.2.1 h ≤ (rf1 rd x (rd (x + 1)) 0 (fN, fF, fB, fR, rz)).2.1 g) : Met l yX6_readsFiles (Cond.code yX6_readsFiles cX6_readsFiles 4 (some .int) :: TB) { frames := 3, cells := 0, slots := 0, locals := 72 } (xPre (fun _ => True) (dC, dI) A (tyS cB cI cL) (wM b cB cI cL rb rd rq rQ rw ra ro rn rk rv rf fN fF fB fR rl lB lR rt rg rx rz) [.ref (b 0), .int (nI x)]) (xQi (dC, dI) A (oJ (rgO rb rd (rf1 rd x (rd (x + 1)) 0 (fN, fF, fB, fR, rz)) (rd (x + 1)) 0 (rn, rk, rv)).1) (wM b cB cI cL rb rd rq rQ rw ra ro ((rgO rb rd (rf1 rd x (rd (x + 1)) 0 (fN, fF, fB, fR, rz)) (rd (x + 1)) 0 (rn, rk, rv)).2.1) ((rgO rb rd (rf1 rd x (rd (x + 1)) 0 (fN, fF, fB, fR, rz)) (rd (x + 1)) 0 (rn, rk, rv)).2.2.1) ((rgO rb rd (rf1 rd x (rd (x + 1)) 0 (fN, fF, fB, fR, rz)) (rd (x + 1)) 0 (rn, rk, rv)).2.2.2) (rd (x + 1)) ((rf1 rd x (rd (x + 1)) 0 (fN, fF, fB, fR, rz)).1) ((rf1 rd x (rd (x + 1)) 0 (fN, fF, fB, fR, rz)).2.1) ((rf1 rd x (rd (x + 1)) 0 (fN, fF, fB, fR, rz)).2.2.1) ((rf1 rd x (rd (x + 1)) 0 (fN, fF, fB, fR, rz)).2.2.2.1) rl lB lR rt (nm1 rd 6 (x + 2)) (nm1 rd 8 (x + 48)) ((rf1 rd x (rd (x + 1)) 0 (fN, fF, fB, fR, rz)).2.2.2.2))) 0 0 A := by
  refine x_ofWi (cc := cX6_readsFiles) (maxL := 4) (by decide) rfl (Nat.le_of_ble_eq_true rfl) ?_
  intro p e s m args below meth c Q hx hb hml hts hown hK hN hP hD hS hret ls hl
  have hl : lv_has ls 4 [(0, .ref (b 0)), (1, .int (nI x))] := hl
  have hown : s.vm.findClass RX6 = some m.cls := hown
  have f7 := hts _ (List.mem_cons_of_mem _ tw_607)
  have in_X6 := (fun q hq => List.mem_cons_of_mem _ (inX6 q hq) : ∀ q ∈ wsX60, q ∈ (Cond.code yX6_readsFiles cX6_readsFiles 4 (some .int) :: TB))
  have f83 := hts _ (List.mem_cons_of_mem _ tw_625)
  have f87 := hts _ (List.mem_cons_of_mem _ tw_626)
  have f74 := hts _ (List.mem_cons_of_mem _ tw_616)
  have f33 := hts _ (List.mem_cons_of_mem _ tw_619)
  have f30 := hts _ (List.mem_cons_of_mem _ tw_618)
  have f27 := hts _ (List.mem_cons_of_mem _ tw_617)
  have f36 := hts _ (List.mem_cons_of_mem _ tw_620)
  have f90 := hts _ (List.mem_cons_of_mem _ tw_627)
  refine lv_aload_n hx hb dX6_readsFiles_0 rfl (lv_at hl 0 rfl) ?_
  refine lv_aload_n hx hb dX6_readsFiles_1 rfl (lv_at hl 0 rfl) ?_
  refine va_get (D := (dC, dI)) (ci := 6) (v := .ref (b 1)) (C := RX6) (T := TX6) (N := 22) hx hb hts in_X6 hown hK hP 0 rfl rfl 1 (by decide) f7 (fun _ h9 => h9) rfl dX6_readsFiles_2 ?_
  refine lv_iload_n hx hb dX6_readsFiles_5 rfl (lv_at hl 1 rfl) ?_
  refine lv_iconst (v := nI 2) hx hb dX6_readsFiles_6 (by decide) ?_
  refine x_iadd hx hb dX6_readsFiles_7 ?_
  refine lv_bipush (v := nI 6) hx hb dX6_readsFiles_8 (by decide) ?_
  refine x_calll (va_runS (As := [.ref (b 1), .int (nI (x + 2)), .int (nI 6)]) (rest := [.ref (b 0)]) ⟨hx, hb, hml, hown, hts⟩ (c_M_number (k1 := 1) (t1 := 0) (g := rd) rfl (tyS_B cB cI cL) (by decide) hrd (x + 2) 6 (by omega) (by omega)) (va_cwS 3 hts (tbS tw_760 tw_761 tw_91 tw_762) rfl rfl rfl (by decide +kernel) ⟨Nat.le_of_ble_eq_true rfl, Nat.le_of_ble_eq_true rfl⟩) ⟨y_blind, y_pre hK hP hD⟩ rfl rfl hl.1 rfl (lv_room (Nat.le_of_ble_eq_true rfl)) dX6_readsFiles_10 ⟨Nat.zero_le _, Nat.zero_le _⟩) hS (fun H locs hP hD hS => ?_)
  have hP : va_P (dC, dI) vwCl (wM b cB cI cL rb rd rq rQ rw ra ro rn rk rv rf fN fF fB fR rl lB lR rt rg rx rz) H := hP
  have hD : va_D A (wM b cB cI cL rb rd rq rQ rw ra ro rn rk rv rf fN fF fB fR rl lB lR rt rg rx rz) := hD
  have hv10 : nm1 rd 6 (x + 2) < 281474976710656 := nm1_lt hrd 6 (x + 2)
  refine va_put (D := (dC, dI)) (ci := 6) (v := .long (lN (nm1 rd 6 (x + 2)))) (ty := .long) (C := RX6) (T := TX6) (N := 22) hx hb hts in_X6 tyX6 tyX6_ok nmX6 hown hK hP hD hS 0 rfl rfl 19 (by decide) f83 (fun _ h9 => h9) rfl (by decide +kernel) rfl rfl (Nat.le_of_ble_eq_true rfl) dX6_readsFiles_13 (fun H locs hP hD hS => ?_)
  have hP : va_P (dC, dI) vwCl (wM b cB cI cL rb rd rq rQ rw ra ro rn rk rv rf fN fF fB fR rl lB lR rt (nm1 rd 6 (x + 2)) rx rz) H := hP
  have hD : va_D A (wM b cB cI cL rb rd rq rQ rw ra ro rn rk rv rf fN fF fB fR rl lB lR rt (nm1 rd 6 (x + 2)) rx rz) := hD
  refine lv_aload_n hx hb dX6_readsFiles_16 rfl (lv_at hl 0 rfl) ?_
  refine lv_aload_n hx hb dX6_readsFiles_17 rfl (lv_at hl 0 rfl) ?_
  refine va_get (D := (dC, dI)) (ci := 6) (v := .ref (b 1)) (C := RX6) (T := TX6) (N := 22) hx hb hts in_X6 hown hK hP 0 rfl rfl 1 (by decide) f7 (fun _ h9 => h9) rfl dX6_readsFiles_18 ?_
  refine lv_iload_n hx hb dX6_readsFiles_21 rfl (lv_at hl 1 rfl) ?_
  refine lv_bipush (v := nI 48) hx hb dX6_readsFiles_22 (by decide) ?_
  refine x_iadd hx hb dX6_readsFiles_24 ?_
  refine lv_bipush (v := nI 8) hx hb dX6_readsFiles_25 (by decide) ?_
  refine x_calll (va_runS (As := [.ref (b 1), .int (nI (x + 48)), .int (nI 8)]) (rest := [.ref (b 0)]) ⟨hx, hb, hml, hown, hts⟩ (c_M_number (k1 := 1) (t1 := 0) (g := rd) rfl (tyS_B cB cI cL) (by decide) hrd (x + 48) 8 (by omega) (by omega)) (va_cwS 3 hts (tbS tw_760 tw_761 tw_91 tw_762) rfl rfl rfl (by decide +kernel) ⟨Nat.le_of_ble_eq_true rfl, Nat.le_of_ble_eq_true rfl⟩) ⟨y_blind, y_pre hK hP hD⟩ rfl rfl hl.1 rfl (lv_room (Nat.le_of_ble_eq_true rfl)) dX6_readsFiles_27 ⟨Nat.zero_le _, Nat.zero_le _⟩) hS (fun H locs hP hD hS => ?_)
  have hP : va_P (dC, dI) vwCl (wM b cB cI cL rb rd rq rQ rw ra ro rn rk rv rf fN fF fB fR rl lB lR rt (nm1 rd 6 (x + 2)) rx rz) H := hP
  have hD : va_D A (wM b cB cI cL rb rd rq rQ rw ra ro rn rk rv rf fN fF fB fR rl lB lR rt (nm1 rd 6 (x + 2)) rx rz) := hD
  have hv27 : nm1 rd 8 (x + 48) < 18446744073709551616 := nm1_lt hrd 8 (x + 48)
  refine va_put (D := (dC, dI)) (ci := 6) (v := .long (lN (nm1 rd 8 (x + 48)))) (ty := .long) (C := RX6) (T := TX6) (N := 22) hx hb hts in_X6 tyX6 tyX6_ok nmX6 hown hK hP hD hS 0 rfl rfl 20 (by decide) f87 (fun _ h9 => h9) rfl (by decide +kernel) rfl rfl (Nat.le_of_ble_eq_true rfl) dX6_readsFiles_30 (fun H locs hP hD hS => ?_)
  have hP : va_P (dC, dI) vwCl (wM b cB cI cL rb rd rq rQ rw ra ro rn rk rv rf fN fF fB fR rl lB lR rt (nm1 rd 6 (x + 2)) (nm1 rd 8 (x + 48)) rz) H := hP
  have hD : va_D A (wM b cB cI cL rb rd rq rQ rw ra ro rn rk rv rf fN fF fB fR rl lB lR rt (nm1 rd 6 (x + 2)) (nm1 rd 8 (x + 48)) rz) := hD
  refine lv_aload_n hx hb dX6_readsFiles_33 rfl (lv_at hl 0 rfl) ?_
  refine lv_aload_n hx hb dX6_readsFiles_34 rfl (lv_at hl 0 rfl) ?_
  refine va_get (D := (dC, dI)) (ci := 6) (v := .ref (b 1)) (C := RX6) (T := TX6) (N := 22) hx hb hts in_X6 hown hK hP 0 rfl rfl 1 (by decide) f7 (fun _ h9 => h9) rfl dX6_readsFiles_35 ?_
  refine lv_iload_n hx hb dX6_readsFiles_38 rfl (lv_at hl 1 rfl) ?_
  refine lv_iconst (v := nI 1) hx hb dX6_readsFiles_39 (by decide) ?_
  refine x_iadd hx hb dX6_readsFiles_40 ?_
  refine x_bald hx hb hK hP 1 0 rfl rfl (by omega) (by decide) dX6_readsFiles_41 ?_
  refine x_top (y := nI (rd (x + 1))) (sb_small (by omega)) ?_
  refine va_put (D := (dC, dI)) (ci := 6) (v := .int (nI (rd (x + 1)))) (ty := .int) (C := RX6) (T := TX6) (N := 22) hx hb hts in_X6 tyX6 tyX6_ok nmX6 hown hK hP hD hS 0 rfl rfl 10 (by decide) f74 (fun _ h9 => h9) rfl (by decide +kernel) rfl rfl (Nat.le_of_ble_eq_true rfl) dX6_readsFiles_42 (fun H locs hP hD hS => ?_)
  have hP : va_P (dC, dI) vwCl (wM b cB cI cL rb rd rq rQ rw ra ro rn rk rv (rd (x + 1)) fN fF fB fR rl lB lR rt (nm1 rd 6 (x + 2)) (nm1 rd 8 (x + 48)) rz) H := hP
  have hD : va_D A (wM b cB cI cL rb rd rq rQ rw ra ro rn rk rv (rd (x + 1)) fN fF fB fR rl lB lR rt (nm1 rd 6 (x + 2)) (nm1 rd 8 (x + 48)) rz) := hD
  refine lv_iconst (v := nI 0) hx hb dX6_readsFiles_45 (by decide) ?_
  refine lv_istore_n (lv' := [(2, .int (nI 0)), (0, .ref (b 0)), (1, .int (nI x))]) hx hb dX6_readsFiles_46 rfl hl (by decide) rfl (fun ls hl => ?_)
  have L47 : ∀ (fu47 : Nat) (i : Nat) (Z' : FS), (rd (x + 1) - i < fu47) → (i ≤ rd (x + 1)) → (∀ q, Z'.1 q < 1048576) → (∀ q, Z'.2.1 q < 1048576) → (∀ q, Z'.2.2.1 q < 1048576) → (∀ q, Z'.2.2.2.1 q < 1048576) → (Z'.2.2.2.2 < 2 ^ 18) → (rf1 rd x (rd (x + 1) - i) i Z' = rf1 rd x (rd (x + 1)) 0 (fN, fF, fB, fR, rz)) → ∀ (H : Heap) (locs : List Loc), va_P (dC, dI) vwCl (wM b cB cI cL rb rd rq rQ rw ra ro rn rk rv (rd (x + 1)) Z'.1 Z'.2.1 Z'.2.2.1 Z'.2.2.2.1 rl lB lR rt (nm1 rd 6 (x + 2)) (nm1 rd 8 (x + 48)) Z'.2.2.2.2) H → va_D A (wM b cB cI cL rb rd rq rQ rw ra ro rn rk rv (rd (x + 1)) Z'.1 Z'.2.1 Z'.2.2.1 Z'.2.2.2.1 rl lB lR rt (nm1 rd 6 (x + 2)) (nm1 rd 8 (x + 48)) Z'.2.2.2.2) → va_S A s.heap H locs → ∀ (ls : Array Slot), lv_has ls 4 [(0, .ref (b 0)), (1, .int (nI x)), (2, .int (nI i))] → W p l e { frames := 3, cells := 0, slots := 0, locals := 72 } s m args below meth c H locs 0 0 Q (F0 m 47 ls []) := by
    intro fu47
    induction fu47 with
    | zero => intro i Z' hm; exact absurd hm (Nat.not_lt_zero _)
    | succ fu47 ih47 =>
      intro i Z' hm i47_0 i47_1 i47_2 i47_3 i47_4 i47_5 i47_6 H locs hP hD hS ls hl
      refine lv_iload_n hx hb dX6_readsFiles_47 rfl (lv_at hl 2 rfl) ?_
      refine lv_aload_n hx hb dX6_readsFiles_48 rfl (lv_at hl 0 rfl) ?_
      refine va_get (D := (dC, dI)) (ci := 6) (v := .int (nI (rd (x + 1)))) (C := RX6) (T := TX6) (N := 22) hx hb hts in_X6 hown hK hP 0 rfl rfl 10 (by decide) f74 (fun _ h9 => h9) rfl dX6_readsFiles_49 ?_
      refine x_icmp_ge (tgt := 187) hx hb dX6_readsFiles_52 (by decide) (by omega) (by omega) (fun c52 => ?_) (fun c52 => ?_)
      · have zz := i47_6
        rw [show rd (x + 1) - i = 0 by omega, rf1] at zz
        subst zz
        refine lv_iconst (v := nI 0) hx hb dX6_readsFiles_187 (by decide) ?_
        refine lv_istore_n (lv' := [(2, .int (nI 0)), (0, .ref (b 0)), (1, .int (nI x))]) hx hb dX6_readsFiles_188 rfl hl (by decide) rfl (fun ls hl => ?_)
        have L189 : ∀ (fu189 : Nat) (f1 : Nat) (Y : KS), (rd (x + 1) - f1 < fu189) → (f1 ≤ rd (x + 1)) → (Y.1 ≤ 3 * cvN (rf1 rd x (rd (x + 1)) 0 (fN, fF, fB, fR, rz)) f1 0 rb) → (rgO rb rd (rf1 rd x (rd (x + 1)) 0 (fN, fF, fB, fR, rz)) (rd (x + 1) - f1) f1 Y = rgO rb rd (rf1 rd x (rd (x + 1)) 0 (fN, fF, fB, fR, rz)) (rd (x + 1)) 0 (rn, rk, rv)) → ∀ (H : Heap) (locs : List Loc), va_P (dC, dI) vwCl (wM b cB cI cL rb rd rq rQ rw ra ro Y.1 Y.2.1 Y.2.2 (rd (x + 1)) ((rf1 rd x (rd (x + 1)) 0 (fN, fF, fB, fR, rz)).1) ((rf1 rd x (rd (x + 1)) 0 (fN, fF, fB, fR, rz)).2.1) ((rf1 rd x (rd (x + 1)) 0 (fN, fF, fB, fR, rz)).2.2.1) ((rf1 rd x (rd (x + 1)) 0 (fN, fF, fB, fR, rz)).2.2.2.1) rl lB lR rt (nm1 rd 6 (x + 2)) (nm1 rd 8 (x + 48)) ((rf1 rd x (rd (x + 1)) 0 (fN, fF, fB, fR, rz)).2.2.2.2)) H → va_D A (wM b cB cI cL rb rd rq rQ rw ra ro Y.1 Y.2.1 Y.2.2 (rd (x + 1)) ((rf1 rd x (rd (x + 1)) 0 (fN, fF, fB, fR, rz)).1) ((rf1 rd x (rd (x + 1)) 0 (fN, fF, fB, fR, rz)).2.1) ((rf1 rd x (rd (x + 1)) 0 (fN, fF, fB, fR, rz)).2.2.1) ((rf1 rd x (rd (x + 1)) 0 (fN, fF, fB, fR, rz)).2.2.2.1) rl lB lR rt (nm1 rd 6 (x + 2)) (nm1 rd 8 (x + 48)) ((rf1 rd x (rd (x + 1)) 0 (fN, fF, fB, fR, rz)).2.2.2.2)) → va_S A s.heap H locs → ∀ (ls : Array Slot), lv_has ls 4 [(0, .ref (b 0)), (1, .int (nI x)), (2, .int (nI f1))] → W p l e { frames := 3, cells := 0, slots := 0, locals := 72 } s m args below meth c H locs 0 0 Q (F0 m 189 ls []) := by
          intro fu189
          induction fu189 with
          | zero => intro f1 Y hm; exact absurd hm (Nat.not_lt_zero _)
          | succ fu189 ih189 =>
            intro f1 Y hm i189_0 i189_1 i189_2 H locs hP hD hS ls hl
            refine lv_iload_n hx hb dX6_readsFiles_189 rfl (lv_at hl 2 rfl) ?_
            refine lv_aload_n hx hb dX6_readsFiles_190 rfl (lv_at hl 0 rfl) ?_
            refine va_get (D := (dC, dI)) (ci := 6) (v := .int (nI (rd (x + 1)))) (C := RX6) (T := TX6) (N := 22) hx hb hts in_X6 hown hK hP 0 rfl rfl 10 (by decide) f74 (fun _ h9 => h9) rfl dX6_readsFiles_191 ?_
            refine x_icmp_ge (tgt := 269) hx hb dX6_readsFiles_194 (by decide) (by omega) (by omega) (fun c194 => ?_) (fun c194 => ?_)
            · have zq : rgO rb rd (rf1 rd x (rd (x + 1)) 0 (fN, fF, fB, fR, rz)) (rd (x + 1)) 0 (rn, rk, rv) = (none, Y) := by
                have h := i189_2
                rw [show rd (x + 1) - f1 = 0 by omega, rgO] at h
                exact h.symm
              refine lv_iconst (v := (-1)) hx hb dX6_readsFiles_269 (by decide) ?_
              have e1 : Y.1 = ((rgO rb rd (rf1 rd x (rd (x + 1)) 0 (fN, fF, fB, fR, rz)) (rd (x + 1)) 0 (rn, rk, rv)).2.1) := by rw [zq]
              have h9 : wM b cB cI cL rb rd rq rQ rw ra ro Y.1 Y.2.1 Y.2.2 (rd (x + 1)) ((rf1 rd x (rd (x + 1)) 0 (fN, fF, fB, fR, rz)).1) ((rf1 rd x (rd (x + 1)) 0 (fN, fF, fB, fR, rz)).2.1) ((rf1 rd x (rd (x + 1)) 0 (fN, fF, fB, fR, rz)).2.2.1) ((rf1 rd x (rd (x + 1)) 0 (fN, fF, fB, fR, rz)).2.2.2.1) rl lB lR rt (nm1 rd 6 (x + 2)) (nm1 rd 8 (x + 48)) ((rf1 rd x (rd (x + 1)) 0 (fN, fF, fB, fR, rz)).2.2.2.2) = wM b cB cI cL rb rd rq rQ rw ra ro ((rgO rb rd (rf1 rd x (rd (x + 1)) 0 (fN, fF, fB, fR, rz)) (rd (x + 1)) 0 (rn, rk, rv)).2.1) Y.2.1 Y.2.2 (rd (x + 1)) ((rf1 rd x (rd (x + 1)) 0 (fN, fF, fB, fR, rz)).1) ((rf1 rd x (rd (x + 1)) 0 (fN, fF, fB, fR, rz)).2.1) ((rf1 rd x (rd (x + 1)) 0 (fN, fF, fB, fR, rz)).2.2.1) ((rf1 rd x (rd (x + 1)) 0 (fN, fF, fB, fR, rz)).2.2.2.1) rl lB lR rt (nm1 rd 6 (x + 2)) (nm1 rd 8 (x + 48)) ((rf1 rd x (rd (x + 1)) 0 (fN, fF, fB, fR, rz)).2.2.2.2) := by rw [← e1]
              have hP := x_wP h9 hP
              have hD := x_wD h9 hD
              have e2 : Y.2.1 = ((rgO rb rd (rf1 rd x (rd (x + 1)) 0 (fN, fF, fB, fR, rz)) (rd (x + 1)) 0 (rn, rk, rv)).2.2.1) := by rw [zq]
              have h9 : wM b cB cI cL rb rd rq rQ rw ra ro ((rgO rb rd (rf1 rd x (rd (x + 1)) 0 (fN, fF, fB, fR, rz)) (rd (x + 1)) 0 (rn, rk, rv)).2.1) Y.2.1 Y.2.2 (rd (x + 1)) ((rf1 rd x (rd (x + 1)) 0 (fN, fF, fB, fR, rz)).1) ((rf1 rd x (rd (x + 1)) 0 (fN, fF, fB, fR, rz)).2.1) ((rf1 rd x (rd (x + 1)) 0 (fN, fF, fB, fR, rz)).2.2.1) ((rf1 rd x (rd (x + 1)) 0 (fN, fF, fB, fR, rz)).2.2.2.1) rl lB lR rt (nm1 rd 6 (x + 2)) (nm1 rd 8 (x + 48)) ((rf1 rd x (rd (x + 1)) 0 (fN, fF, fB, fR, rz)).2.2.2.2) = wM b cB cI cL rb rd rq rQ rw ra ro ((rgO rb rd (rf1 rd x (rd (x + 1)) 0 (fN, fF, fB, fR, rz)) (rd (x + 1)) 0 (rn, rk, rv)).2.1) ((rgO rb rd (rf1 rd x (rd (x + 1)) 0 (fN, fF, fB, fR, rz)) (rd (x + 1)) 0 (rn, rk, rv)).2.2.1) Y.2.2 (rd (x + 1)) ((rf1 rd x (rd (x + 1)) 0 (fN, fF, fB, fR, rz)).1) ((rf1 rd x (rd (x + 1)) 0 (fN, fF, fB, fR, rz)).2.1) ((rf1 rd x (rd (x + 1)) 0 (fN, fF, fB, fR, rz)).2.2.1) ((rf1 rd x (rd (x + 1)) 0 (fN, fF, fB, fR, rz)).2.2.2.1) rl lB lR rt (nm1 rd 6 (x + 2)) (nm1 rd 8 (x + 48)) ((rf1 rd x (rd (x + 1)) 0 (fN, fF, fB, fR, rz)).2.2.2.2) := by rw [← e2]
              have hP := x_wP h9 hP
              have hD := x_wD h9 hD
              have e3 : Y.2.2 = ((rgO rb rd (rf1 rd x (rd (x + 1)) 0 (fN, fF, fB, fR, rz)) (rd (x + 1)) 0 (rn, rk, rv)).2.2.2) := by rw [zq]
              have h9 : wM b cB cI cL rb rd rq rQ rw ra ro ((rgO rb rd (rf1 rd x (rd (x + 1)) 0 (fN, fF, fB, fR, rz)) (rd (x + 1)) 0 (rn, rk, rv)).2.1) ((rgO rb rd (rf1 rd x (rd (x + 1)) 0 (fN, fF, fB, fR, rz)) (rd (x + 1)) 0 (rn, rk, rv)).2.2.1) Y.2.2 (rd (x + 1)) ((rf1 rd x (rd (x + 1)) 0 (fN, fF, fB, fR, rz)).1) ((rf1 rd x (rd (x + 1)) 0 (fN, fF, fB, fR, rz)).2.1) ((rf1 rd x (rd (x + 1)) 0 (fN, fF, fB, fR, rz)).2.2.1) ((rf1 rd x (rd (x + 1)) 0 (fN, fF, fB, fR, rz)).2.2.2.1) rl lB lR rt (nm1 rd 6 (x + 2)) (nm1 rd 8 (x + 48)) ((rf1 rd x (rd (x + 1)) 0 (fN, fF, fB, fR, rz)).2.2.2.2) = wM b cB cI cL rb rd rq rQ rw ra ro ((rgO rb rd (rf1 rd x (rd (x + 1)) 0 (fN, fF, fB, fR, rz)) (rd (x + 1)) 0 (rn, rk, rv)).2.1) ((rgO rb rd (rf1 rd x (rd (x + 1)) 0 (fN, fF, fB, fR, rz)) (rd (x + 1)) 0 (rn, rk, rv)).2.2.1) ((rgO rb rd (rf1 rd x (rd (x + 1)) 0 (fN, fF, fB, fR, rz)) (rd (x + 1)) 0 (rn, rk, rv)).2.2.2) (rd (x + 1)) ((rf1 rd x (rd (x + 1)) 0 (fN, fF, fB, fR, rz)).1) ((rf1 rd x (rd (x + 1)) 0 (fN, fF, fB, fR, rz)).2.1) ((rf1 rd x (rd (x + 1)) 0 (fN, fF, fB, fR, rz)).2.2.1) ((rf1 rd x (rd (x + 1)) 0 (fN, fF, fB, fR, rz)).2.2.2.1) rl lB lR rt (nm1 rd 6 (x + 2)) (nm1 rd 8 (x + 48)) ((rf1 rd x (rd (x + 1)) 0 (fN, fF, fB, fR, rz)).2.2.2.2) := by rw [← e3]
              have hP := x_wP h9 hP
              have hD := x_wD h9 hD
              exact hret dX6_readsFiles_270 (by rw [zq]; rfl) hP hD hS
            · refine lv_iconst (v := nI 0) hx hb dX6_readsFiles_197 (by decide) ?_
              refine lv_istore_n (lv' := [(3, .int (nI 0)), (0, .ref (b 0)), (1, .int (nI x)), (2, .int (nI f1))]) hx hb dX6_readsFiles_198 rfl hl (by decide) rfl (fun ls hl => ?_)
              have L199 : ∀ (fu199 : Nat) (p1 : Nat) (X : KS), ((rf1 rd x (rd (x + 1)) 0 (fN, fF, fB, fR, rz)).2.2.1 f1 - p1 < fu199) → (p1 ≤ (rf1 rd x (rd (x + 1)) 0 (fN, fF, fB, fR, rz)).2.2.1 f1) → (X.1 ≤ 3 * cvN (rf1 rd x (rd (x + 1)) 0 (fN, fF, fB, fR, rz)) f1 p1 rb) → (rgI rb rd (rf1 rd x (rd (x + 1)) 0 (fN, fF, fB, fR, rz)) f1 ((rf1 rd x (rd (x + 1)) 0 (fN, fF, fB, fR, rz)).2.2.1 f1 - p1) p1 X = rgI rb rd (rf1 rd x (rd (x + 1)) 0 (fN, fF, fB, fR, rz)) f1 ((rf1 rd x (rd (x + 1)) 0 (fN, fF, fB, fR, rz)).2.2.1 f1) 0 Y) → ∀ (H : Heap) (locs : List Loc), va_P (dC, dI) vwCl (wM b cB cI cL rb rd rq rQ rw ra ro X.1 X.2.1 X.2.2 (rd (x + 1)) ((rf1 rd x (rd (x + 1)) 0 (fN, fF, fB, fR, rz)).1) ((rf1 rd x (rd (x + 1)) 0 (fN, fF, fB, fR, rz)).2.1) ((rf1 rd x (rd (x + 1)) 0 (fN, fF, fB, fR, rz)).2.2.1) ((rf1 rd x (rd (x + 1)) 0 (fN, fF, fB, fR, rz)).2.2.2.1) rl lB lR rt (nm1 rd 6 (x + 2)) (nm1 rd 8 (x + 48)) ((rf1 rd x (rd (x + 1)) 0 (fN, fF, fB, fR, rz)).2.2.2.2)) H → va_D A (wM b cB cI cL rb rd rq rQ rw ra ro X.1 X.2.1 X.2.2 (rd (x + 1)) ((rf1 rd x (rd (x + 1)) 0 (fN, fF, fB, fR, rz)).1) ((rf1 rd x (rd (x + 1)) 0 (fN, fF, fB, fR, rz)).2.1) ((rf1 rd x (rd (x + 1)) 0 (fN, fF, fB, fR, rz)).2.2.1) ((rf1 rd x (rd (x + 1)) 0 (fN, fF, fB, fR, rz)).2.2.2.1) rl lB lR rt (nm1 rd 6 (x + 2)) (nm1 rd 8 (x + 48)) ((rf1 rd x (rd (x + 1)) 0 (fN, fF, fB, fR, rz)).2.2.2.2)) → va_S A s.heap H locs → ∀ (ls : Array Slot), lv_has ls 4 [(0, .ref (b 0)), (1, .int (nI x)), (2, .int (nI f1)), (3, .int (nI p1))] → W p l e { frames := 3, cells := 0, slots := 0, locals := 72 } s m args below meth c H locs 0 0 Q (F0 m 199 ls []) := by
                intro fu199
                induction fu199 with
                | zero => intro p1 X hm; exact absurd hm (Nat.not_lt_zero _)
                | succ fu199 ih199 =>
                  intro p1 X hm i199_0 i199_1 i199_2 H locs hP hD hS ls hl
                  have q1 := i47_2 f1
                  have q2 := i47_3 f1
                  have q3 := i47_4 f1
                  have q4 := hgF f1 (by omega)
                  refine lv_iload_n hx hb dX6_readsFiles_199 rfl (lv_at hl 3 rfl) ?_
                  refine lv_aload_n hx hb dX6_readsFiles_200 rfl (lv_at hl 0 rfl) ?_
                  refine va_get (D := (dC, dI)) (ci := 6) (v := .ref (b 8)) (C := RX6) (T := TX6) (N := 22) hx hb hts in_X6 hown hK hP 0 rfl rfl 13 (by decide) f33 (fun _ h9 => h9) rfl dX6_readsFiles_201 ?_
                  refine lv_iload_n hx hb dX6_readsFiles_204 rfl (lv_at hl 2 rfl) ?_
                  refine x_iald hx hb hK hP 8 1 rfl rfl (by omega) (by decide) dX6_readsFiles_205 ?_
                  refine x_icmp_ge (tgt := 263) hx hb dX6_readsFiles_206 (by decide) (by omega) (by omega) (fun c206 => ?_) (fun c206 => ?_)
                  · refine lv_iinc (v := nI (f1 + 1)) (lv' := [(2, .int (nI (f1 + 1))), (0, .ref (b 0)), (1, .int (nI x)), (3, .int (nI p1))]) hx hb dX6_readsFiles_263 hl (k := 2) rfl (x_inc _) (by decide) rfl (fun ls hl => ?_)
                    refine lv_goto (tgt := 189) hx hb dX6_readsFiles_266 (by decide) ?_
                    exact ih189 (f1 + 1) X (by omega) (by omega) (by rw [← cvN_next (rf1 rd x (rd (x + 1)) 0 (fN, fF, fB, fR, rz)) f1 rb]; have h := i199_1; rw [show p1 = (rf1 rd x (rd (x + 1)) 0 (fN, fF, fB, fR, rz)).2.2.1 f1 by omega] at h; exact h) (by have h := i189_2; have z := i199_2; rw [show (rf1 rd x (rd (x + 1)) 0 (fN, fF, fB, fR, rz)).2.2.1 f1 - p1 = 0 by omega, rgI] at z; rw [show rd (x + 1) - f1 = (rd (x + 1) - (f1 + 1)) + 1 by omega, rgO, ← z] at h; exact h) _ _ hP hD hS ls (lv_sub hl [1, 2, 0] rfl)
                  · refine lv_aload_n hx hb dX6_readsFiles_209 rfl (lv_at hl 0 rfl) ?_
                    refine lv_iload_n hx hb dX6_readsFiles_210 rfl (lv_at hl 2 rfl) ?_
                    refine lv_iload_n hx hb dX6_readsFiles_211 rfl (lv_at hl 3 rfl) ?_
                    refine x_calli (va_runV (As := [.int (nI f1), .int (nI p1)]) (rest := []) ⟨hx, hb, hml, hown, hts⟩ (c_M_isFileBlock (by omega) hrd i47_1 i47_2 i47_3 i47_4 f1 p1 (by omega) (by omega) (by omega)) (cwV 2 hts (tbV tw_777 tw_779 tw_78 tw_91 tw_780) rfl rfl rfl (by decide +kernel) ⟨Nat.le_of_ble_eq_true rfl, Nat.le_of_ble_eq_true rfl⟩) ⟨y_blind, va_recv hK hP (ci := 6) (q0 := 0) rfl rfl, y_pre hK hP hD⟩ rfl rfl hl.1 rfl (lv_room (Nat.le_of_ble_eq_true rfl)) dX6_readsFiles_212 ⟨Nat.zero_le _, Nat.zero_le _⟩) hS (fun H locs hP hD hS => ?_)
                    have hP : va_P (dC, dI) vwCl (wM b cB cI cL rb rd rq rQ rw ra ro X.1 X.2.1 X.2.2 (rd (x + 1)) ((rf1 rd x (rd (x + 1)) 0 (fN, fF, fB, fR, rz)).1) ((rf1 rd x (rd (x + 1)) 0 (fN, fF, fB, fR, rz)).2.1) ((rf1 rd x (rd (x + 1)) 0 (fN, fF, fB, fR, rz)).2.2.1) ((rf1 rd x (rd (x + 1)) 0 (fN, fF, fB, fR, rz)).2.2.2.1) rl lB lR rt (nm1 rd 6 (x + 2)) (nm1 rd 8 (x + 48)) ((rf1 rd x (rd (x + 1)) 0 (fN, fF, fB, fR, rz)).2.2.2.2)) H := hP
                    have hD : va_D A (wM b cB cI cL rb rd rq rQ rw ra ro X.1 X.2.1 X.2.2 (rd (x + 1)) ((rf1 rd x (rd (x + 1)) 0 (fN, fF, fB, fR, rz)).1) ((rf1 rd x (rd (x + 1)) 0 (fN, fF, fB, fR, rz)).2.1) ((rf1 rd x (rd (x + 1)) 0 (fN, fF, fB, fR, rz)).2.2.1) ((rf1 rd x (rd (x + 1)) 0 (fN, fF, fB, fR, rz)).2.2.2.1) rl lB lR rt (nm1 rd 6 (x + 2)) (nm1 rd 8 (x + 48)) ((rf1 rd x (rd (x + 1)) 0 (fN, fF, fB, fR, rz)).2.2.2.2)) := hD
                    refine x_if_ne_b (tgt := 227) hx hb dX6_readsFiles_215 (by decide) (fun c215 => ?_) (fun c215 => ?_)
                    · have hbc := ib_d c215
                      have hb1 := hbc.1
                      have hb2 := hbc.2.2.2.1
                      have hcv := cvN_step hgF hgN (show f1 < rd (x + 1) by omega) (show p1 < (rf1 rd x (rd (x + 1)) 0 (fN, fF, fB, fR, rz)).2.2.1 f1 by omega) hb1
                      have hcl := cvN_le (rf1 rd x (rd (x + 1)) 0 (fN, fF, fB, fR, rz)) f1 (p1 + 1) rb (show 2 ≤ rb by omega)
                      refine lv_aload_n hx hb dX6_readsFiles_227 rfl (lv_at hl 0 rfl) ?_
                      refine lv_aload_n hx hb dX6_readsFiles_228 rfl (lv_at hl 0 rfl) ?_
                      refine va_get (D := (dC, dI)) (ci := 6) (v := .ref (b 7)) (C := RX6) (T := TX6) (N := 22) hx hb hts in_X6 hown hK hP 0 rfl rfl 12 (by decide) f30 (fun _ h9 => h9) rfl dX6_readsFiles_229 ?_
                      refine lv_iload_n hx hb dX6_readsFiles_232 rfl (lv_at hl 2 rfl) ?_
                      refine x_iald hx hb hK hP 7 1 rfl rfl (by omega) (by decide) dX6_readsFiles_233 ?_
                      refine lv_iload_n hx hb dX6_readsFiles_234 rfl (lv_at hl 3 rfl) ?_
                      refine x_iadd hx hb dX6_readsFiles_235 ?_
                      refine lv_aload_n hx hb dX6_readsFiles_236 rfl (lv_at hl 0 rfl) ?_
                      refine va_get (D := (dC, dI)) (ci := 6) (v := .ref (b 1)) (C := RX6) (T := TX6) (N := 22) hx hb hts in_X6 hown hK hP 0 rfl rfl 1 (by decide) f7 (fun _ h9 => h9) rfl dX6_readsFiles_237 ?_
                      refine lv_bipush (v := nI 64) hx hb dX6_readsFiles_240 (by decide) ?_
                      refine lv_aload_n hx hb dX6_readsFiles_242 rfl (lv_at hl 0 rfl) ?_
                      refine va_get (D := (dC, dI)) (ci := 6) (v := .ref (b 7)) (C := RX6) (T := TX6) (N := 22) hx hb hts in_X6 hown hK hP 0 rfl rfl 12 (by decide) f30 (fun _ h9 => h9) rfl dX6_readsFiles_243 ?_
                      refine lv_iload_n hx hb dX6_readsFiles_246 rfl (lv_at hl 2 rfl) ?_
                      refine x_iald hx hb hK hP 7 1 rfl rfl (by omega) (by decide) dX6_readsFiles_247 ?_
                      refine lv_iload_n hx hb dX6_readsFiles_248 rfl (lv_at hl 3 rfl) ?_
                      refine x_iadd hx hb dX6_readsFiles_249 ?_
                      refine x_imul hx hb dX6_readsFiles_250 ?_
                      refine lv_iconst (v := nI 1) hx hb dX6_readsFiles_251 (by decide) ?_
                      refine x_iadd hx hb dX6_readsFiles_252 ?_
                      refine x_bald hx hb hK hP 1 0 rfl rfl (by omega) (by decide) dX6_readsFiles_253 ?_
                      refine x_top (y := nI (rd (64 * ((rf1 rd x (rd (x + 1)) 0 (fN, fF, fB, fR, rz)).2.1 f1 + p1) + 1))) (sb_small (by omega)) ?_
                      refine x_callv (va_runV (As := [.int (nI ((((rf1 rd x (rd (x + 1)) 0 (fN, fF, fB, fR, rz)).2.1) f1) + p1)), .int (nI (rd (64 * ((rf1 rd x (rd (x + 1)) 0 (fN, fF, fB, fR, rz)).2.1 f1 + p1) + 1)))]) (rest := []) ⟨hx, hb, hml, hown, hts⟩ (c_M_reads hrd ((((rf1 rd x (rd (x + 1)) 0 (fN, fF, fB, fR, rz)).2.1) f1) + p1) (rd (64 * ((rf1 rd x (rd (x + 1)) 0 (fN, fF, fB, fR, rz)).2.1 f1 + p1) + 1)) (by omega) (by omega) (by omega)) (cwV 2 hts (tbV tw_781 tw_783 tw_79 tw_91 tw_784) rfl rfl rfl (by decide +kernel) ⟨Nat.le_of_ble_eq_true rfl, Nat.le_of_ble_eq_true rfl⟩) ⟨y_blind, va_recv hK hP (ci := 6) (q0 := 0) rfl rfl, y_pre hK hP hD⟩ rfl rfl hl.1 rfl (lv_room (Nat.le_of_ble_eq_true rfl)) dX6_readsFiles_254 ⟨Nat.zero_le _, Nat.zero_le _⟩) hS (fun H locs hP hD hS => ?_)
                      have hP : va_P (dC, dI) vwCl (wM b cB cI cL rb rd rq rQ rw ra ro ((rds rd ((((rf1 rd x (rd (x + 1)) 0 (fN, fF, fB, fR, rz)).2.1) f1) + p1) (rd (64 * ((rf1 rd x (rd (x + 1)) 0 (fN, fF, fB, fR, rz)).2.1 f1 + p1) + 1)) 0 (X.1, X.2.1, X.2.2)).1) ((rds rd ((((rf1 rd x (rd (x + 1)) 0 (fN, fF, fB, fR, rz)).2.1) f1) + p1) (rd (64 * ((rf1 rd x (rd (x + 1)) 0 (fN, fF, fB, fR, rz)).2.1 f1 + p1) + 1)) 0 (X.1, X.2.1, X.2.2)).2.1) ((rds rd ((((rf1 rd x (rd (x + 1)) 0 (fN, fF, fB, fR, rz)).2.1) f1) + p1) (rd (64 * ((rf1 rd x (rd (x + 1)) 0 (fN, fF, fB, fR, rz)).2.1 f1 + p1) + 1)) 0 (X.1, X.2.1, X.2.2)).2.2) (rd (x + 1)) ((rf1 rd x (rd (x + 1)) 0 (fN, fF, fB, fR, rz)).1) ((rf1 rd x (rd (x + 1)) 0 (fN, fF, fB, fR, rz)).2.1) ((rf1 rd x (rd (x + 1)) 0 (fN, fF, fB, fR, rz)).2.2.1) ((rf1 rd x (rd (x + 1)) 0 (fN, fF, fB, fR, rz)).2.2.2.1) rl lB lR rt (nm1 rd 6 (x + 2)) (nm1 rd 8 (x + 48)) ((rf1 rd x (rd (x + 1)) 0 (fN, fF, fB, fR, rz)).2.2.2.2)) H := hP
                      have hD : va_D A (wM b cB cI cL rb rd rq rQ rw ra ro ((rds rd ((((rf1 rd x (rd (x + 1)) 0 (fN, fF, fB, fR, rz)).2.1) f1) + p1) (rd (64 * ((rf1 rd x (rd (x + 1)) 0 (fN, fF, fB, fR, rz)).2.1 f1 + p1) + 1)) 0 (X.1, X.2.1, X.2.2)).1) ((rds rd ((((rf1 rd x (rd (x + 1)) 0 (fN, fF, fB, fR, rz)).2.1) f1) + p1) (rd (64 * ((rf1 rd x (rd (x + 1)) 0 (fN, fF, fB, fR, rz)).2.1 f1 + p1) + 1)) 0 (X.1, X.2.1, X.2.2)).2.1) ((rds rd ((((rf1 rd x (rd (x + 1)) 0 (fN, fF, fB, fR, rz)).2.1) f1) + p1) (rd (64 * ((rf1 rd x (rd (x + 1)) 0 (fN, fF, fB, fR, rz)).2.1 f1 + p1) + 1)) 0 (X.1, X.2.1, X.2.2)).2.2) (rd (x + 1)) ((rf1 rd x (rd (x + 1)) 0 (fN, fF, fB, fR, rz)).1) ((rf1 rd x (rd (x + 1)) 0 (fN, fF, fB, fR, rz)).2.1) ((rf1 rd x (rd (x + 1)) 0 (fN, fF, fB, fR, rz)).2.2.1) ((rf1 rd x (rd (x + 1)) 0 (fN, fF, fB, fR, rz)).2.2.2.1) rl lB lR rt (nm1 rd 6 (x + 2)) (nm1 rd 8 (x + 48)) ((rf1 rd x (rd (x + 1)) 0 (fN, fF, fB, fR, rz)).2.2.2.2)) := hD
                      refine lv_iinc (v := nI (p1 + 1)) (lv' := [(3, .int (nI (p1 + 1))), (0, .ref (b 0)), (1, .int (nI x)), (2, .int (nI f1))]) hx hb dX6_readsFiles_257 hl (k := 3) rfl (x_inc _) (by decide) rfl (fun ls hl => ?_)
                      refine lv_goto (tgt := 199) hx hb dX6_readsFiles_260 (by decide) ?_
                      have e4 : ((rds rd ((((rf1 rd x (rd (x + 1)) 0 (fN, fF, fB, fR, rz)).2.1) f1) + p1) (rd (64 * ((rf1 rd x (rd (x + 1)) 0 (fN, fF, fB, fR, rz)).2.1 f1 + p1) + 1)) 0 (X.1, X.2.1, X.2.2)).1) = ((rds rd ((rf1 rd x (rd (x + 1)) 0 (fN, fF, fB, fR, rz)).2.1 f1 + p1) (rd (64 * ((rf1 rd x (rd (x + 1)) 0 (fN, fF, fB, fR, rz)).2.1 f1 + p1) + 1)) 0 X).1) := by rfl
                      have e5 : ((rds rd ((((rf1 rd x (rd (x + 1)) 0 (fN, fF, fB, fR, rz)).2.1) f1) + p1) (rd (64 * ((rf1 rd x (rd (x + 1)) 0 (fN, fF, fB, fR, rz)).2.1 f1 + p1) + 1)) 0 (X.1, X.2.1, X.2.2)).2.1) = ((rds rd ((rf1 rd x (rd (x + 1)) 0 (fN, fF, fB, fR, rz)).2.1 f1 + p1) (rd (64 * ((rf1 rd x (rd (x + 1)) 0 (fN, fF, fB, fR, rz)).2.1 f1 + p1) + 1)) 0 X).2.1) := by rfl
                      have e6 : ((rds rd ((((rf1 rd x (rd (x + 1)) 0 (fN, fF, fB, fR, rz)).2.1) f1) + p1) (rd (64 * ((rf1 rd x (rd (x + 1)) 0 (fN, fF, fB, fR, rz)).2.1 f1 + p1) + 1)) 0 (X.1, X.2.1, X.2.2)).2.2) = ((rds rd ((rf1 rd x (rd (x + 1)) 0 (fN, fF, fB, fR, rz)).2.1 f1 + p1) (rd (64 * ((rf1 rd x (rd (x + 1)) 0 (fN, fF, fB, fR, rz)).2.1 f1 + p1) + 1)) 0 X).2.2) := by rfl
                      exact ih199 (p1 + 1) (rds rd ((rf1 rd x (rd (x + 1)) 0 (fN, fF, fB, fR, rz)).2.1 f1 + p1) (rd (64 * ((rf1 rd x (rd (x + 1)) 0 (fN, fF, fB, fR, rz)).2.1 f1 + p1) + 1)) 0 X) (by omega) (by omega) (by rw [rds_n]; omega) (by have h := i199_2; rw [show (rf1 rd x (rd (x + 1)) 0 (fN, fF, fB, fR, rz)).2.2.1 f1 - p1 = ((rf1 rd x (rd (x + 1)) 0 (fN, fF, fB, fR, rz)).2.2.1 f1 - (p1 + 1)) + 1 by omega, rgI, if_pos c215] at h; exact h) _ _ (x_wP (by rw [e4, e5, e6]) hP) (x_wD (by rw [e4, e5, e6]) hD) hS ls (lv_sub hl [1, 2, 3, 0] rfl)
                    · have z := i199_2
                      rw [show (rf1 rd x (rd (x + 1)) 0 (fN, fF, fB, fR, rz)).2.2.1 f1 - p1 = ((rf1 rd x (rd (x + 1)) 0 (fN, fF, fB, fR, rz)).2.2.1 f1 - (p1 + 1)) + 1 by omega, rgI, if_neg (by rw [c215]; decide)] at z
                      have h := i189_2
                      rw [show rd (x + 1) - f1 = (rd (x + 1) - (f1 + 1)) + 1 by omega, rgO, ← z] at h
                      have zq : rgO rb rd (rf1 rd x (rd (x + 1)) 0 (fN, fF, fB, fR, rz)) (rd (x + 1)) 0 (rn, rk, rv) = (some ((rf1 rd x (rd (x + 1)) 0 (fN, fF, fB, fR, rz)).2.1 f1 + p1), X) := h.symm
                      refine lv_aload_n hx hb dX6_readsFiles_218 rfl (lv_at hl 0 rfl) ?_
                      refine va_get (D := (dC, dI)) (ci := 6) (v := .ref (b 7)) (C := RX6) (T := TX6) (N := 22) hx hb hts in_X6 hown hK hP 0 rfl rfl 12 (by decide) f30 (fun _ h9 => h9) rfl dX6_readsFiles_219 ?_
                      refine lv_iload_n hx hb dX6_readsFiles_222 rfl (lv_at hl 2 rfl) ?_
                      refine x_iald hx hb hK hP 7 1 rfl rfl (by omega) (by decide) dX6_readsFiles_223 ?_
                      refine lv_iload_n hx hb dX6_readsFiles_224 rfl (lv_at hl 3 rfl) ?_
                      refine x_iadd hx hb dX6_readsFiles_225 ?_
                      have e7 : X.1 = ((rgO rb rd (rf1 rd x (rd (x + 1)) 0 (fN, fF, fB, fR, rz)) (rd (x + 1)) 0 (rn, rk, rv)).2.1) := by rw [zq]
                      have h9 : wM b cB cI cL rb rd rq rQ rw ra ro X.1 X.2.1 X.2.2 (rd (x + 1)) ((rf1 rd x (rd (x + 1)) 0 (fN, fF, fB, fR, rz)).1) ((rf1 rd x (rd (x + 1)) 0 (fN, fF, fB, fR, rz)).2.1) ((rf1 rd x (rd (x + 1)) 0 (fN, fF, fB, fR, rz)).2.2.1) ((rf1 rd x (rd (x + 1)) 0 (fN, fF, fB, fR, rz)).2.2.2.1) rl lB lR rt (nm1 rd 6 (x + 2)) (nm1 rd 8 (x + 48)) ((rf1 rd x (rd (x + 1)) 0 (fN, fF, fB, fR, rz)).2.2.2.2) = wM b cB cI cL rb rd rq rQ rw ra ro ((rgO rb rd (rf1 rd x (rd (x + 1)) 0 (fN, fF, fB, fR, rz)) (rd (x + 1)) 0 (rn, rk, rv)).2.1) X.2.1 X.2.2 (rd (x + 1)) ((rf1 rd x (rd (x + 1)) 0 (fN, fF, fB, fR, rz)).1) ((rf1 rd x (rd (x + 1)) 0 (fN, fF, fB, fR, rz)).2.1) ((rf1 rd x (rd (x + 1)) 0 (fN, fF, fB, fR, rz)).2.2.1) ((rf1 rd x (rd (x + 1)) 0 (fN, fF, fB, fR, rz)).2.2.2.1) rl lB lR rt (nm1 rd 6 (x + 2)) (nm1 rd 8 (x + 48)) ((rf1 rd x (rd (x + 1)) 0 (fN, fF, fB, fR, rz)).2.2.2.2) := by rw [← e7]
                      have hP := x_wP h9 hP
                      have hD := x_wD h9 hD
                      have e8 : X.2.1 = ((rgO rb rd (rf1 rd x (rd (x + 1)) 0 (fN, fF, fB, fR, rz)) (rd (x + 1)) 0 (rn, rk, rv)).2.2.1) := by rw [zq]
                      have h9 : wM b cB cI cL rb rd rq rQ rw ra ro ((rgO rb rd (rf1 rd x (rd (x + 1)) 0 (fN, fF, fB, fR, rz)) (rd (x + 1)) 0 (rn, rk, rv)).2.1) X.2.1 X.2.2 (rd (x + 1)) ((rf1 rd x (rd (x + 1)) 0 (fN, fF, fB, fR, rz)).1) ((rf1 rd x (rd (x + 1)) 0 (fN, fF, fB, fR, rz)).2.1) ((rf1 rd x (rd (x + 1)) 0 (fN, fF, fB, fR, rz)).2.2.1) ((rf1 rd x (rd (x + 1)) 0 (fN, fF, fB, fR, rz)).2.2.2.1) rl lB lR rt (nm1 rd 6 (x + 2)) (nm1 rd 8 (x + 48)) ((rf1 rd x (rd (x + 1)) 0 (fN, fF, fB, fR, rz)).2.2.2.2) = wM b cB cI cL rb rd rq rQ rw ra ro ((rgO rb rd (rf1 rd x (rd (x + 1)) 0 (fN, fF, fB, fR, rz)) (rd (x + 1)) 0 (rn, rk, rv)).2.1) ((rgO rb rd (rf1 rd x (rd (x + 1)) 0 (fN, fF, fB, fR, rz)) (rd (x + 1)) 0 (rn, rk, rv)).2.2.1) X.2.2 (rd (x + 1)) ((rf1 rd x (rd (x + 1)) 0 (fN, fF, fB, fR, rz)).1) ((rf1 rd x (rd (x + 1)) 0 (fN, fF, fB, fR, rz)).2.1) ((rf1 rd x (rd (x + 1)) 0 (fN, fF, fB, fR, rz)).2.2.1) ((rf1 rd x (rd (x + 1)) 0 (fN, fF, fB, fR, rz)).2.2.2.1) rl lB lR rt (nm1 rd 6 (x + 2)) (nm1 rd 8 (x + 48)) ((rf1 rd x (rd (x + 1)) 0 (fN, fF, fB, fR, rz)).2.2.2.2) := by rw [← e8]
                      have hP := x_wP h9 hP
                      have hD := x_wD h9 hD
                      have e9 : X.2.2 = ((rgO rb rd (rf1 rd x (rd (x + 1)) 0 (fN, fF, fB, fR, rz)) (rd (x + 1)) 0 (rn, rk, rv)).2.2.2) := by rw [zq]
                      have h9 : wM b cB cI cL rb rd rq rQ rw ra ro ((rgO rb rd (rf1 rd x (rd (x + 1)) 0 (fN, fF, fB, fR, rz)) (rd (x + 1)) 0 (rn, rk, rv)).2.1) ((rgO rb rd (rf1 rd x (rd (x + 1)) 0 (fN, fF, fB, fR, rz)) (rd (x + 1)) 0 (rn, rk, rv)).2.2.1) X.2.2 (rd (x + 1)) ((rf1 rd x (rd (x + 1)) 0 (fN, fF, fB, fR, rz)).1) ((rf1 rd x (rd (x + 1)) 0 (fN, fF, fB, fR, rz)).2.1) ((rf1 rd x (rd (x + 1)) 0 (fN, fF, fB, fR, rz)).2.2.1) ((rf1 rd x (rd (x + 1)) 0 (fN, fF, fB, fR, rz)).2.2.2.1) rl lB lR rt (nm1 rd 6 (x + 2)) (nm1 rd 8 (x + 48)) ((rf1 rd x (rd (x + 1)) 0 (fN, fF, fB, fR, rz)).2.2.2.2) = wM b cB cI cL rb rd rq rQ rw ra ro ((rgO rb rd (rf1 rd x (rd (x + 1)) 0 (fN, fF, fB, fR, rz)) (rd (x + 1)) 0 (rn, rk, rv)).2.1) ((rgO rb rd (rf1 rd x (rd (x + 1)) 0 (fN, fF, fB, fR, rz)) (rd (x + 1)) 0 (rn, rk, rv)).2.2.1) ((rgO rb rd (rf1 rd x (rd (x + 1)) 0 (fN, fF, fB, fR, rz)) (rd (x + 1)) 0 (rn, rk, rv)).2.2.2) (rd (x + 1)) ((rf1 rd x (rd (x + 1)) 0 (fN, fF, fB, fR, rz)).1) ((rf1 rd x (rd (x + 1)) 0 (fN, fF, fB, fR, rz)).2.1) ((rf1 rd x (rd (x + 1)) 0 (fN, fF, fB, fR, rz)).2.2.1) ((rf1 rd x (rd (x + 1)) 0 (fN, fF, fB, fR, rz)).2.2.2.1) rl lB lR rt (nm1 rd 6 (x + 2)) (nm1 rd 8 (x + 48)) ((rf1 rd x (rd (x + 1)) 0 (fN, fF, fB, fR, rz)).2.2.2.2) := by rw [← e9]
                      have hP := x_wP h9 hP
                      have hD := x_wD h9 hD
                      exact hret dX6_readsFiles_226 (by rw [zq]; rfl) hP hD hS
              exact L199 ((rf1 rd x (rd (x + 1)) 0 (fN, fF, fB, fR, rz)).2.2.1 f1 - 0 + 1) 0 Y (by omega) (by omega) (by exact i189_1) (by rfl) _ _ hP hD hS ls (lv_sub hl [1, 2, 3, 0] rfl)
        have e10 : rn = ((rn, rk, rv).1) := by rfl
        have e11 : rk = ((rn, rk, rv).2.1) := by rfl
        have e12 : rv = ((rn, rk, rv).2.2) := by rfl
        exact L189 (rd (x + 1) - 0 + 1) 0 (rn, rk, rv) (by omega) (by omega) (by show rn ≤ _; omega) (by rfl) _ _ (x_wP (by rw [← e10, ← e11, ← e12]) hP) (x_wD (by rw [← e10, ← e11, ← e12]) hD) hS ls (lv_sub hl [1, 2, 0] rfl)
      · refine lv_aload_n hx hb dX6_readsFiles_55 rfl (lv_at hl 0 rfl) ?_
        refine va_get (D := (dC, dI)) (ci := 6) (v := .ref (b 6)) (C := RX6) (T := TX6) (N := 22) hx hb hts in_X6 hown hK hP 0 rfl rfl 11 (by decide) f27 (fun _ h9 => h9) rfl dX6_readsFiles_56 ?_
        refine lv_iload_n hx hb dX6_readsFiles_59 rfl (lv_at hl 2 rfl) ?_
        refine lv_aload_n hx hb dX6_readsFiles_60 rfl (lv_at hl 0 rfl) ?_
        refine va_get (D := (dC, dI)) (ci := 6) (v := .ref (b 1)) (C := RX6) (T := TX6) (N := 22) hx hb hts in_X6 hown hK hP 0 rfl rfl 1 (by decide) f7 (fun _ h9 => h9) rfl dX6_readsFiles_61 ?_
        refine lv_iload_n hx hb dX6_readsFiles_64 rfl (lv_at hl 1 rfl) ?_
        refine lv_bipush (v := nI 8) hx hb dX6_readsFiles_65 (by decide) ?_
        refine x_iadd hx hb dX6_readsFiles_67 ?_
        refine lv_bipush (v := nI 8) hx hb dX6_readsFiles_68 (by decide) ?_
        refine lv_iload_n hx hb dX6_readsFiles_70 rfl (lv_at hl 2 rfl) ?_
        refine x_imul hx hb dX6_readsFiles_71 ?_
        refine x_iadd hx hb dX6_readsFiles_72 ?_
        refine lv_iconst (v := nI 2) hx hb dX6_readsFiles_73 (by decide) ?_
        refine x_calll (va_runS (As := [.ref (b 1), .int (nI ((x + 8) + (8 * i))), .int (nI 2)]) (rest := [.int (nI i), .ref (b 6)]) ⟨hx, hb, hml, hown, hts⟩ (c_M_number (k1 := 1) (t1 := 0) (g := rd) rfl (tyS_B cB cI cL) (by decide) hrd ((x + 8) + (8 * i)) 2 (by omega) (by omega)) (va_cwS 3 hts (tbS tw_760 tw_761 tw_91 tw_762) rfl rfl rfl (by decide +kernel) ⟨Nat.le_of_ble_eq_true rfl, Nat.le_of_ble_eq_true rfl⟩) ⟨y_blind, y_pre hK hP hD⟩ rfl rfl hl.1 rfl (lv_room (Nat.le_of_ble_eq_true rfl)) dX6_readsFiles_74 ⟨Nat.zero_le _, Nat.zero_le _⟩) hS (fun H locs hP hD hS => ?_)
        have hP : va_P (dC, dI) vwCl (wM b cB cI cL rb rd rq rQ rw ra ro rn rk rv (rd (x + 1)) Z'.1 Z'.2.1 Z'.2.2.1 Z'.2.2.2.1 rl lB lR rt (nm1 rd 6 (x + 2)) (nm1 rd 8 (x + 48)) Z'.2.2.2.2) H := hP
        have hD : va_D A (wM b cB cI cL rb rd rq rQ rw ra ro rn rk rv (rd (x + 1)) Z'.1 Z'.2.1 Z'.2.2.1 Z'.2.2.2.1 rl lB lR rt (nm1 rd 6 (x + 2)) (nm1 rd 8 (x + 48)) Z'.2.2.2.2) := hD
        have hv74 : nm1 rd 2 ((x + 8) + (8 * i)) < 65536 := nm1_lt hrd 2 ((x + 8) + (8 * i))
        refine lv_l2i (v := nI (nm1 rd 2 ((x + 8) + (8 * i)))) hx hb dX6_readsFiles_77 (lN_i _) ?_
        refine x_iast hx hb hK hP hD hS 6 1 rfl rfl (by omega) (by decide) dX6_readsFiles_78 (fun H locs hP hD hS => ?_)
        have hP : va_P (dC, dI) vwCl (wM b cB cI cL rb rd rq rQ rw ra ro rn rk rv (rd (x + 1)) (va_up Z'.1 i (nm1 rd 2 ((x + 8) + (8 * i)))) Z'.2.1 Z'.2.2.1 Z'.2.2.2.1 rl lB lR rt (nm1 rd 6 (x + 2)) (nm1 rd 8 (x + 48)) Z'.2.2.2.2) H := hP
        have hD : va_D A (wM b cB cI cL rb rd rq rQ rw ra ro rn rk rv (rd (x + 1)) (va_up Z'.1 i (nm1 rd 2 ((x + 8) + (8 * i)))) Z'.2.1 Z'.2.2.1 Z'.2.2.2.1 rl lB lR rt (nm1 rd 6 (x + 2)) (nm1 rd 8 (x + 48)) Z'.2.2.2.2) := hD
        refine lv_aload_n hx hb dX6_readsFiles_79 rfl (lv_at hl 0 rfl) ?_
        refine va_get (D := (dC, dI)) (ci := 6) (v := .ref (b 7)) (C := RX6) (T := TX6) (N := 22) hx hb hts in_X6 hown hK hP 0 rfl rfl 12 (by decide) f30 (fun _ h9 => h9) rfl dX6_readsFiles_80 ?_
        refine lv_iload_n hx hb dX6_readsFiles_83 rfl (lv_at hl 2 rfl) ?_
        refine lv_aload_n hx hb dX6_readsFiles_84 rfl (lv_at hl 0 rfl) ?_
        refine va_get (D := (dC, dI)) (ci := 6) (v := .ref (b 1)) (C := RX6) (T := TX6) (N := 22) hx hb hts in_X6 hown hK hP 0 rfl rfl 1 (by decide) f7 (fun _ h9 => h9) rfl dX6_readsFiles_85 ?_
        refine lv_iload_n hx hb dX6_readsFiles_88 rfl (lv_at hl 1 rfl) ?_
        refine lv_bipush (v := nI 10) hx hb dX6_readsFiles_89 (by decide) ?_
        refine x_iadd hx hb dX6_readsFiles_91 ?_
        refine lv_bipush (v := nI 8) hx hb dX6_readsFiles_92 (by decide) ?_
        refine lv_iload_n hx hb dX6_readsFiles_94 rfl (lv_at hl 2 rfl) ?_
        refine x_imul hx hb dX6_readsFiles_95 ?_
        refine x_iadd hx hb dX6_readsFiles_96 ?_
        refine lv_iconst (v := nI 2) hx hb dX6_readsFiles_97 (by decide) ?_
        refine x_calll (va_runS (As := [.ref (b 1), .int (nI ((x + 10) + (8 * i))), .int (nI 2)]) (rest := [.int (nI i), .ref (b 7)]) ⟨hx, hb, hml, hown, hts⟩ (c_M_number (k1 := 1) (t1 := 0) (g := rd) rfl (tyS_B cB cI cL) (by decide) hrd ((x + 10) + (8 * i)) 2 (by omega) (by omega)) (va_cwS 3 hts (tbS tw_760 tw_761 tw_91 tw_762) rfl rfl rfl (by decide +kernel) ⟨Nat.le_of_ble_eq_true rfl, Nat.le_of_ble_eq_true rfl⟩) ⟨y_blind, y_pre hK hP hD⟩ rfl rfl hl.1 rfl (lv_room (Nat.le_of_ble_eq_true rfl)) dX6_readsFiles_98 ⟨Nat.zero_le _, Nat.zero_le _⟩) hS (fun H locs hP hD hS => ?_)
        have hP : va_P (dC, dI) vwCl (wM b cB cI cL rb rd rq rQ rw ra ro rn rk rv (rd (x + 1)) (va_up Z'.1 i (nm1 rd 2 ((x + 8) + (8 * i)))) Z'.2.1 Z'.2.2.1 Z'.2.2.2.1 rl lB lR rt (nm1 rd 6 (x + 2)) (nm1 rd 8 (x + 48)) Z'.2.2.2.2) H := hP
        have hD : va_D A (wM b cB cI cL rb rd rq rQ rw ra ro rn rk rv (rd (x + 1)) (va_up Z'.1 i (nm1 rd 2 ((x + 8) + (8 * i)))) Z'.2.1 Z'.2.2.1 Z'.2.2.2.1 rl lB lR rt (nm1 rd 6 (x + 2)) (nm1 rd 8 (x + 48)) Z'.2.2.2.2) := hD
        have hv98 : nm1 rd 2 ((x + 10) + (8 * i)) < 65536 := nm1_lt hrd 2 ((x + 10) + (8 * i))
        refine lv_l2i (v := nI (nm1 rd 2 ((x + 10) + (8 * i)))) hx hb dX6_readsFiles_101 (lN_i _) ?_
        refine x_iast hx hb hK hP hD hS 7 1 rfl rfl (by omega) (by decide) dX6_readsFiles_102 (fun H locs hP hD hS => ?_)
        have hP : va_P (dC, dI) vwCl (wM b cB cI cL rb rd rq rQ rw ra ro rn rk rv (rd (x + 1)) (va_up Z'.1 i (nm1 rd 2 ((x + 8) + (8 * i)))) (va_up Z'.2.1 i (nm1 rd 2 ((x + 10) + (8 * i)))) Z'.2.2.1 Z'.2.2.2.1 rl lB lR rt (nm1 rd 6 (x + 2)) (nm1 rd 8 (x + 48)) Z'.2.2.2.2) H := hP
        have hD : va_D A (wM b cB cI cL rb rd rq rQ rw ra ro rn rk rv (rd (x + 1)) (va_up Z'.1 i (nm1 rd 2 ((x + 8) + (8 * i)))) (va_up Z'.2.1 i (nm1 rd 2 ((x + 10) + (8 * i)))) Z'.2.2.1 Z'.2.2.2.1 rl lB lR rt (nm1 rd 6 (x + 2)) (nm1 rd 8 (x + 48)) Z'.2.2.2.2) := hD
        refine lv_aload_n hx hb dX6_readsFiles_103 rfl (lv_at hl 0 rfl) ?_
        refine va_get (D := (dC, dI)) (ci := 6) (v := .ref (b 8)) (C := RX6) (T := TX6) (N := 22) hx hb hts in_X6 hown hK hP 0 rfl rfl 13 (by decide) f33 (fun _ h9 => h9) rfl dX6_readsFiles_104 ?_
        refine lv_iload_n hx hb dX6_readsFiles_107 rfl (lv_at hl 2 rfl) ?_
        refine lv_aload_n hx hb dX6_readsFiles_108 rfl (lv_at hl 0 rfl) ?_
        refine va_get (D := (dC, dI)) (ci := 6) (v := .ref (b 1)) (C := RX6) (T := TX6) (N := 22) hx hb hts in_X6 hown hK hP 0 rfl rfl 1 (by decide) f7 (fun _ h9 => h9) rfl dX6_readsFiles_109 ?_
        refine lv_iload_n hx hb dX6_readsFiles_112 rfl (lv_at hl 1 rfl) ?_
        refine lv_bipush (v := nI 12) hx hb dX6_readsFiles_113 (by decide) ?_
        refine x_iadd hx hb dX6_readsFiles_115 ?_
        refine lv_bipush (v := nI 8) hx hb dX6_readsFiles_116 (by decide) ?_
        refine lv_iload_n hx hb dX6_readsFiles_118 rfl (lv_at hl 2 rfl) ?_
        refine x_imul hx hb dX6_readsFiles_119 ?_
        refine x_iadd hx hb dX6_readsFiles_120 ?_
        refine lv_iconst (v := nI 2) hx hb dX6_readsFiles_121 (by decide) ?_
        refine x_calll (va_runS (As := [.ref (b 1), .int (nI ((x + 12) + (8 * i))), .int (nI 2)]) (rest := [.int (nI i), .ref (b 8)]) ⟨hx, hb, hml, hown, hts⟩ (c_M_number (k1 := 1) (t1 := 0) (g := rd) rfl (tyS_B cB cI cL) (by decide) hrd ((x + 12) + (8 * i)) 2 (by omega) (by omega)) (va_cwS 3 hts (tbS tw_760 tw_761 tw_91 tw_762) rfl rfl rfl (by decide +kernel) ⟨Nat.le_of_ble_eq_true rfl, Nat.le_of_ble_eq_true rfl⟩) ⟨y_blind, y_pre hK hP hD⟩ rfl rfl hl.1 rfl (lv_room (Nat.le_of_ble_eq_true rfl)) dX6_readsFiles_122 ⟨Nat.zero_le _, Nat.zero_le _⟩) hS (fun H locs hP hD hS => ?_)
        have hP : va_P (dC, dI) vwCl (wM b cB cI cL rb rd rq rQ rw ra ro rn rk rv (rd (x + 1)) (va_up Z'.1 i (nm1 rd 2 ((x + 8) + (8 * i)))) (va_up Z'.2.1 i (nm1 rd 2 ((x + 10) + (8 * i)))) Z'.2.2.1 Z'.2.2.2.1 rl lB lR rt (nm1 rd 6 (x + 2)) (nm1 rd 8 (x + 48)) Z'.2.2.2.2) H := hP
        have hD : va_D A (wM b cB cI cL rb rd rq rQ rw ra ro rn rk rv (rd (x + 1)) (va_up Z'.1 i (nm1 rd 2 ((x + 8) + (8 * i)))) (va_up Z'.2.1 i (nm1 rd 2 ((x + 10) + (8 * i)))) Z'.2.2.1 Z'.2.2.2.1 rl lB lR rt (nm1 rd 6 (x + 2)) (nm1 rd 8 (x + 48)) Z'.2.2.2.2) := hD
        have hv122 : nm1 rd 2 ((x + 12) + (8 * i)) < 65536 := nm1_lt hrd 2 ((x + 12) + (8 * i))
        refine lv_l2i (v := nI (nm1 rd 2 ((x + 12) + (8 * i)))) hx hb dX6_readsFiles_125 (lN_i _) ?_
        refine x_iast hx hb hK hP hD hS 8 1 rfl rfl (by omega) (by decide) dX6_readsFiles_126 (fun H locs hP hD hS => ?_)
        have hP : va_P (dC, dI) vwCl (wM b cB cI cL rb rd rq rQ rw ra ro rn rk rv (rd (x + 1)) (va_up Z'.1 i (nm1 rd 2 ((x + 8) + (8 * i)))) (va_up Z'.2.1 i (nm1 rd 2 ((x + 10) + (8 * i)))) (va_up Z'.2.2.1 i (nm1 rd 2 ((x + 12) + (8 * i)))) Z'.2.2.2.1 rl lB lR rt (nm1 rd 6 (x + 2)) (nm1 rd 8 (x + 48)) Z'.2.2.2.2) H := hP
        have hD : va_D A (wM b cB cI cL rb rd rq rQ rw ra ro rn rk rv (rd (x + 1)) (va_up Z'.1 i (nm1 rd 2 ((x + 8) + (8 * i)))) (va_up Z'.2.1 i (nm1 rd 2 ((x + 10) + (8 * i)))) (va_up Z'.2.2.1 i (nm1 rd 2 ((x + 12) + (8 * i)))) Z'.2.2.2.1 rl lB lR rt (nm1 rd 6 (x + 2)) (nm1 rd 8 (x + 48)) Z'.2.2.2.2) := hD
        refine lv_aload_n hx hb dX6_readsFiles_127 rfl (lv_at hl 0 rfl) ?_
        refine va_get (D := (dC, dI)) (ci := 6) (v := .ref (b 9)) (C := RX6) (T := TX6) (N := 22) hx hb hts in_X6 hown hK hP 0 rfl rfl 14 (by decide) f36 (fun _ h9 => h9) rfl dX6_readsFiles_128 ?_
        refine lv_iload_n hx hb dX6_readsFiles_131 rfl (lv_at hl 2 rfl) ?_
        refine lv_aload_n hx hb dX6_readsFiles_132 rfl (lv_at hl 0 rfl) ?_
        refine va_get (D := (dC, dI)) (ci := 6) (v := .ref (b 1)) (C := RX6) (T := TX6) (N := 22) hx hb hts in_X6 hown hK hP 0 rfl rfl 1 (by decide) f7 (fun _ h9 => h9) rfl dX6_readsFiles_133 ?_
        refine lv_iload_n hx hb dX6_readsFiles_136 rfl (lv_at hl 1 rfl) ?_
        refine lv_bipush (v := nI 14) hx hb dX6_readsFiles_137 (by decide) ?_
        refine x_iadd hx hb dX6_readsFiles_139 ?_
        refine lv_bipush (v := nI 8) hx hb dX6_readsFiles_140 (by decide) ?_
        refine lv_iload_n hx hb dX6_readsFiles_142 rfl (lv_at hl 2 rfl) ?_
        refine x_imul hx hb dX6_readsFiles_143 ?_
        refine x_iadd hx hb dX6_readsFiles_144 ?_
        refine lv_iconst (v := nI 2) hx hb dX6_readsFiles_145 (by decide) ?_
        refine x_calll (va_runS (As := [.ref (b 1), .int (nI ((x + 14) + (8 * i))), .int (nI 2)]) (rest := [.int (nI i), .ref (b 9)]) ⟨hx, hb, hml, hown, hts⟩ (c_M_number (k1 := 1) (t1 := 0) (g := rd) rfl (tyS_B cB cI cL) (by decide) hrd ((x + 14) + (8 * i)) 2 (by omega) (by omega)) (va_cwS 3 hts (tbS tw_760 tw_761 tw_91 tw_762) rfl rfl rfl (by decide +kernel) ⟨Nat.le_of_ble_eq_true rfl, Nat.le_of_ble_eq_true rfl⟩) ⟨y_blind, y_pre hK hP hD⟩ rfl rfl hl.1 rfl (lv_room (Nat.le_of_ble_eq_true rfl)) dX6_readsFiles_146 ⟨Nat.zero_le _, Nat.zero_le _⟩) hS (fun H locs hP hD hS => ?_)
        have hP : va_P (dC, dI) vwCl (wM b cB cI cL rb rd rq rQ rw ra ro rn rk rv (rd (x + 1)) (va_up Z'.1 i (nm1 rd 2 ((x + 8) + (8 * i)))) (va_up Z'.2.1 i (nm1 rd 2 ((x + 10) + (8 * i)))) (va_up Z'.2.2.1 i (nm1 rd 2 ((x + 12) + (8 * i)))) Z'.2.2.2.1 rl lB lR rt (nm1 rd 6 (x + 2)) (nm1 rd 8 (x + 48)) Z'.2.2.2.2) H := hP
        have hD : va_D A (wM b cB cI cL rb rd rq rQ rw ra ro rn rk rv (rd (x + 1)) (va_up Z'.1 i (nm1 rd 2 ((x + 8) + (8 * i)))) (va_up Z'.2.1 i (nm1 rd 2 ((x + 10) + (8 * i)))) (va_up Z'.2.2.1 i (nm1 rd 2 ((x + 12) + (8 * i)))) Z'.2.2.2.1 rl lB lR rt (nm1 rd 6 (x + 2)) (nm1 rd 8 (x + 48)) Z'.2.2.2.2) := hD
        have hv146 : nm1 rd 2 ((x + 14) + (8 * i)) < 65536 := nm1_lt hrd 2 ((x + 14) + (8 * i))
        refine lv_l2i (v := nI (nm1 rd 2 ((x + 14) + (8 * i)))) hx hb dX6_readsFiles_149 (lN_i _) ?_
        refine x_iast hx hb hK hP hD hS 9 1 rfl rfl (by omega) (by decide) dX6_readsFiles_150 (fun H locs hP hD hS => ?_)
        have hP : va_P (dC, dI) vwCl (wM b cB cI cL rb rd rq rQ rw ra ro rn rk rv (rd (x + 1)) (va_up Z'.1 i (nm1 rd 2 ((x + 8) + (8 * i)))) (va_up Z'.2.1 i (nm1 rd 2 ((x + 10) + (8 * i)))) (va_up Z'.2.2.1 i (nm1 rd 2 ((x + 12) + (8 * i)))) (va_up Z'.2.2.2.1 i (nm1 rd 2 ((x + 14) + (8 * i)))) rl lB lR rt (nm1 rd 6 (x + 2)) (nm1 rd 8 (x + 48)) Z'.2.2.2.2) H := hP
        have hD : va_D A (wM b cB cI cL rb rd rq rQ rw ra ro rn rk rv (rd (x + 1)) (va_up Z'.1 i (nm1 rd 2 ((x + 8) + (8 * i)))) (va_up Z'.2.1 i (nm1 rd 2 ((x + 10) + (8 * i)))) (va_up Z'.2.2.1 i (nm1 rd 2 ((x + 12) + (8 * i)))) (va_up Z'.2.2.2.1 i (nm1 rd 2 ((x + 14) + (8 * i)))) rl lB lR rt (nm1 rd 6 (x + 2)) (nm1 rd 8 (x + 48)) Z'.2.2.2.2) := hD
        refine lv_aload_n hx hb dX6_readsFiles_151 rfl (lv_at hl 0 rfl) ?_
        refine lv_aload_n hx hb dX6_readsFiles_152 rfl (lv_at hl 0 rfl) ?_
        refine va_get (D := (dC, dI)) (ci := 6) (v := .ref (b 6)) (C := RX6) (T := TX6) (N := 22) hx hb hts in_X6 hown hK hP 0 rfl rfl 11 (by decide) f27 (fun _ h9 => h9) rfl dX6_readsFiles_153 ?_
        refine lv_iload_n hx hb dX6_readsFiles_156 rfl (lv_at hl 2 rfl) ?_
        refine x_iald hx hb hK hP 6 1 rfl rfl (by omega) (by decide) dX6_readsFiles_157 ?_
        refine x_top (y := nI (nm1 rd 2 (x + 8 + 8 * i))) (by rw [va_up_self]) ?_
        refine lv_aload_n hx hb dX6_readsFiles_158 rfl (lv_at hl 0 rfl) ?_
        refine va_get (D := (dC, dI)) (ci := 6) (v := .int (nI Z'.2.2.2.2)) (C := RX6) (T := TX6) (N := 22) hx hb hts in_X6 hown hK hP 0 rfl rfl 21 (by decide) f90 (fun _ h9 => h9) rfl dX6_readsFiles_159 ?_
        refine x_icmp_le (tgt := 174) hx hb dX6_readsFiles_162 (by decide) (by omega) (by omega) (fun c162 => ?_) (fun c162 => ?_)
        · refine lv_aload_n hx hb dX6_readsFiles_174 rfl (lv_at hl 0 rfl) ?_
          refine va_get (D := (dC, dI)) (ci := 6) (v := .int (nI Z'.2.2.2.2)) (C := RX6) (T := TX6) (N := 22) hx hb hts in_X6 hown hK hP 0 rfl rfl 21 (by decide) f90 (fun _ h9 => h9) rfl dX6_readsFiles_175 ?_
          refine va_put (D := (dC, dI)) (ci := 6) (v := .int (nI Z'.2.2.2.2)) (ty := .int) (C := RX6) (T := TX6) (N := 22) hx hb hts in_X6 tyX6 tyX6_ok nmX6 hown hK hP hD hS 0 rfl rfl 21 (by decide) f90 (fun _ h9 => h9) rfl (by decide +kernel) rfl rfl (Nat.le_of_ble_eq_true rfl) dX6_readsFiles_178 (fun H locs hP hD hS => ?_)
          have hP : va_P (dC, dI) vwCl (wM b cB cI cL rb rd rq rQ rw ra ro rn rk rv (rd (x + 1)) (va_up Z'.1 i (nm1 rd 2 ((x + 8) + (8 * i)))) (va_up Z'.2.1 i (nm1 rd 2 ((x + 10) + (8 * i)))) (va_up Z'.2.2.1 i (nm1 rd 2 ((x + 12) + (8 * i)))) (va_up Z'.2.2.2.1 i (nm1 rd 2 ((x + 14) + (8 * i)))) rl lB lR rt (nm1 rd 6 (x + 2)) (nm1 rd 8 (x + 48)) Z'.2.2.2.2) H := hP
          have hD : va_D A (wM b cB cI cL rb rd rq rQ rw ra ro rn rk rv (rd (x + 1)) (va_up Z'.1 i (nm1 rd 2 ((x + 8) + (8 * i)))) (va_up Z'.2.1 i (nm1 rd 2 ((x + 10) + (8 * i)))) (va_up Z'.2.2.1 i (nm1 rd 2 ((x + 12) + (8 * i)))) (va_up Z'.2.2.2.1 i (nm1 rd 2 ((x + 14) + (8 * i)))) rl lB lR rt (nm1 rd 6 (x + 2)) (nm1 rd 8 (x + 48)) Z'.2.2.2.2) := hD
          refine lv_iinc (v := nI (i + 1)) (lv' := [(2, .int (nI (i + 1))), (0, .ref (b 0)), (1, .int (nI x))]) hx hb dX6_readsFiles_181 hl (k := 2) rfl (x_inc _) (by decide) rfl (fun ls hl => ?_)
          refine lv_goto (tgt := 47) hx hb dX6_readsFiles_184 (by decide) ?_
          have e13 : (va_up Z'.1 i (nm1 rd 2 ((x + 8) + (8 * i)))) = ((rfS rd x i Z').1) := by first | rfl | (show _ = (if _ then _ else _); first | rw [if_pos c162] | rw [if_neg (Nat.not_le.mpr c162)])
          have e14 : (va_up Z'.2.1 i (nm1 rd 2 ((x + 10) + (8 * i)))) = ((rfS rd x i Z').2.1) := by first | rfl | (show _ = (if _ then _ else _); first | rw [if_pos c162] | rw [if_neg (Nat.not_le.mpr c162)])
          have e15 : (va_up Z'.2.2.1 i (nm1 rd 2 ((x + 12) + (8 * i)))) = ((rfS rd x i Z').2.2.1) := by first | rfl | (show _ = (if _ then _ else _); first | rw [if_pos c162] | rw [if_neg (Nat.not_le.mpr c162)])
          have e16 : (va_up Z'.2.2.2.1 i (nm1 rd 2 ((x + 14) + (8 * i)))) = ((rfS rd x i Z').2.2.2.1) := by first | rfl | (show _ = (if _ then _ else _); first | rw [if_pos c162] | rw [if_neg (Nat.not_le.mpr c162)])
          have e17 : Z'.2.2.2.2 = ((rfS rd x i Z').2.2.2.2) := by first | rfl | (show _ = (if _ then _ else _); first | rw [if_pos c162] | rw [if_neg (Nat.not_le.mpr c162)])
          exact ih47 (i + 1) (rfS rd x i Z') (by omega) (by omega) (by exact va_up_lt i47_1 (by omega)) (by exact va_up_lt i47_2 (by omega)) (by exact va_up_lt i47_3 (by omega)) (by exact va_up_lt i47_4 (by omega)) (by exact rfS_z i47_5 (by omega)) (by have h := i47_6; rw [show rd (x + 1) - i = (rd (x + 1) - (i + 1)) + 1 by omega, rf1] at h; exact h) _ _ (x_wP (by rw [e13, e14, e15, e16, ← e17]) hP) (x_wD (by rw [e13, e14, e15, e16, ← e17]) hD) hS ls (lv_sub hl [1, 2, 0] rfl)
        · refine lv_aload_n hx hb dX6_readsFiles_165 rfl (lv_at hl 0 rfl) ?_
          refine va_get (D := (dC, dI)) (ci := 6) (v := .ref (b 6)) (C := RX6) (T := TX6) (N := 22) hx hb hts in_X6 hown hK hP 0 rfl rfl 11 (by decide) f27 (fun _ h9 => h9) rfl dX6_readsFiles_166 ?_
          refine lv_iload_n hx hb dX6_readsFiles_169 rfl (lv_at hl 2 rfl) ?_
          refine x_iald hx hb hK hP 6 1 rfl rfl (by omega) (by decide) dX6_readsFiles_170 ?_
          refine x_top (y := nI (nm1 rd 2 (x + 8 + 8 * i))) (by rw [va_up_self]) ?_
          refine lv_goto (tgt := 178) hx hb dX6_readsFiles_171 (by decide) ?_
          refine va_put (D := (dC, dI)) (ci := 6) (v := .int (nI (nm1 rd 2 (x + 8 + 8 * i)))) (ty := .int) (C := RX6) (T := TX6) (N := 22) hx hb hts in_X6 tyX6 tyX6_ok nmX6 hown hK hP hD hS 0 rfl rfl 21 (by decide) f90 (fun _ h9 => h9) rfl (by decide +kernel) rfl rfl (Nat.le_of_ble_eq_true rfl) dX6_readsFiles_178 (fun H locs hP hD hS => ?_)
          have hP : va_P (dC, dI) vwCl (wM b cB cI cL rb rd rq rQ rw ra ro rn rk rv (rd (x + 1)) (va_up Z'.1 i (nm1 rd 2 ((x + 8) + (8 * i)))) (va_up Z'.2.1 i (nm1 rd 2 ((x + 10) + (8 * i)))) (va_up Z'.2.2.1 i (nm1 rd 2 ((x + 12) + (8 * i)))) (va_up Z'.2.2.2.1 i (nm1 rd 2 ((x + 14) + (8 * i)))) rl lB lR rt (nm1 rd 6 (x + 2)) (nm1 rd 8 (x + 48)) (nm1 rd 2 (x + 8 + 8 * i))) H := hP
          have hD : va_D A (wM b cB cI cL rb rd rq rQ rw ra ro rn rk rv (rd (x + 1)) (va_up Z'.1 i (nm1 rd 2 ((x + 8) + (8 * i)))) (va_up Z'.2.1 i (nm1 rd 2 ((x + 10) + (8 * i)))) (va_up Z'.2.2.1 i (nm1 rd 2 ((x + 12) + (8 * i)))) (va_up Z'.2.2.2.1 i (nm1 rd 2 ((x + 14) + (8 * i)))) rl lB lR rt (nm1 rd 6 (x + 2)) (nm1 rd 8 (x + 48)) (nm1 rd 2 (x + 8 + 8 * i))) := hD
          refine lv_iinc (v := nI (i + 1)) (lv' := [(2, .int (nI (i + 1))), (0, .ref (b 0)), (1, .int (nI x))]) hx hb dX6_readsFiles_181 hl (k := 2) rfl (x_inc _) (by decide) rfl (fun ls hl => ?_)
          refine lv_goto (tgt := 47) hx hb dX6_readsFiles_184 (by decide) ?_
          have e18 : (va_up Z'.1 i (nm1 rd 2 ((x + 8) + (8 * i)))) = ((rfS rd x i Z').1) := by first | rfl | (show _ = (if _ then _ else _); first | rw [if_pos c162] | rw [if_neg (Nat.not_le.mpr c162)])
          have e19 : (va_up Z'.2.1 i (nm1 rd 2 ((x + 10) + (8 * i)))) = ((rfS rd x i Z').2.1) := by first | rfl | (show _ = (if _ then _ else _); first | rw [if_pos c162] | rw [if_neg (Nat.not_le.mpr c162)])
          have e20 : (va_up Z'.2.2.1 i (nm1 rd 2 ((x + 12) + (8 * i)))) = ((rfS rd x i Z').2.2.1) := by first | rfl | (show _ = (if _ then _ else _); first | rw [if_pos c162] | rw [if_neg (Nat.not_le.mpr c162)])
          have e21 : (va_up Z'.2.2.2.1 i (nm1 rd 2 ((x + 14) + (8 * i)))) = ((rfS rd x i Z').2.2.2.1) := by first | rfl | (show _ = (if _ then _ else _); first | rw [if_pos c162] | rw [if_neg (Nat.not_le.mpr c162)])
          have e22 : (nm1 rd 2 (x + 8 + 8 * i)) = ((rfS rd x i Z').2.2.2.2) := by first | rfl | (show _ = (if _ then _ else _); first | rw [if_pos c162] | rw [if_neg (Nat.not_le.mpr c162)])
          exact ih47 (i + 1) (rfS rd x i Z') (by omega) (by omega) (by exact va_up_lt i47_1 (by omega)) (by exact va_up_lt i47_2 (by omega)) (by exact va_up_lt i47_3 (by omega)) (by exact va_up_lt i47_4 (by omega)) (by exact rfS_z i47_5 (by omega)) (by have h := i47_6; rw [show rd (x + 1) - i = (rd (x + 1) - (i + 1)) + 1 by omega, rf1] at h; exact h) _ _ (x_wP (by rw [e18, e19, e20, e21, e22]) hP) (x_wD (by rw [e18, e19, e20, e21, e22]) hD) hS ls (lv_sub hl [1, 2, 0] rfl)
  have e23 : fN = ((fN, fF, fB, fR, rz).1) := by rfl
  have e24 : fF = ((fN, fF, fB, fR, rz).2.1) := by rfl
  have e25 : fB = ((fN, fF, fB, fR, rz).2.2.1) := by rfl
  have e26 : fR = ((fN, fF, fB, fR, rz).2.2.2.1) := by rfl
  have e27 : rz = ((fN, fF, fB, fR, rz).2.2.2.2) := by rfl
  exact L47 (rd (x + 1) - 0 + 1) 0 (fN, fF, fB, fR, rz) (by omega) (by omega) (by exact hfN) (by exact hfF) (by exact hfB) (by exact hfR) (by exact hrz) (by rfl) _ _ (x_wP (by rw [← e23, ← e24, ← e25, ← e26, ← e27]) hP) (x_wD (by rw [← e23, ← e24, ← e25, ← e26, ← e27]) hD) hS ls (lv_sub hl [1, 2, 0] rfl)

set_option maxHeartbeats 4000000 in
set_option maxRecDepth 100000 in
theorem c_M_readsLogs {l : Launch} {dC : Nat → ClassId} {dI : Nat → Nat → Nat} {A : Nat → Prop} {b : Nat → Nat} {cB cI cL : ClassId} {rb : Nat} {rd : Nat → Nat} {rq : Nat} {rQ rw : Nat → Nat} {ra : Nat} {ro : Bool} {rn : Nat} {rk rv : Nat → Int64} {rf : Nat} {fN fF fB fR : Nat → Nat} {rl : Nat} {lB lR : Nat → Nat} {rt rg rx rz : Nat} (hrb : rb ≤ 64) (hrd : ∀ j, rd j < 256) (hrf : rf ≤ 5) (hfF : ∀ j, fF j < 1048576) (hfB : ∀ j, fB j < 1048576) (hlB : ∀ j, lB j < 1048576) (hk1 : rn + 3 * lgK rb rd fF fB rf rx ≤ 210) (hk2 : rl + lgK rb rd fF fB rf rx ≤ 62) (hx1 : rx + 192 < 2 ^ 30) : Met l yX6_readsLogs (Cond.code yX6_readsLogs cX6_readsLogs 4 none :: TB) { frames := 3, cells := 0, slots := 0, locals := 67 } (xPre (fun _ => True) (dC, dI) A (tyS cB cI cL) (wM b cB cI cL rb rd rq rQ rw ra ro rn rk rv rf fN fF fB fR rl lB lR rt rg rx rz) [.ref (b 0)]) (xQv (dC, dI) A (wM b cB cI cL rb (rlW rf fF fB (rlG rb rd fF fB rf 64 (rn, rk, rv, rl, lB, lR, rx)).2.2.2.1 (rlG rb rd fF fB rf 64 (rn, rk, rv, rl, lB, lR, rx)).2.2.2.2.1 (rb - 2) 2 rd) rq rQ rw ra ro ((rlG rb rd fF fB rf 64 (rn, rk, rv, rl, lB, lR, rx)).1) ((rlG rb rd fF fB rf 64 (rn, rk, rv, rl, lB, lR, rx)).2.1) ((rlG rb rd fF fB rf 64 (rn, rk, rv, rl, lB, lR, rx)).2.2.1) rf fN fF fB fR ((rlG rb rd fF fB rf 64 (rn, rk, rv, rl, lB, lR, rx)).2.2.2.1) ((rlG rb rd fF fB rf 64 (rn, rk, rv, rl, lB, lR, rx)).2.2.2.2.1) ((rlG rb rd fF fB rf 64 (rn, rk, rv, rl, lB, lR, rx)).2.2.2.2.2.1) rt rg ((rlG rb rd fF fB rf 64 (rn, rk, rv, rl, lB, lR, rx)).2.2.2.2.2.2) rz)) 0 0 A := by
  refine x_ofWv (cc := cX6_readsLogs) (maxL := 4) (by decide) rfl (Nat.le_of_ble_eq_true rfl) ?_
  intro p e s m args below meth c Q hx hb hml hts hown hK hN hP hD hS hret ls hl
  have hl : lv_has ls 4 [(0, .ref (b 0))] := hl
  have hown : s.vm.findClass RX6 = some m.cls := hown
  have f99 := hts _ (List.mem_cons_of_mem _ tw_606)
  have in_X6 := (fun q hq => List.mem_cons_of_mem _ (inX6 q hq) : ∀ q ∈ wsX60, q ∈ (Cond.code yX6_readsLogs cX6_readsLogs 4 none :: TB))
  have f7 := hts _ (List.mem_cons_of_mem _ tw_607)
  have f39 := hts _ (List.mem_cons_of_mem _ tw_622)
  have f77 := hts _ (List.mem_cons_of_mem _ tw_621)
  have f42 := hts _ (List.mem_cons_of_mem _ tw_623)
  have f87 := hts _ (List.mem_cons_of_mem _ tw_626)
  refine lv_iconst (v := nI 0) hx hb dX6_readsLogs_0 (by decide) ?_
  refine lv_istore_n (lv' := [(1, .int (nI 0)), (0, .ref (b 0))]) hx hb dX6_readsLogs_1 rfl hl (by decide) rfl (fun ls hl => ?_)
  have L2 : ∀ (fu2 : Nat) (t : Nat) (v : Nat) (LS' : LSt), (t < fu2) → (t ≤ 64 ∧ v < 2 ^ 31) → (LS'.1 + 3 * lgK rb rd fF fB rf LS'.2.2.2.2.2.2 ≤ 210) → (LS'.2.2.2.1 + lgK rb rd fF fB rf LS'.2.2.2.2.2.2 ≤ 62) → (lgK rb rd fF fB rf LS'.2.2.2.2.2.2 < t) → (LS'.2.2.2.2.2.2 + 3 * t < 2 ^ 30) → (∀ q, LS'.2.2.2.2.1 q < 1048576) → (rlG rb rd fF fB rf t LS' = rlG rb rd fF fB rf 64 (rn, rk, rv, rl, lB, lR, rx)) → ∀ (H : Heap) (locs : List Loc), va_P (dC, dI) vwCl (wM b cB cI cL rb rd rq rQ rw ra ro LS'.1 LS'.2.1 LS'.2.2.1 rf fN fF fB fR LS'.2.2.2.1 LS'.2.2.2.2.1 LS'.2.2.2.2.2.1 rt rg LS'.2.2.2.2.2.2 rz) H → va_D A (wM b cB cI cL rb rd rq rQ rw ra ro LS'.1 LS'.2.1 LS'.2.2.1 rf fN fF fB fR LS'.2.2.2.1 LS'.2.2.2.2.1 LS'.2.2.2.2.2.1 rt rg LS'.2.2.2.2.2.2 rz) → va_S A s.heap H locs → ∀ (ls : Array Slot), lv_has ls 4 [(0, .ref (b 0)), (1, .int (nI v))] → W p l e { frames := 3, cells := 0, slots := 0, locals := 67 } s m args below meth c H locs 0 0 Q (F0 m 2 ls []) := by
    intro fu2
    induction fu2 with
    | zero => intro t v LS' hm; exact absurd hm (Nat.not_lt_zero _)
    | succ fu2 ih2 =>
      intro t v LS' hm i2_0 i2_1 i2_2 i2_3 i2_4 i2_5 i2_6 H locs hP hD hS ls hl
      refine lv_iload_n hx hb dX6_readsLogs_2 rfl (lv_at hl 1 rfl) ?_
      refine x_if_lt (tgt := 149) hx hb dX6_readsLogs_3 (by decide) (by omega) ?_
      refine lv_iconst (v := (-1)) hx hb dX6_readsLogs_6 (by decide) ?_
      refine lv_istore_n (lv' := [(1, .int ((-1))), (0, .ref (b 0))]) hx hb dX6_readsLogs_7 rfl hl (by decide) rfl (fun ls hl => ?_)
      refine lv_iconst (v := nI 2) hx hb dX6_readsLogs_8 (by decide) ?_
      refine lv_istore_n (lv' := [(2, .int (nI 2)), (1, .int ((-1))), (0, .ref (b 0))]) hx hb dX6_readsLogs_9 rfl hl (by decide) rfl (fun ls hl => ?_)
      have L10 : ∀ (fu10 : Nat) (y : Nat) (o : Option Nat), (rb - y < fu10) → (2 ≤ y ∧ y ≤ 66) → (foS (fl rb rd fF fB rf LS'.2.2.2.2.2.2) o (rb - y) y = fl rb rd fF fB rf LS'.2.2.2.2.2.2 (rb - 2) 2) → (∀ c, o = some c → c < 2 ^ 31) → ∀ (H : Heap) (locs : List Loc), va_P (dC, dI) vwCl (wM b cB cI cL rb rd rq rQ rw ra ro LS'.1 LS'.2.1 LS'.2.2.1 rf fN fF fB fR LS'.2.2.2.1 LS'.2.2.2.2.1 LS'.2.2.2.2.2.1 rt rg LS'.2.2.2.2.2.2 rz) H → va_D A (wM b cB cI cL rb rd rq rQ rw ra ro LS'.1 LS'.2.1 LS'.2.2.1 rf fN fF fB fR LS'.2.2.2.1 LS'.2.2.2.2.1 LS'.2.2.2.2.2.1 rt rg LS'.2.2.2.2.2.2 rz) → va_S A s.heap H locs → ∀ (ls : Array Slot), lv_has ls 4 [(0, .ref (b 0)), (1, .int (oJ o)), (2, .int (nI y))] → W p l e { frames := 3, cells := 0, slots := 0, locals := 67 } s m args below meth c H locs 0 0 Q (F0 m 10 ls []) := by
        intro fu10
        induction fu10 with
        | zero => intro y o hm; exact absurd hm (Nat.not_lt_zero _)
        | succ fu10 ih10 =>
          intro y o hm i10_0 i10_1 i10_2 H locs hP hD hS ls hl
          have q1 := hrd (64 * y + 1)
          refine lv_iload_n hx hb dX6_readsLogs_10 rfl (lv_at hl 2 rfl) ?_
          refine lv_aload_n hx hb dX6_readsLogs_11 rfl (lv_at hl 0 rfl) ?_
          refine va_get (D := (dC, dI)) (ci := 6) (v := .int (nI rb)) (C := RX6) (T := TX6) (N := 22) hx hb hts in_X6 hown hK hP 0 rfl rfl 0 (by decide) f99 (fun _ h9 => h9) rfl dX6_readsLogs_12 ?_
          refine x_icmp_ge (tgt := 83) hx hb dX6_readsLogs_15 (by decide) (by omega) (by omega) (fun c15 => ?_) (fun c15 => ?_)
          · have hFL : fl rb rd fF fB rf LS'.2.2.2.2.2.2 (rb - 2) 2 = o := (foS_end (show rb - y = 0 by omega) i10_1 rfl)
            refine lv_iload_n hx hb dX6_readsLogs_83 rfl (lv_at hl 1 rfl) ?_
            refine lv_if_ge (tgt := 90) hx hb dX6_readsLogs_84 (by decide) (fun c84 => ?_) (fun c84 => ?_)
            · obtain ⟨yf, ho⟩ := oJ_some c84
              subst ho
              have hfd := fl_d hFL
              have hkd := lgK_step (n := rd (64 * yf + 1)) hfd
              have q1 := hrd (64 * yf + 1)
              have hl : lv_has ls 4 [(0, .ref (b 0)), (1, .int (nI yf)), (2, .int (nI y))] := hl
              refine lv_aload_n hx hb dX6_readsLogs_90 rfl (lv_at hl 0 rfl) ?_
              refine va_get (D := (dC, dI)) (ci := 6) (v := .ref (b 1)) (C := RX6) (T := TX6) (N := 22) hx hb hts in_X6 hown hK hP 0 rfl rfl 1 (by decide) f7 (fun _ h9 => h9) rfl dX6_readsLogs_91 ?_
              refine lv_bipush (v := nI 64) hx hb dX6_readsLogs_94 (by decide) ?_
              refine lv_iload_n hx hb dX6_readsLogs_96 rfl (lv_at hl 1 rfl) ?_
              refine x_imul hx hb dX6_readsLogs_97 ?_
              refine lv_iconst (v := nI 1) hx hb dX6_readsLogs_98 (by decide) ?_
              refine x_iadd hx hb dX6_readsLogs_99 ?_
              refine x_bald hx hb hK hP 1 0 rfl rfl (by omega) (by decide) dX6_readsLogs_100 ?_
              refine x_top (y := nI (rd (64 * yf + 1))) (sb_small (by omega)) ?_
              refine lv_istore_n (lv' := [(2, .int (nI (rd (64 * yf + 1)))), (0, .ref (b 0)), (1, .int (nI yf))]) hx hb dX6_readsLogs_101 rfl hl (by decide) rfl (fun ls hl => ?_)
              refine lv_aload_n hx hb dX6_readsLogs_102 rfl (lv_at hl 1 rfl) ?_
              refine lv_iload_n hx hb dX6_readsLogs_103 rfl (lv_at hl 2 rfl) ?_
              refine lv_iload_n hx hb dX6_readsLogs_104 rfl (lv_at hl 0 rfl) ?_
              refine x_callv (va_runV (As := [.int (nI yf), .int (nI (rd (64 * yf + 1)))]) (rest := []) ⟨hx, hb, hml, hown, hts⟩ (c_M_reads hrd yf (rd (64 * yf + 1)) (by omega) (by omega) (by omega)) (cwV 2 hts (tbV tw_781 tw_783 tw_79 tw_91 tw_784) rfl rfl rfl (by decide +kernel) ⟨Nat.le_of_ble_eq_true rfl, Nat.le_of_ble_eq_true rfl⟩) ⟨y_blind, va_recv hK hP (ci := 6) (q0 := 0) rfl rfl, y_pre hK hP hD⟩ rfl rfl hl.1 rfl (lv_room (Nat.le_of_ble_eq_true rfl)) dX6_readsLogs_105 ⟨Nat.zero_le _, Nat.zero_le _⟩) hS (fun H locs hP hD hS => ?_)
              have hP : va_P (dC, dI) vwCl (wM b cB cI cL rb rd rq rQ rw ra ro ((rds rd yf (rd (64 * yf + 1)) 0 (LS'.1, LS'.2.1, LS'.2.2.1)).1) ((rds rd yf (rd (64 * yf + 1)) 0 (LS'.1, LS'.2.1, LS'.2.2.1)).2.1) ((rds rd yf (rd (64 * yf + 1)) 0 (LS'.1, LS'.2.1, LS'.2.2.1)).2.2) rf fN fF fB fR LS'.2.2.2.1 LS'.2.2.2.2.1 LS'.2.2.2.2.2.1 rt rg LS'.2.2.2.2.2.2 rz) H := hP
              have hD : va_D A (wM b cB cI cL rb rd rq rQ rw ra ro ((rds rd yf (rd (64 * yf + 1)) 0 (LS'.1, LS'.2.1, LS'.2.2.1)).1) ((rds rd yf (rd (64 * yf + 1)) 0 (LS'.1, LS'.2.1, LS'.2.2.1)).2.1) ((rds rd yf (rd (64 * yf + 1)) 0 (LS'.1, LS'.2.1, LS'.2.2.1)).2.2) rf fN fF fB fR LS'.2.2.2.1 LS'.2.2.2.2.1 LS'.2.2.2.2.2.1 rt rg LS'.2.2.2.2.2.2 rz) := hD
              refine lv_aload_n hx hb dX6_readsLogs_108 rfl (lv_at hl 1 rfl) ?_
              refine va_get (D := (dC, dI)) (ci := 6) (v := .ref (b 10)) (C := RX6) (T := TX6) (N := 22) hx hb hts in_X6 hown hK hP 0 rfl rfl 16 (by decide) f39 (fun _ h9 => h9) rfl dX6_readsLogs_109 ?_
              refine lv_aload_n hx hb dX6_readsLogs_112 rfl (lv_at hl 1 rfl) ?_
              refine va_get (D := (dC, dI)) (ci := 6) (v := .int (nI LS'.2.2.2.1)) (C := RX6) (T := TX6) (N := 22) hx hb hts in_X6 hown hK hP 0 rfl rfl 15 (by decide) f77 (fun _ h9 => h9) rfl dX6_readsLogs_113 ?_
              refine lv_iload_n hx hb dX6_readsLogs_116 rfl (lv_at hl 2 rfl) ?_
              refine x_iast hx hb hK hP hD hS 10 1 rfl rfl (by omega) (by decide) dX6_readsLogs_117 (fun H locs hP hD hS => ?_)
              have hP : va_P (dC, dI) vwCl (wM b cB cI cL rb rd rq rQ rw ra ro ((rds rd yf (rd (64 * yf + 1)) 0 (LS'.1, LS'.2.1, LS'.2.2.1)).1) ((rds rd yf (rd (64 * yf + 1)) 0 (LS'.1, LS'.2.1, LS'.2.2.1)).2.1) ((rds rd yf (rd (64 * yf + 1)) 0 (LS'.1, LS'.2.1, LS'.2.2.1)).2.2) rf fN fF fB fR LS'.2.2.2.1 (va_up LS'.2.2.2.2.1 LS'.2.2.2.1 yf) LS'.2.2.2.2.2.1 rt rg LS'.2.2.2.2.2.2 rz) H := hP
              have hD : va_D A (wM b cB cI cL rb rd rq rQ rw ra ro ((rds rd yf (rd (64 * yf + 1)) 0 (LS'.1, LS'.2.1, LS'.2.2.1)).1) ((rds rd yf (rd (64 * yf + 1)) 0 (LS'.1, LS'.2.1, LS'.2.2.1)).2.1) ((rds rd yf (rd (64 * yf + 1)) 0 (LS'.1, LS'.2.1, LS'.2.2.1)).2.2) rf fN fF fB fR LS'.2.2.2.1 (va_up LS'.2.2.2.2.1 LS'.2.2.2.1 yf) LS'.2.2.2.2.2.1 rt rg LS'.2.2.2.2.2.2 rz) := hD
              refine lv_aload_n hx hb dX6_readsLogs_118 rfl (lv_at hl 1 rfl) ?_
              refine va_get (D := (dC, dI)) (ci := 6) (v := .ref (b 11)) (C := RX6) (T := TX6) (N := 22) hx hb hts in_X6 hown hK hP 0 rfl rfl 17 (by decide) f42 (fun _ h9 => h9) rfl dX6_readsLogs_119 ?_
              refine lv_aload_n hx hb dX6_readsLogs_122 rfl (lv_at hl 1 rfl) ?_
              refine lv_dup hx hb dX6_readsLogs_123 rfl ?_
              refine va_get (D := (dC, dI)) (ci := 6) (v := .int (nI LS'.2.2.2.1)) (C := RX6) (T := TX6) (N := 22) hx hb hts in_X6 hown hK hP 0 rfl rfl 15 (by decide) f77 (fun _ h9 => h9) rfl dX6_readsLogs_124 ?_
              refine lv_dup_x1 hx hb dX6_readsLogs_127 rfl rfl ?_
              refine lv_iconst (v := nI 1) hx hb dX6_readsLogs_128 (by decide) ?_
              refine x_iadd hx hb dX6_readsLogs_129 ?_
              refine va_put (D := (dC, dI)) (ci := 6) (v := .int (nI (LS'.2.2.2.1 + 1))) (ty := .int) (C := RX6) (T := TX6) (N := 22) hx hb hts in_X6 tyX6 tyX6_ok nmX6 hown hK hP hD hS 0 rfl rfl 15 (by decide) f77 (fun _ h9 => h9) rfl (by decide +kernel) rfl rfl (Nat.le_of_ble_eq_true rfl) dX6_readsLogs_130 (fun H locs hP hD hS => ?_)
              have hP : va_P (dC, dI) vwCl (wM b cB cI cL rb rd rq rQ rw ra ro ((rds rd yf (rd (64 * yf + 1)) 0 (LS'.1, LS'.2.1, LS'.2.2.1)).1) ((rds rd yf (rd (64 * yf + 1)) 0 (LS'.1, LS'.2.1, LS'.2.2.1)).2.1) ((rds rd yf (rd (64 * yf + 1)) 0 (LS'.1, LS'.2.1, LS'.2.2.1)).2.2) rf fN fF fB fR (LS'.2.2.2.1 + 1) (va_up LS'.2.2.2.2.1 LS'.2.2.2.1 yf) LS'.2.2.2.2.2.1 rt rg LS'.2.2.2.2.2.2 rz) H := hP
              have hD : va_D A (wM b cB cI cL rb rd rq rQ rw ra ro ((rds rd yf (rd (64 * yf + 1)) 0 (LS'.1, LS'.2.1, LS'.2.2.1)).1) ((rds rd yf (rd (64 * yf + 1)) 0 (LS'.1, LS'.2.1, LS'.2.2.1)).2.1) ((rds rd yf (rd (64 * yf + 1)) 0 (LS'.1, LS'.2.1, LS'.2.2.1)).2.2) rf fN fF fB fR (LS'.2.2.2.1 + 1) (va_up LS'.2.2.2.2.1 LS'.2.2.2.1 yf) LS'.2.2.2.2.2.1 rt rg LS'.2.2.2.2.2.2 rz) := hD
              refine lv_iload_n hx hb dX6_readsLogs_133 rfl (lv_at hl 0 rfl) ?_
              refine x_iast hx hb hK hP hD hS 11 1 rfl rfl (by omega) (by decide) dX6_readsLogs_134 (fun H locs hP hD hS => ?_)
              have hP : va_P (dC, dI) vwCl (wM b cB cI cL rb rd rq rQ rw ra ro ((rds rd yf (rd (64 * yf + 1)) 0 (LS'.1, LS'.2.1, LS'.2.2.1)).1) ((rds rd yf (rd (64 * yf + 1)) 0 (LS'.1, LS'.2.1, LS'.2.2.1)).2.1) ((rds rd yf (rd (64 * yf + 1)) 0 (LS'.1, LS'.2.1, LS'.2.2.1)).2.2) rf fN fF fB fR (LS'.2.2.2.1 + 1) (va_up LS'.2.2.2.2.1 LS'.2.2.2.1 yf) (va_up LS'.2.2.2.2.2.1 LS'.2.2.2.1 (rd (64 * yf + 1))) rt rg LS'.2.2.2.2.2.2 rz) H := hP
              have hD : va_D A (wM b cB cI cL rb rd rq rQ rw ra ro ((rds rd yf (rd (64 * yf + 1)) 0 (LS'.1, LS'.2.1, LS'.2.2.1)).1) ((rds rd yf (rd (64 * yf + 1)) 0 (LS'.1, LS'.2.1, LS'.2.2.1)).2.1) ((rds rd yf (rd (64 * yf + 1)) 0 (LS'.1, LS'.2.1, LS'.2.2.1)).2.2) rf fN fF fB fR (LS'.2.2.2.1 + 1) (va_up LS'.2.2.2.2.1 LS'.2.2.2.1 yf) (va_up LS'.2.2.2.2.2.1 LS'.2.2.2.1 (rd (64 * yf + 1))) rt rg LS'.2.2.2.2.2.2 rz) := hD
              refine lv_aload_n hx hb dX6_readsLogs_135 rfl (lv_at hl 1 rfl) ?_
              refine lv_dup hx hb dX6_readsLogs_136 rfl ?_
              refine va_get (D := (dC, dI)) (ci := 6) (v := .long (lN LS'.2.2.2.2.2.2)) (C := RX6) (T := TX6) (N := 22) hx hb hts in_X6 hown hK hP 0 rfl rfl 20 (by decide) f87 (fun _ h9 => h9) rfl dX6_readsLogs_137 ?_
              refine lv_iload_n hx hb dX6_readsLogs_140 rfl (lv_at hl 0 rfl) ?_
              refine lv_i2l (v := lN (rd (64 * yf + 1))) hx hb dX6_readsLogs_141 (nI_l (by omega)) ?_
              refine lv_ladd hx hb dX6_readsLogs_142 ?_
              refine x_topl (y := lN (LS'.2.2.2.2.2.2 + rd (64 * yf + 1))) (lN_add _ _) ?_
              refine va_put (D := (dC, dI)) (ci := 6) (v := .long (lN (LS'.2.2.2.2.2.2 + rd (64 * yf + 1)))) (ty := .long) (C := RX6) (T := TX6) (N := 22) hx hb hts in_X6 tyX6 tyX6_ok nmX6 hown hK hP hD hS 0 rfl rfl 20 (by decide) f87 (fun _ h9 => h9) rfl (by decide +kernel) rfl rfl (Nat.le_of_ble_eq_true rfl) dX6_readsLogs_143 (fun H locs hP hD hS => ?_)
              have hP : va_P (dC, dI) vwCl (wM b cB cI cL rb rd rq rQ rw ra ro ((rds rd yf (rd (64 * yf + 1)) 0 (LS'.1, LS'.2.1, LS'.2.2.1)).1) ((rds rd yf (rd (64 * yf + 1)) 0 (LS'.1, LS'.2.1, LS'.2.2.1)).2.1) ((rds rd yf (rd (64 * yf + 1)) 0 (LS'.1, LS'.2.1, LS'.2.2.1)).2.2) rf fN fF fB fR (LS'.2.2.2.1 + 1) (va_up LS'.2.2.2.2.1 LS'.2.2.2.1 yf) (va_up LS'.2.2.2.2.2.1 LS'.2.2.2.1 (rd (64 * yf + 1))) rt rg (LS'.2.2.2.2.2.2 + rd (64 * yf + 1)) rz) H := hP
              have hD : va_D A (wM b cB cI cL rb rd rq rQ rw ra ro ((rds rd yf (rd (64 * yf + 1)) 0 (LS'.1, LS'.2.1, LS'.2.2.1)).1) ((rds rd yf (rd (64 * yf + 1)) 0 (LS'.1, LS'.2.1, LS'.2.2.1)).2.1) ((rds rd yf (rd (64 * yf + 1)) 0 (LS'.1, LS'.2.1, LS'.2.2.1)).2.2) rf fN fF fB fR (LS'.2.2.2.1 + 1) (va_up LS'.2.2.2.2.1 LS'.2.2.2.1 yf) (va_up LS'.2.2.2.2.2.1 LS'.2.2.2.1 (rd (64 * yf + 1))) rt rg (LS'.2.2.2.2.2.2 + rd (64 * yf + 1)) rz) := hD
              refine lv_goto (tgt := 2) hx hb dX6_readsLogs_146 (by decide) ?_
              have e1 : ((rds rd yf (rd (64 * yf + 1)) 0 (LS'.1, LS'.2.1, LS'.2.2.1)).1) = ((rlT rd yf LS').1) := by rfl
              have e2 : ((rds rd yf (rd (64 * yf + 1)) 0 (LS'.1, LS'.2.1, LS'.2.2.1)).2.1) = ((rlT rd yf LS').2.1) := by rfl
              have e3 : ((rds rd yf (rd (64 * yf + 1)) 0 (LS'.1, LS'.2.1, LS'.2.2.1)).2.2) = ((rlT rd yf LS').2.2.1) := by rfl
              have e4 : (LS'.2.2.2.1 + 1) = ((rlT rd yf LS').2.2.2.1) := by rfl
              have e5 : (va_up LS'.2.2.2.2.1 LS'.2.2.2.1 yf) = ((rlT rd yf LS').2.2.2.2.1) := by rfl
              have e6 : (va_up LS'.2.2.2.2.2.1 LS'.2.2.2.1 (rd (64 * yf + 1))) = ((rlT rd yf LS').2.2.2.2.2.1) := by rfl
              have e7 : (LS'.2.2.2.2.2.2 + rd (64 * yf + 1)) = ((rlT rd yf LS').2.2.2.2.2.2) := by rfl
              exact ih2 (t - 1) yf (rlT rd yf LS') (by omega) (by omega) (by show (rds rd yf (rd (64 * yf + 1)) 0 (LS'.1, LS'.2.1, LS'.2.2.1)).1 + 3 * lgK rb rd fF fB rf (LS'.2.2.2.2.2.2 + rd (64 * yf + 1)) ≤ 210; rw [rds_n]; omega) (by show LS'.2.2.2.1 + 1 + lgK rb rd fF fB rf (LS'.2.2.2.2.2.2 + rd (64 * yf + 1)) ≤ 62; omega) (by show lgK rb rd fF fB rf (LS'.2.2.2.2.2.2 + rd (64 * yf + 1)) < t - 1; omega) (by show LS'.2.2.2.2.2.2 + rd (64 * yf + 1) + 3 * (t - 1) < 2 ^ 30; omega) (by exact va_up_lt i2_5 (by omega)) (by have h := i2_6; rw [show t = (t - 1) + 1 by omega, rlG, hFL] at h; exact h) _ _ (x_wP (by rw [e1, e2, e3, ← e4, e5, e6, e7]) hP) (x_wD (by rw [e1, e2, e3, ← e4, e5, e6, e7]) hD) hS ls (lv_sub hl [1, 2] rfl)
            · have ho := oJ_neg c84 i10_2
              subst ho
              have zz : LS' = rlG rb rd fF fB rf 64 (rn, rk, rv, rl, lB, lR, rx) := by
                have h := i2_6
                rw [show t = (t - 1) + 1 by omega, rlG, hFL] at h
                exact h
              subst zz
              have hlz := i2_5
              refine lv_goto (tgt := 149) hx hb dX6_readsLogs_87 (by decide) ?_
              refine lv_iconst (v := nI 2) hx hb dX6_readsLogs_149 (by decide) ?_
              refine lv_istore_n (lv' := [(2, .int (nI 2)), (0, .ref (b 0)), (1, .int (oJ none))]) hx hb dX6_readsLogs_150 rfl hl (by decide) rfl (fun ls hl => ?_)
              have L151 : ∀ (fu151 : Nat) (z : Nat) (d' : Nat → Nat), (rb - z < fu151) → (2 ≤ z ∧ z ≤ 66) → (∀ q, d' q < 256) → (rlW rf fF fB (rlG rb rd fF fB rf 64 (rn, rk, rv, rl, lB, lR, rx)).2.2.2.1 (rlG rb rd fF fB rf 64 (rn, rk, rv, rl, lB, lR, rx)).2.2.2.2.1 (rb - z) z d' = rlW rf fF fB (rlG rb rd fF fB rf 64 (rn, rk, rv, rl, lB, lR, rx)).2.2.2.1 (rlG rb rd fF fB rf 64 (rn, rk, rv, rl, lB, lR, rx)).2.2.2.2.1 (rb - 2) 2 rd) → ∀ (H : Heap) (locs : List Loc), va_P (dC, dI) vwCl (wM b cB cI cL rb d' rq rQ rw ra ro ((rlG rb rd fF fB rf 64 (rn, rk, rv, rl, lB, lR, rx)).1) ((rlG rb rd fF fB rf 64 (rn, rk, rv, rl, lB, lR, rx)).2.1) ((rlG rb rd fF fB rf 64 (rn, rk, rv, rl, lB, lR, rx)).2.2.1) rf fN fF fB fR ((rlG rb rd fF fB rf 64 (rn, rk, rv, rl, lB, lR, rx)).2.2.2.1) ((rlG rb rd fF fB rf 64 (rn, rk, rv, rl, lB, lR, rx)).2.2.2.2.1) ((rlG rb rd fF fB rf 64 (rn, rk, rv, rl, lB, lR, rx)).2.2.2.2.2.1) rt rg ((rlG rb rd fF fB rf 64 (rn, rk, rv, rl, lB, lR, rx)).2.2.2.2.2.2) rz) H → va_D A (wM b cB cI cL rb d' rq rQ rw ra ro ((rlG rb rd fF fB rf 64 (rn, rk, rv, rl, lB, lR, rx)).1) ((rlG rb rd fF fB rf 64 (rn, rk, rv, rl, lB, lR, rx)).2.1) ((rlG rb rd fF fB rf 64 (rn, rk, rv, rl, lB, lR, rx)).2.2.1) rf fN fF fB fR ((rlG rb rd fF fB rf 64 (rn, rk, rv, rl, lB, lR, rx)).2.2.2.1) ((rlG rb rd fF fB rf 64 (rn, rk, rv, rl, lB, lR, rx)).2.2.2.2.1) ((rlG rb rd fF fB rf 64 (rn, rk, rv, rl, lB, lR, rx)).2.2.2.2.2.1) rt rg ((rlG rb rd fF fB rf 64 (rn, rk, rv, rl, lB, lR, rx)).2.2.2.2.2.2) rz) → va_S A s.heap H locs → ∀ (ls : Array Slot), lv_has ls 4 [(0, .ref (b 0)), (2, .int (nI z))] → W p l e { frames := 3, cells := 0, slots := 0, locals := 67 } s m args below meth c H locs 0 0 Q (F0 m 151 ls []) := by
                intro fu151
                induction fu151 with
                | zero => intro z d' hm; exact absurd hm (Nat.not_lt_zero _)
                | succ fu151 ih151 =>
                  intro z d' hm i151_0 i151_1 i151_2 H locs hP hD hS ls hl
                  refine lv_iload_n hx hb dX6_readsLogs_151 rfl (lv_at hl 1 rfl) ?_
                  refine lv_aload_n hx hb dX6_readsLogs_152 rfl (lv_at hl 0 rfl) ?_
                  refine va_get (D := (dC, dI)) (ci := 6) (v := .int (nI rb)) (C := RX6) (T := TX6) (N := 22) hx hb hts in_X6 hown hK hP 0 rfl rfl 0 (by decide) f99 (fun _ h9 => h9) rfl dX6_readsLogs_153 ?_
                  refine x_icmp_ge (tgt := 210) hx hb dX6_readsLogs_156 (by decide) (by omega) (by omega) (fun c156 => ?_) (fun c156 => ?_)
                  · have e8 : d' = (rlW rf fF fB (rlG rb rd fF fB rf 64 (rn, rk, rv, rl, lB, lR, rx)).2.2.2.1 (rlG rb rd fF fB rf 64 (rn, rk, rv, rl, lB, lR, rx)).2.2.2.2.1 (rb - 2) 2 rd) := by have h := i151_2; rw [show rb - z = 0 by omega, rlW] at h; exact h
                    have h9 : wM b cB cI cL rb d' rq rQ rw ra ro ((rlG rb rd fF fB rf 64 (rn, rk, rv, rl, lB, lR, rx)).1) ((rlG rb rd fF fB rf 64 (rn, rk, rv, rl, lB, lR, rx)).2.1) ((rlG rb rd fF fB rf 64 (rn, rk, rv, rl, lB, lR, rx)).2.2.1) rf fN fF fB fR ((rlG rb rd fF fB rf 64 (rn, rk, rv, rl, lB, lR, rx)).2.2.2.1) ((rlG rb rd fF fB rf 64 (rn, rk, rv, rl, lB, lR, rx)).2.2.2.2.1) ((rlG rb rd fF fB rf 64 (rn, rk, rv, rl, lB, lR, rx)).2.2.2.2.2.1) rt rg ((rlG rb rd fF fB rf 64 (rn, rk, rv, rl, lB, lR, rx)).2.2.2.2.2.2) rz = wM b cB cI cL rb (rlW rf fF fB (rlG rb rd fF fB rf 64 (rn, rk, rv, rl, lB, lR, rx)).2.2.2.1 (rlG rb rd fF fB rf 64 (rn, rk, rv, rl, lB, lR, rx)).2.2.2.2.1 (rb - 2) 2 rd) rq rQ rw ra ro ((rlG rb rd fF fB rf 64 (rn, rk, rv, rl, lB, lR, rx)).1) ((rlG rb rd fF fB rf 64 (rn, rk, rv, rl, lB, lR, rx)).2.1) ((rlG rb rd fF fB rf 64 (rn, rk, rv, rl, lB, lR, rx)).2.2.1) rf fN fF fB fR ((rlG rb rd fF fB rf 64 (rn, rk, rv, rl, lB, lR, rx)).2.2.2.1) ((rlG rb rd fF fB rf 64 (rn, rk, rv, rl, lB, lR, rx)).2.2.2.2.1) ((rlG rb rd fF fB rf 64 (rn, rk, rv, rl, lB, lR, rx)).2.2.2.2.2.1) rt rg ((rlG rb rd fF fB rf 64 (rn, rk, rv, rl, lB, lR, rx)).2.2.2.2.2.2) rz := by rw [← e8]
                    have hP := x_wP h9 hP
                    have hD := x_wD h9 hD
                    exact hret dX6_readsLogs_210 hP hD hS
                  · refine lv_aload_n hx hb dX6_readsLogs_159 rfl (lv_at hl 0 rfl) ?_
                    refine lv_iload_n hx hb dX6_readsLogs_160 rfl (lv_at hl 1 rfl) ?_
                    refine x_calli (va_runV (As := [.int (nI z)]) (rest := []) ⟨hx, hb, hml, hown, hts⟩ (c_M_useOf (by omega) hfF hfB (by omega) hlz z (by omega)) (cwV 1 hts (tbV tw_682 tw_684 tw_62 tw_91 tw_685) rfl rfl rfl (by decide +kernel) ⟨Nat.le_of_ble_eq_true rfl, Nat.le_of_ble_eq_true rfl⟩) ⟨y_blind, va_recv hK hP (ci := 6) (q0 := 0) rfl rfl, y_pre hK hP hD⟩ rfl rfl hl.1 rfl (lv_room (Nat.le_of_ble_eq_true rfl)) dX6_readsLogs_161 ⟨Nat.zero_le _, Nat.zero_le _⟩) hS (fun H locs hP hD hS => ?_)
                    have hP : va_P (dC, dI) vwCl (wM b cB cI cL rb d' rq rQ rw ra ro ((rlG rb rd fF fB rf 64 (rn, rk, rv, rl, lB, lR, rx)).1) ((rlG rb rd fF fB rf 64 (rn, rk, rv, rl, lB, lR, rx)).2.1) ((rlG rb rd fF fB rf 64 (rn, rk, rv, rl, lB, lR, rx)).2.2.1) rf fN fF fB fR ((rlG rb rd fF fB rf 64 (rn, rk, rv, rl, lB, lR, rx)).2.2.2.1) ((rlG rb rd fF fB rf 64 (rn, rk, rv, rl, lB, lR, rx)).2.2.2.2.1) ((rlG rb rd fF fB rf 64 (rn, rk, rv, rl, lB, lR, rx)).2.2.2.2.2.1) rt rg ((rlG rb rd fF fB rf 64 (rn, rk, rv, rl, lB, lR, rx)).2.2.2.2.2.2) rz) H := hP
                    have hD : va_D A (wM b cB cI cL rb d' rq rQ rw ra ro ((rlG rb rd fF fB rf 64 (rn, rk, rv, rl, lB, lR, rx)).1) ((rlG rb rd fF fB rf 64 (rn, rk, rv, rl, lB, lR, rx)).2.1) ((rlG rb rd fF fB rf 64 (rn, rk, rv, rl, lB, lR, rx)).2.2.1) rf fN fF fB fR ((rlG rb rd fF fB rf 64 (rn, rk, rv, rl, lB, lR, rx)).2.2.2.1) ((rlG rb rd fF fB rf 64 (rn, rk, rv, rl, lB, lR, rx)).2.2.2.2.1) ((rlG rb rd fF fB rf 64 (rn, rk, rv, rl, lB, lR, rx)).2.2.2.2.2.1) rt rg ((rlG rb rd fF fB rf 64 (rn, rk, rv, rl, lB, lR, rx)).2.2.2.2.2.2) rz) := hD
                    have hv161 : usM rf fF fB ((rlG rb rd fF fB rf 64 (rn, rk, rv, rl, lB, lR, rx)).2.2.2.1) ((rlG rb rd fF fB rf 64 (rn, rk, rv, rl, lB, lR, rx)).2.2.2.2.1) z < 4 := usM_lt
                    refine x_if_ne (tgt := 204) hx hb dX6_readsLogs_164 (by decide) (by omega) (fun c164 => ?_) (fun c164 => ?_)
                    · refine lv_iinc (v := nI (z + 1)) (lv' := [(2, .int (nI (z + 1))), (0, .ref (b 0))]) hx hb dX6_readsLogs_204 hl (k := 1) rfl (x_inc _) (by decide) rfl (fun ls hl => ?_)
                      refine lv_goto (tgt := 151) hx hb dX6_readsLogs_207 (by decide) ?_
                      exact ih151 (z + 1) d' (by omega) (by omega) (by first | exact i151_1 | exact wz_lt i151_1) (by have h := i151_2; rw [show rb - z = (rb - (z + 1)) + 1 by omega, rlW] at h; first | (have hh : usM rf fF fB (rlG rb rd fF fB rf 64 (rn, rk, rv, rl, lB, lR, rx)).2.2.2.1 (rlG rb rd fF fB rf 64 (rn, rk, rv, rl, lB, lR, rx)).2.2.2.2.1 z = 0 ∧ ilM d' fF fB rf z = true := ⟨c164, c172⟩; rw [if_pos hh] at h; exact h) | (have hh : ¬ (usM rf fF fB (rlG rb rd fF fB rf 64 (rn, rk, rv, rl, lB, lR, rx)).2.2.2.1 (rlG rb rd fF fB rf 64 (rn, rk, rv, rl, lB, lR, rx)).2.2.2.2.1 z = 0 ∧ ilM d' fF fB rf z = true) := (by first | exact fun q => c164 q.1 | exact fun q => absurd (c172.symm.trans q.2) (by decide)); rw [if_neg hh] at h; exact h)) _ _ hP hD hS ls (lv_sub hl [1, 0] rfl)
                    · refine lv_aload_n hx hb dX6_readsLogs_167 rfl (lv_at hl 0 rfl) ?_
                      refine lv_iload_n hx hb dX6_readsLogs_168 rfl (lv_at hl 1 rfl) ?_
                      refine x_calli (va_runV (As := [.int (nI z)]) (rest := []) ⟨hx, hb, hml, hown, hts⟩ (c_M_isLog i151_1 (by omega) hfF hfB z (by omega)) (cwV 1 hts (tbV tw_789 tw_791 tw_81 tw_91 tw_792) rfl rfl rfl (by decide +kernel) ⟨Nat.le_of_ble_eq_true rfl, Nat.le_of_ble_eq_true rfl⟩) ⟨y_blind, va_recv hK hP (ci := 6) (q0 := 0) rfl rfl, y_pre hK hP hD⟩ rfl rfl hl.1 rfl (lv_room (Nat.le_of_ble_eq_true rfl)) dX6_readsLogs_169 ⟨Nat.zero_le _, Nat.zero_le _⟩) hS (fun H locs hP hD hS => ?_)
                      have hP : va_P (dC, dI) vwCl (wM b cB cI cL rb d' rq rQ rw ra ro ((rlG rb rd fF fB rf 64 (rn, rk, rv, rl, lB, lR, rx)).1) ((rlG rb rd fF fB rf 64 (rn, rk, rv, rl, lB, lR, rx)).2.1) ((rlG rb rd fF fB rf 64 (rn, rk, rv, rl, lB, lR, rx)).2.2.1) rf fN fF fB fR ((rlG rb rd fF fB rf 64 (rn, rk, rv, rl, lB, lR, rx)).2.2.2.1) ((rlG rb rd fF fB rf 64 (rn, rk, rv, rl, lB, lR, rx)).2.2.2.2.1) ((rlG rb rd fF fB rf 64 (rn, rk, rv, rl, lB, lR, rx)).2.2.2.2.2.1) rt rg ((rlG rb rd fF fB rf 64 (rn, rk, rv, rl, lB, lR, rx)).2.2.2.2.2.2) rz) H := hP
                      have hD : va_D A (wM b cB cI cL rb d' rq rQ rw ra ro ((rlG rb rd fF fB rf 64 (rn, rk, rv, rl, lB, lR, rx)).1) ((rlG rb rd fF fB rf 64 (rn, rk, rv, rl, lB, lR, rx)).2.1) ((rlG rb rd fF fB rf 64 (rn, rk, rv, rl, lB, lR, rx)).2.2.1) rf fN fF fB fR ((rlG rb rd fF fB rf 64 (rn, rk, rv, rl, lB, lR, rx)).2.2.2.1) ((rlG rb rd fF fB rf 64 (rn, rk, rv, rl, lB, lR, rx)).2.2.2.2.1) ((rlG rb rd fF fB rf 64 (rn, rk, rv, rl, lB, lR, rx)).2.2.2.2.2.1) rt rg ((rlG rb rd fF fB rf 64 (rn, rk, rv, rl, lB, lR, rx)).2.2.2.2.2.2) rz) := hD
                      refine x_if_ne_b (tgt := 178) hx hb dX6_readsLogs_172 (by decide) (fun c172 => ?_) (fun c172 => ?_)
                      · refine lv_iconst (v := nI 0) hx hb dX6_readsLogs_178 (by decide) ?_
                        refine lv_istore_n (lv' := [(3, .int (nI 0)), (0, .ref (b 0)), (2, .int (nI z))]) hx hb dX6_readsLogs_179 rfl hl (by decide) rfl (fun ls hl => ?_)
                        have L180 : ∀ (fu180 : Nat) (j : Nat) (e' : Nat → Nat), (64 - j < fu180) → (j ≤ 64) → (wz (64 - j) e' (64 * z + j) = wz 64 d' (64 * z)) → ∀ (H : Heap) (locs : List Loc), va_P (dC, dI) vwCl (wM b cB cI cL rb e' rq rQ rw ra ro ((rlG rb rd fF fB rf 64 (rn, rk, rv, rl, lB, lR, rx)).1) ((rlG rb rd fF fB rf 64 (rn, rk, rv, rl, lB, lR, rx)).2.1) ((rlG rb rd fF fB rf 64 (rn, rk, rv, rl, lB, lR, rx)).2.2.1) rf fN fF fB fR ((rlG rb rd fF fB rf 64 (rn, rk, rv, rl, lB, lR, rx)).2.2.2.1) ((rlG rb rd fF fB rf 64 (rn, rk, rv, rl, lB, lR, rx)).2.2.2.2.1) ((rlG rb rd fF fB rf 64 (rn, rk, rv, rl, lB, lR, rx)).2.2.2.2.2.1) rt rg ((rlG rb rd fF fB rf 64 (rn, rk, rv, rl, lB, lR, rx)).2.2.2.2.2.2) rz) H → va_D A (wM b cB cI cL rb e' rq rQ rw ra ro ((rlG rb rd fF fB rf 64 (rn, rk, rv, rl, lB, lR, rx)).1) ((rlG rb rd fF fB rf 64 (rn, rk, rv, rl, lB, lR, rx)).2.1) ((rlG rb rd fF fB rf 64 (rn, rk, rv, rl, lB, lR, rx)).2.2.1) rf fN fF fB fR ((rlG rb rd fF fB rf 64 (rn, rk, rv, rl, lB, lR, rx)).2.2.2.1) ((rlG rb rd fF fB rf 64 (rn, rk, rv, rl, lB, lR, rx)).2.2.2.2.1) ((rlG rb rd fF fB rf 64 (rn, rk, rv, rl, lB, lR, rx)).2.2.2.2.2.1) rt rg ((rlG rb rd fF fB rf 64 (rn, rk, rv, rl, lB, lR, rx)).2.2.2.2.2.2) rz) → va_S A s.heap H locs → ∀ (ls : Array Slot), lv_has ls 4 [(0, .ref (b 0)), (2, .int (nI z)), (3, .int (nI j))] → W p l e { frames := 3, cells := 0, slots := 0, locals := 67 } s m args below meth c H locs 0 0 Q (F0 m 180 ls []) := by
                          intro fu180
                          induction fu180 with
                          | zero => intro j e' hm; exact absurd hm (Nat.not_lt_zero _)
                          | succ fu180 ih180 =>
                            intro j e' hm i180_0 i180_1 H locs hP hD hS ls hl
                            refine lv_iload_n hx hb dX6_readsLogs_180 rfl (lv_at hl 2 rfl) ?_
                            refine lv_bipush (v := nI 64) hx hb dX6_readsLogs_181 (by decide) ?_
                            refine x_icmp_ge (tgt := 204) hx hb dX6_readsLogs_183 (by decide) (by omega) (by omega) (fun c183 => ?_) (fun c183 => ?_)
                            · refine lv_iinc (v := nI (z + 1)) (lv' := [(2, .int (nI (z + 1))), (0, .ref (b 0)), (3, .int (nI j))]) hx hb dX6_readsLogs_204 hl (k := 1) rfl (x_inc _) (by decide) rfl (fun ls hl => ?_)
                              refine lv_goto (tgt := 151) hx hb dX6_readsLogs_207 (by decide) ?_
                              have e9 : e' = (wz 64 d' (64 * z)) := by have h := i180_1; rw [show 64 - j = 0 by omega, wz] at h; exact h
                              exact ih151 (z + 1) (wz 64 d' (64 * z)) (by omega) (by omega) (by first | exact i151_1 | exact wz_lt i151_1) (by have h := i151_2; rw [show rb - z = (rb - (z + 1)) + 1 by omega, rlW] at h; first | (have hh : usM rf fF fB (rlG rb rd fF fB rf 64 (rn, rk, rv, rl, lB, lR, rx)).2.2.2.1 (rlG rb rd fF fB rf 64 (rn, rk, rv, rl, lB, lR, rx)).2.2.2.2.1 z = 0 ∧ ilM d' fF fB rf z = true := ⟨c164, c172⟩; rw [if_pos hh] at h; exact h) | (have hh : ¬ (usM rf fF fB (rlG rb rd fF fB rf 64 (rn, rk, rv, rl, lB, lR, rx)).2.2.2.1 (rlG rb rd fF fB rf 64 (rn, rk, rv, rl, lB, lR, rx)).2.2.2.2.1 z = 0 ∧ ilM d' fF fB rf z = true) := (by first | exact fun q => c164 q.1 | exact fun q => absurd (c172.symm.trans q.2) (by decide)); rw [if_neg hh] at h; exact h)) _ _ (x_wP (by rw [← e9]) hP) (x_wD (by rw [← e9]) hD) hS ls (lv_sub hl [1, 0] rfl)
                            · refine lv_aload_n hx hb dX6_readsLogs_186 rfl (lv_at hl 0 rfl) ?_
                              refine va_get (D := (dC, dI)) (ci := 6) (v := .ref (b 1)) (C := RX6) (T := TX6) (N := 22) hx hb hts in_X6 hown hK hP 0 rfl rfl 1 (by decide) f7 (fun _ h9 => h9) rfl dX6_readsLogs_187 ?_
                              refine lv_bipush (v := nI 64) hx hb dX6_readsLogs_190 (by decide) ?_
                              refine lv_iload_n hx hb dX6_readsLogs_192 rfl (lv_at hl 1 rfl) ?_
                              refine x_imul hx hb dX6_readsLogs_193 ?_
                              refine lv_iload_n hx hb dX6_readsLogs_194 rfl (lv_at hl 2 rfl) ?_
                              refine x_iadd hx hb dX6_readsLogs_195 ?_
                              refine lv_iconst (v := nI 0) hx hb dX6_readsLogs_196 (by decide) ?_
                              refine x_top (y := sb_b 0) (rfl) ?_
                              refine x_bast hx hb hK hP hD hS 1 0 rfl rfl (by omega) (by decide) dX6_readsLogs_197 (fun H locs hP hD hS => ?_)
                              have hP : va_P (dC, dI) vwCl (wM b cB cI cL rb (va_up e' ((64 * z) + j) 0) rq rQ rw ra ro ((rlG rb rd fF fB rf 64 (rn, rk, rv, rl, lB, lR, rx)).1) ((rlG rb rd fF fB rf 64 (rn, rk, rv, rl, lB, lR, rx)).2.1) ((rlG rb rd fF fB rf 64 (rn, rk, rv, rl, lB, lR, rx)).2.2.1) rf fN fF fB fR ((rlG rb rd fF fB rf 64 (rn, rk, rv, rl, lB, lR, rx)).2.2.2.1) ((rlG rb rd fF fB rf 64 (rn, rk, rv, rl, lB, lR, rx)).2.2.2.2.1) ((rlG rb rd fF fB rf 64 (rn, rk, rv, rl, lB, lR, rx)).2.2.2.2.2.1) rt rg ((rlG rb rd fF fB rf 64 (rn, rk, rv, rl, lB, lR, rx)).2.2.2.2.2.2) rz) H := hP
                              have hD : va_D A (wM b cB cI cL rb (va_up e' ((64 * z) + j) 0) rq rQ rw ra ro ((rlG rb rd fF fB rf 64 (rn, rk, rv, rl, lB, lR, rx)).1) ((rlG rb rd fF fB rf 64 (rn, rk, rv, rl, lB, lR, rx)).2.1) ((rlG rb rd fF fB rf 64 (rn, rk, rv, rl, lB, lR, rx)).2.2.1) rf fN fF fB fR ((rlG rb rd fF fB rf 64 (rn, rk, rv, rl, lB, lR, rx)).2.2.2.1) ((rlG rb rd fF fB rf 64 (rn, rk, rv, rl, lB, lR, rx)).2.2.2.2.1) ((rlG rb rd fF fB rf 64 (rn, rk, rv, rl, lB, lR, rx)).2.2.2.2.2.1) rt rg ((rlG rb rd fF fB rf 64 (rn, rk, rv, rl, lB, lR, rx)).2.2.2.2.2.2) rz) := hD
                              refine lv_iinc (v := nI (j + 1)) (lv' := [(3, .int (nI (j + 1))), (0, .ref (b 0)), (2, .int (nI z))]) hx hb dX6_readsLogs_198 hl (k := 2) rfl (x_inc _) (by decide) rfl (fun ls hl => ?_)
                              refine lv_goto (tgt := 180) hx hb dX6_readsLogs_201 (by decide) ?_
                              exact ih180 (j + 1) (va_up e' ((64 * z) + j) 0) (by omega) (by omega) (by have h := i180_1; rw [show 64 - j = (64 - (j + 1)) + 1 by omega, wz] at h; exact h) _ _ hP hD hS ls (lv_sub hl [1, 2, 0] rfl)
                        exact L180 (64 - 0 + 1) 0 d' (by omega) (by omega) (by rfl) _ _ hP hD hS ls (lv_sub hl [1, 2, 0] rfl)
                      · refine lv_goto (tgt := 204) hx hb dX6_readsLogs_175 (by decide) ?_
                        refine lv_iinc (v := nI (z + 1)) (lv' := [(2, .int (nI (z + 1))), (0, .ref (b 0))]) hx hb dX6_readsLogs_204 hl (k := 1) rfl (x_inc _) (by decide) rfl (fun ls hl => ?_)
                        refine lv_goto (tgt := 151) hx hb dX6_readsLogs_207 (by decide) ?_
                        exact ih151 (z + 1) d' (by omega) (by omega) (by first | exact i151_1 | exact wz_lt i151_1) (by have h := i151_2; rw [show rb - z = (rb - (z + 1)) + 1 by omega, rlW] at h; first | (have hh : usM rf fF fB (rlG rb rd fF fB rf 64 (rn, rk, rv, rl, lB, lR, rx)).2.2.2.1 (rlG rb rd fF fB rf 64 (rn, rk, rv, rl, lB, lR, rx)).2.2.2.2.1 z = 0 ∧ ilM d' fF fB rf z = true := ⟨c164, c172⟩; rw [if_pos hh] at h; exact h) | (have hh : ¬ (usM rf fF fB (rlG rb rd fF fB rf 64 (rn, rk, rv, rl, lB, lR, rx)).2.2.2.1 (rlG rb rd fF fB rf 64 (rn, rk, rv, rl, lB, lR, rx)).2.2.2.2.1 z = 0 ∧ ilM d' fF fB rf z = true) := (by first | exact fun q => c164 q.1 | exact fun q => absurd (c172.symm.trans q.2) (by decide)); rw [if_neg hh] at h; exact h)) _ _ hP hD hS ls (lv_sub hl [1, 0] rfl)
              exact L151 (rb - 2 + 1) 2 rd (by omega) (by omega) (by exact hrd) (by rfl) _ _ hP hD hS ls (lv_sub hl [1, 0] rfl)
          · refine lv_iload_n hx hb dX6_readsLogs_18 rfl (lv_at hl 1 rfl) ?_
            refine lv_if_ge (tgt := 83) hx hb dX6_readsLogs_19 (by decide) (fun c19 => ?_) (fun c19 => ?_)
            · have hFL : fl rb rd fF fB rf LS'.2.2.2.2.2.2 (rb - 2) 2 = o := (by obtain ⟨c, ho⟩ := oJ_some c19; subst ho; exact i10_1.symm)
              refine lv_iload_n hx hb dX6_readsLogs_83 rfl (lv_at hl 1 rfl) ?_
              refine lv_if_ge (tgt := 90) hx hb dX6_readsLogs_84 (by decide) (fun c84 => ?_) (fun c84 => ?_)
              · obtain ⟨yf, ho⟩ := oJ_some c84
                subst ho
                have hfd := fl_d hFL
                have hkd := lgK_step (n := rd (64 * yf + 1)) hfd
                have q1 := hrd (64 * yf + 1)
                have hl : lv_has ls 4 [(0, .ref (b 0)), (1, .int (nI yf)), (2, .int (nI y))] := hl
                refine lv_aload_n hx hb dX6_readsLogs_90 rfl (lv_at hl 0 rfl) ?_
                refine va_get (D := (dC, dI)) (ci := 6) (v := .ref (b 1)) (C := RX6) (T := TX6) (N := 22) hx hb hts in_X6 hown hK hP 0 rfl rfl 1 (by decide) f7 (fun _ h9 => h9) rfl dX6_readsLogs_91 ?_
                refine lv_bipush (v := nI 64) hx hb dX6_readsLogs_94 (by decide) ?_
                refine lv_iload_n hx hb dX6_readsLogs_96 rfl (lv_at hl 1 rfl) ?_
                refine x_imul hx hb dX6_readsLogs_97 ?_
                refine lv_iconst (v := nI 1) hx hb dX6_readsLogs_98 (by decide) ?_
                refine x_iadd hx hb dX6_readsLogs_99 ?_
                refine x_bald hx hb hK hP 1 0 rfl rfl (by omega) (by decide) dX6_readsLogs_100 ?_
                refine x_top (y := nI (rd (64 * yf + 1))) (sb_small (by omega)) ?_
                refine lv_istore_n (lv' := [(2, .int (nI (rd (64 * yf + 1)))), (0, .ref (b 0)), (1, .int (nI yf))]) hx hb dX6_readsLogs_101 rfl hl (by decide) rfl (fun ls hl => ?_)
                refine lv_aload_n hx hb dX6_readsLogs_102 rfl (lv_at hl 1 rfl) ?_
                refine lv_iload_n hx hb dX6_readsLogs_103 rfl (lv_at hl 2 rfl) ?_
                refine lv_iload_n hx hb dX6_readsLogs_104 rfl (lv_at hl 0 rfl) ?_
                refine x_callv (va_runV (As := [.int (nI yf), .int (nI (rd (64 * yf + 1)))]) (rest := []) ⟨hx, hb, hml, hown, hts⟩ (c_M_reads hrd yf (rd (64 * yf + 1)) (by omega) (by omega) (by omega)) (cwV 2 hts (tbV tw_781 tw_783 tw_79 tw_91 tw_784) rfl rfl rfl (by decide +kernel) ⟨Nat.le_of_ble_eq_true rfl, Nat.le_of_ble_eq_true rfl⟩) ⟨y_blind, va_recv hK hP (ci := 6) (q0 := 0) rfl rfl, y_pre hK hP hD⟩ rfl rfl hl.1 rfl (lv_room (Nat.le_of_ble_eq_true rfl)) dX6_readsLogs_105 ⟨Nat.zero_le _, Nat.zero_le _⟩) hS (fun H locs hP hD hS => ?_)
                have hP : va_P (dC, dI) vwCl (wM b cB cI cL rb rd rq rQ rw ra ro ((rds rd yf (rd (64 * yf + 1)) 0 (LS'.1, LS'.2.1, LS'.2.2.1)).1) ((rds rd yf (rd (64 * yf + 1)) 0 (LS'.1, LS'.2.1, LS'.2.2.1)).2.1) ((rds rd yf (rd (64 * yf + 1)) 0 (LS'.1, LS'.2.1, LS'.2.2.1)).2.2) rf fN fF fB fR LS'.2.2.2.1 LS'.2.2.2.2.1 LS'.2.2.2.2.2.1 rt rg LS'.2.2.2.2.2.2 rz) H := hP
                have hD : va_D A (wM b cB cI cL rb rd rq rQ rw ra ro ((rds rd yf (rd (64 * yf + 1)) 0 (LS'.1, LS'.2.1, LS'.2.2.1)).1) ((rds rd yf (rd (64 * yf + 1)) 0 (LS'.1, LS'.2.1, LS'.2.2.1)).2.1) ((rds rd yf (rd (64 * yf + 1)) 0 (LS'.1, LS'.2.1, LS'.2.2.1)).2.2) rf fN fF fB fR LS'.2.2.2.1 LS'.2.2.2.2.1 LS'.2.2.2.2.2.1 rt rg LS'.2.2.2.2.2.2 rz) := hD
                refine lv_aload_n hx hb dX6_readsLogs_108 rfl (lv_at hl 1 rfl) ?_
                refine va_get (D := (dC, dI)) (ci := 6) (v := .ref (b 10)) (C := RX6) (T := TX6) (N := 22) hx hb hts in_X6 hown hK hP 0 rfl rfl 16 (by decide) f39 (fun _ h9 => h9) rfl dX6_readsLogs_109 ?_
                refine lv_aload_n hx hb dX6_readsLogs_112 rfl (lv_at hl 1 rfl) ?_
                refine va_get (D := (dC, dI)) (ci := 6) (v := .int (nI LS'.2.2.2.1)) (C := RX6) (T := TX6) (N := 22) hx hb hts in_X6 hown hK hP 0 rfl rfl 15 (by decide) f77 (fun _ h9 => h9) rfl dX6_readsLogs_113 ?_
                refine lv_iload_n hx hb dX6_readsLogs_116 rfl (lv_at hl 2 rfl) ?_
                refine x_iast hx hb hK hP hD hS 10 1 rfl rfl (by omega) (by decide) dX6_readsLogs_117 (fun H locs hP hD hS => ?_)
                have hP : va_P (dC, dI) vwCl (wM b cB cI cL rb rd rq rQ rw ra ro ((rds rd yf (rd (64 * yf + 1)) 0 (LS'.1, LS'.2.1, LS'.2.2.1)).1) ((rds rd yf (rd (64 * yf + 1)) 0 (LS'.1, LS'.2.1, LS'.2.2.1)).2.1) ((rds rd yf (rd (64 * yf + 1)) 0 (LS'.1, LS'.2.1, LS'.2.2.1)).2.2) rf fN fF fB fR LS'.2.2.2.1 (va_up LS'.2.2.2.2.1 LS'.2.2.2.1 yf) LS'.2.2.2.2.2.1 rt rg LS'.2.2.2.2.2.2 rz) H := hP
                have hD : va_D A (wM b cB cI cL rb rd rq rQ rw ra ro ((rds rd yf (rd (64 * yf + 1)) 0 (LS'.1, LS'.2.1, LS'.2.2.1)).1) ((rds rd yf (rd (64 * yf + 1)) 0 (LS'.1, LS'.2.1, LS'.2.2.1)).2.1) ((rds rd yf (rd (64 * yf + 1)) 0 (LS'.1, LS'.2.1, LS'.2.2.1)).2.2) rf fN fF fB fR LS'.2.2.2.1 (va_up LS'.2.2.2.2.1 LS'.2.2.2.1 yf) LS'.2.2.2.2.2.1 rt rg LS'.2.2.2.2.2.2 rz) := hD
                refine lv_aload_n hx hb dX6_readsLogs_118 rfl (lv_at hl 1 rfl) ?_
                refine va_get (D := (dC, dI)) (ci := 6) (v := .ref (b 11)) (C := RX6) (T := TX6) (N := 22) hx hb hts in_X6 hown hK hP 0 rfl rfl 17 (by decide) f42 (fun _ h9 => h9) rfl dX6_readsLogs_119 ?_
                refine lv_aload_n hx hb dX6_readsLogs_122 rfl (lv_at hl 1 rfl) ?_
                refine lv_dup hx hb dX6_readsLogs_123 rfl ?_
                refine va_get (D := (dC, dI)) (ci := 6) (v := .int (nI LS'.2.2.2.1)) (C := RX6) (T := TX6) (N := 22) hx hb hts in_X6 hown hK hP 0 rfl rfl 15 (by decide) f77 (fun _ h9 => h9) rfl dX6_readsLogs_124 ?_
                refine lv_dup_x1 hx hb dX6_readsLogs_127 rfl rfl ?_
                refine lv_iconst (v := nI 1) hx hb dX6_readsLogs_128 (by decide) ?_
                refine x_iadd hx hb dX6_readsLogs_129 ?_
                refine va_put (D := (dC, dI)) (ci := 6) (v := .int (nI (LS'.2.2.2.1 + 1))) (ty := .int) (C := RX6) (T := TX6) (N := 22) hx hb hts in_X6 tyX6 tyX6_ok nmX6 hown hK hP hD hS 0 rfl rfl 15 (by decide) f77 (fun _ h9 => h9) rfl (by decide +kernel) rfl rfl (Nat.le_of_ble_eq_true rfl) dX6_readsLogs_130 (fun H locs hP hD hS => ?_)
                have hP : va_P (dC, dI) vwCl (wM b cB cI cL rb rd rq rQ rw ra ro ((rds rd yf (rd (64 * yf + 1)) 0 (LS'.1, LS'.2.1, LS'.2.2.1)).1) ((rds rd yf (rd (64 * yf + 1)) 0 (LS'.1, LS'.2.1, LS'.2.2.1)).2.1) ((rds rd yf (rd (64 * yf + 1)) 0 (LS'.1, LS'.2.1, LS'.2.2.1)).2.2) rf fN fF fB fR (LS'.2.2.2.1 + 1) (va_up LS'.2.2.2.2.1 LS'.2.2.2.1 yf) LS'.2.2.2.2.2.1 rt rg LS'.2.2.2.2.2.2 rz) H := hP
                have hD : va_D A (wM b cB cI cL rb rd rq rQ rw ra ro ((rds rd yf (rd (64 * yf + 1)) 0 (LS'.1, LS'.2.1, LS'.2.2.1)).1) ((rds rd yf (rd (64 * yf + 1)) 0 (LS'.1, LS'.2.1, LS'.2.2.1)).2.1) ((rds rd yf (rd (64 * yf + 1)) 0 (LS'.1, LS'.2.1, LS'.2.2.1)).2.2) rf fN fF fB fR (LS'.2.2.2.1 + 1) (va_up LS'.2.2.2.2.1 LS'.2.2.2.1 yf) LS'.2.2.2.2.2.1 rt rg LS'.2.2.2.2.2.2 rz) := hD
                refine lv_iload_n hx hb dX6_readsLogs_133 rfl (lv_at hl 0 rfl) ?_
                refine x_iast hx hb hK hP hD hS 11 1 rfl rfl (by omega) (by decide) dX6_readsLogs_134 (fun H locs hP hD hS => ?_)
                have hP : va_P (dC, dI) vwCl (wM b cB cI cL rb rd rq rQ rw ra ro ((rds rd yf (rd (64 * yf + 1)) 0 (LS'.1, LS'.2.1, LS'.2.2.1)).1) ((rds rd yf (rd (64 * yf + 1)) 0 (LS'.1, LS'.2.1, LS'.2.2.1)).2.1) ((rds rd yf (rd (64 * yf + 1)) 0 (LS'.1, LS'.2.1, LS'.2.2.1)).2.2) rf fN fF fB fR (LS'.2.2.2.1 + 1) (va_up LS'.2.2.2.2.1 LS'.2.2.2.1 yf) (va_up LS'.2.2.2.2.2.1 LS'.2.2.2.1 (rd (64 * yf + 1))) rt rg LS'.2.2.2.2.2.2 rz) H := hP
                have hD : va_D A (wM b cB cI cL rb rd rq rQ rw ra ro ((rds rd yf (rd (64 * yf + 1)) 0 (LS'.1, LS'.2.1, LS'.2.2.1)).1) ((rds rd yf (rd (64 * yf + 1)) 0 (LS'.1, LS'.2.1, LS'.2.2.1)).2.1) ((rds rd yf (rd (64 * yf + 1)) 0 (LS'.1, LS'.2.1, LS'.2.2.1)).2.2) rf fN fF fB fR (LS'.2.2.2.1 + 1) (va_up LS'.2.2.2.2.1 LS'.2.2.2.1 yf) (va_up LS'.2.2.2.2.2.1 LS'.2.2.2.1 (rd (64 * yf + 1))) rt rg LS'.2.2.2.2.2.2 rz) := hD
                refine lv_aload_n hx hb dX6_readsLogs_135 rfl (lv_at hl 1 rfl) ?_
                refine lv_dup hx hb dX6_readsLogs_136 rfl ?_
                refine va_get (D := (dC, dI)) (ci := 6) (v := .long (lN LS'.2.2.2.2.2.2)) (C := RX6) (T := TX6) (N := 22) hx hb hts in_X6 hown hK hP 0 rfl rfl 20 (by decide) f87 (fun _ h9 => h9) rfl dX6_readsLogs_137 ?_
                refine lv_iload_n hx hb dX6_readsLogs_140 rfl (lv_at hl 0 rfl) ?_
                refine lv_i2l (v := lN (rd (64 * yf + 1))) hx hb dX6_readsLogs_141 (nI_l (by omega)) ?_
                refine lv_ladd hx hb dX6_readsLogs_142 ?_
                refine x_topl (y := lN (LS'.2.2.2.2.2.2 + rd (64 * yf + 1))) (lN_add _ _) ?_
                refine va_put (D := (dC, dI)) (ci := 6) (v := .long (lN (LS'.2.2.2.2.2.2 + rd (64 * yf + 1)))) (ty := .long) (C := RX6) (T := TX6) (N := 22) hx hb hts in_X6 tyX6 tyX6_ok nmX6 hown hK hP hD hS 0 rfl rfl 20 (by decide) f87 (fun _ h9 => h9) rfl (by decide +kernel) rfl rfl (Nat.le_of_ble_eq_true rfl) dX6_readsLogs_143 (fun H locs hP hD hS => ?_)
                have hP : va_P (dC, dI) vwCl (wM b cB cI cL rb rd rq rQ rw ra ro ((rds rd yf (rd (64 * yf + 1)) 0 (LS'.1, LS'.2.1, LS'.2.2.1)).1) ((rds rd yf (rd (64 * yf + 1)) 0 (LS'.1, LS'.2.1, LS'.2.2.1)).2.1) ((rds rd yf (rd (64 * yf + 1)) 0 (LS'.1, LS'.2.1, LS'.2.2.1)).2.2) rf fN fF fB fR (LS'.2.2.2.1 + 1) (va_up LS'.2.2.2.2.1 LS'.2.2.2.1 yf) (va_up LS'.2.2.2.2.2.1 LS'.2.2.2.1 (rd (64 * yf + 1))) rt rg (LS'.2.2.2.2.2.2 + rd (64 * yf + 1)) rz) H := hP
                have hD : va_D A (wM b cB cI cL rb rd rq rQ rw ra ro ((rds rd yf (rd (64 * yf + 1)) 0 (LS'.1, LS'.2.1, LS'.2.2.1)).1) ((rds rd yf (rd (64 * yf + 1)) 0 (LS'.1, LS'.2.1, LS'.2.2.1)).2.1) ((rds rd yf (rd (64 * yf + 1)) 0 (LS'.1, LS'.2.1, LS'.2.2.1)).2.2) rf fN fF fB fR (LS'.2.2.2.1 + 1) (va_up LS'.2.2.2.2.1 LS'.2.2.2.1 yf) (va_up LS'.2.2.2.2.2.1 LS'.2.2.2.1 (rd (64 * yf + 1))) rt rg (LS'.2.2.2.2.2.2 + rd (64 * yf + 1)) rz) := hD
                refine lv_goto (tgt := 2) hx hb dX6_readsLogs_146 (by decide) ?_
                have e10 : ((rds rd yf (rd (64 * yf + 1)) 0 (LS'.1, LS'.2.1, LS'.2.2.1)).1) = ((rlT rd yf LS').1) := by rfl
                have e11 : ((rds rd yf (rd (64 * yf + 1)) 0 (LS'.1, LS'.2.1, LS'.2.2.1)).2.1) = ((rlT rd yf LS').2.1) := by rfl
                have e12 : ((rds rd yf (rd (64 * yf + 1)) 0 (LS'.1, LS'.2.1, LS'.2.2.1)).2.2) = ((rlT rd yf LS').2.2.1) := by rfl
                have e13 : (LS'.2.2.2.1 + 1) = ((rlT rd yf LS').2.2.2.1) := by rfl
                have e14 : (va_up LS'.2.2.2.2.1 LS'.2.2.2.1 yf) = ((rlT rd yf LS').2.2.2.2.1) := by rfl
                have e15 : (va_up LS'.2.2.2.2.2.1 LS'.2.2.2.1 (rd (64 * yf + 1))) = ((rlT rd yf LS').2.2.2.2.2.1) := by rfl
                have e16 : (LS'.2.2.2.2.2.2 + rd (64 * yf + 1)) = ((rlT rd yf LS').2.2.2.2.2.2) := by rfl
                exact ih2 (t - 1) yf (rlT rd yf LS') (by omega) (by omega) (by show (rds rd yf (rd (64 * yf + 1)) 0 (LS'.1, LS'.2.1, LS'.2.2.1)).1 + 3 * lgK rb rd fF fB rf (LS'.2.2.2.2.2.2 + rd (64 * yf + 1)) ≤ 210; rw [rds_n]; omega) (by show LS'.2.2.2.1 + 1 + lgK rb rd fF fB rf (LS'.2.2.2.2.2.2 + rd (64 * yf + 1)) ≤ 62; omega) (by show lgK rb rd fF fB rf (LS'.2.2.2.2.2.2 + rd (64 * yf + 1)) < t - 1; omega) (by show LS'.2.2.2.2.2.2 + rd (64 * yf + 1) + 3 * (t - 1) < 2 ^ 30; omega) (by exact va_up_lt i2_5 (by omega)) (by have h := i2_6; rw [show t = (t - 1) + 1 by omega, rlG, hFL] at h; exact h) _ _ (x_wP (by rw [e10, e11, e12, ← e13, e14, e15, e16]) hP) (x_wD (by rw [e10, e11, e12, ← e13, e14, e15, e16]) hD) hS ls (lv_sub hl [1, 2] rfl)
              · have ho := oJ_neg c84 i10_2
                subst ho
                have zz : LS' = rlG rb rd fF fB rf 64 (rn, rk, rv, rl, lB, lR, rx) := by
                  have h := i2_6
                  rw [show t = (t - 1) + 1 by omega, rlG, hFL] at h
                  exact h
                subst zz
                have hlz := i2_5
                refine lv_goto (tgt := 149) hx hb dX6_readsLogs_87 (by decide) ?_
                refine lv_iconst (v := nI 2) hx hb dX6_readsLogs_149 (by decide) ?_
                refine lv_istore_n (lv' := [(2, .int (nI 2)), (0, .ref (b 0)), (1, .int (oJ none))]) hx hb dX6_readsLogs_150 rfl hl (by decide) rfl (fun ls hl => ?_)
                have L151 : ∀ (fu151 : Nat) (z : Nat) (d' : Nat → Nat), (rb - z < fu151) → (2 ≤ z ∧ z ≤ 66) → (∀ q, d' q < 256) → (rlW rf fF fB (rlG rb rd fF fB rf 64 (rn, rk, rv, rl, lB, lR, rx)).2.2.2.1 (rlG rb rd fF fB rf 64 (rn, rk, rv, rl, lB, lR, rx)).2.2.2.2.1 (rb - z) z d' = rlW rf fF fB (rlG rb rd fF fB rf 64 (rn, rk, rv, rl, lB, lR, rx)).2.2.2.1 (rlG rb rd fF fB rf 64 (rn, rk, rv, rl, lB, lR, rx)).2.2.2.2.1 (rb - 2) 2 rd) → ∀ (H : Heap) (locs : List Loc), va_P (dC, dI) vwCl (wM b cB cI cL rb d' rq rQ rw ra ro ((rlG rb rd fF fB rf 64 (rn, rk, rv, rl, lB, lR, rx)).1) ((rlG rb rd fF fB rf 64 (rn, rk, rv, rl, lB, lR, rx)).2.1) ((rlG rb rd fF fB rf 64 (rn, rk, rv, rl, lB, lR, rx)).2.2.1) rf fN fF fB fR ((rlG rb rd fF fB rf 64 (rn, rk, rv, rl, lB, lR, rx)).2.2.2.1) ((rlG rb rd fF fB rf 64 (rn, rk, rv, rl, lB, lR, rx)).2.2.2.2.1) ((rlG rb rd fF fB rf 64 (rn, rk, rv, rl, lB, lR, rx)).2.2.2.2.2.1) rt rg ((rlG rb rd fF fB rf 64 (rn, rk, rv, rl, lB, lR, rx)).2.2.2.2.2.2) rz) H → va_D A (wM b cB cI cL rb d' rq rQ rw ra ro ((rlG rb rd fF fB rf 64 (rn, rk, rv, rl, lB, lR, rx)).1) ((rlG rb rd fF fB rf 64 (rn, rk, rv, rl, lB, lR, rx)).2.1) ((rlG rb rd fF fB rf 64 (rn, rk, rv, rl, lB, lR, rx)).2.2.1) rf fN fF fB fR ((rlG rb rd fF fB rf 64 (rn, rk, rv, rl, lB, lR, rx)).2.2.2.1) ((rlG rb rd fF fB rf 64 (rn, rk, rv, rl, lB, lR, rx)).2.2.2.2.1) ((rlG rb rd fF fB rf 64 (rn, rk, rv, rl, lB, lR, rx)).2.2.2.2.2.1) rt rg ((rlG rb rd fF fB rf 64 (rn, rk, rv, rl, lB, lR, rx)).2.2.2.2.2.2) rz) → va_S A s.heap H locs → ∀ (ls : Array Slot), lv_has ls 4 [(0, .ref (b 0)), (2, .int (nI z))] → W p l e { frames := 3, cells := 0, slots := 0, locals := 67 } s m args below meth c H locs 0 0 Q (F0 m 151 ls []) := by
                  intro fu151
                  induction fu151 with
                  | zero => intro z d' hm; exact absurd hm (Nat.not_lt_zero _)
                  | succ fu151 ih151 =>
                    intro z d' hm i151_0 i151_1 i151_2 H locs hP hD hS ls hl
                    refine lv_iload_n hx hb dX6_readsLogs_151 rfl (lv_at hl 1 rfl) ?_
                    refine lv_aload_n hx hb dX6_readsLogs_152 rfl (lv_at hl 0 rfl) ?_
                    refine va_get (D := (dC, dI)) (ci := 6) (v := .int (nI rb)) (C := RX6) (T := TX6) (N := 22) hx hb hts in_X6 hown hK hP 0 rfl rfl 0 (by decide) f99 (fun _ h9 => h9) rfl dX6_readsLogs_153 ?_
                    refine x_icmp_ge (tgt := 210) hx hb dX6_readsLogs_156 (by decide) (by omega) (by omega) (fun c156 => ?_) (fun c156 => ?_)
                    · have e17 : d' = (rlW rf fF fB (rlG rb rd fF fB rf 64 (rn, rk, rv, rl, lB, lR, rx)).2.2.2.1 (rlG rb rd fF fB rf 64 (rn, rk, rv, rl, lB, lR, rx)).2.2.2.2.1 (rb - 2) 2 rd) := by have h := i151_2; rw [show rb - z = 0 by omega, rlW] at h; exact h
                      have h9 : wM b cB cI cL rb d' rq rQ rw ra ro ((rlG rb rd fF fB rf 64 (rn, rk, rv, rl, lB, lR, rx)).1) ((rlG rb rd fF fB rf 64 (rn, rk, rv, rl, lB, lR, rx)).2.1) ((rlG rb rd fF fB rf 64 (rn, rk, rv, rl, lB, lR, rx)).2.2.1) rf fN fF fB fR ((rlG rb rd fF fB rf 64 (rn, rk, rv, rl, lB, lR, rx)).2.2.2.1) ((rlG rb rd fF fB rf 64 (rn, rk, rv, rl, lB, lR, rx)).2.2.2.2.1) ((rlG rb rd fF fB rf 64 (rn, rk, rv, rl, lB, lR, rx)).2.2.2.2.2.1) rt rg ((rlG rb rd fF fB rf 64 (rn, rk, rv, rl, lB, lR, rx)).2.2.2.2.2.2) rz = wM b cB cI cL rb (rlW rf fF fB (rlG rb rd fF fB rf 64 (rn, rk, rv, rl, lB, lR, rx)).2.2.2.1 (rlG rb rd fF fB rf 64 (rn, rk, rv, rl, lB, lR, rx)).2.2.2.2.1 (rb - 2) 2 rd) rq rQ rw ra ro ((rlG rb rd fF fB rf 64 (rn, rk, rv, rl, lB, lR, rx)).1) ((rlG rb rd fF fB rf 64 (rn, rk, rv, rl, lB, lR, rx)).2.1) ((rlG rb rd fF fB rf 64 (rn, rk, rv, rl, lB, lR, rx)).2.2.1) rf fN fF fB fR ((rlG rb rd fF fB rf 64 (rn, rk, rv, rl, lB, lR, rx)).2.2.2.1) ((rlG rb rd fF fB rf 64 (rn, rk, rv, rl, lB, lR, rx)).2.2.2.2.1) ((rlG rb rd fF fB rf 64 (rn, rk, rv, rl, lB, lR, rx)).2.2.2.2.2.1) rt rg ((rlG rb rd fF fB rf 64 (rn, rk, rv, rl, lB, lR, rx)).2.2.2.2.2.2) rz := by rw [← e17]
                      have hP := x_wP h9 hP
                      have hD := x_wD h9 hD
                      exact hret dX6_readsLogs_210 hP hD hS
                    · refine lv_aload_n hx hb dX6_readsLogs_159 rfl (lv_at hl 0 rfl) ?_
                      refine lv_iload_n hx hb dX6_readsLogs_160 rfl (lv_at hl 1 rfl) ?_
                      refine x_calli (va_runV (As := [.int (nI z)]) (rest := []) ⟨hx, hb, hml, hown, hts⟩ (c_M_useOf (by omega) hfF hfB (by omega) hlz z (by omega)) (cwV 1 hts (tbV tw_682 tw_684 tw_62 tw_91 tw_685) rfl rfl rfl (by decide +kernel) ⟨Nat.le_of_ble_eq_true rfl, Nat.le_of_ble_eq_true rfl⟩) ⟨y_blind, va_recv hK hP (ci := 6) (q0 := 0) rfl rfl, y_pre hK hP hD⟩ rfl rfl hl.1 rfl (lv_room (Nat.le_of_ble_eq_true rfl)) dX6_readsLogs_161 ⟨Nat.zero_le _, Nat.zero_le _⟩) hS (fun H locs hP hD hS => ?_)
                      have hP : va_P (dC, dI) vwCl (wM b cB cI cL rb d' rq rQ rw ra ro ((rlG rb rd fF fB rf 64 (rn, rk, rv, rl, lB, lR, rx)).1) ((rlG rb rd fF fB rf 64 (rn, rk, rv, rl, lB, lR, rx)).2.1) ((rlG rb rd fF fB rf 64 (rn, rk, rv, rl, lB, lR, rx)).2.2.1) rf fN fF fB fR ((rlG rb rd fF fB rf 64 (rn, rk, rv, rl, lB, lR, rx)).2.2.2.1) ((rlG rb rd fF fB rf 64 (rn, rk, rv, rl, lB, lR, rx)).2.2.2.2.1) ((rlG rb rd fF fB rf 64 (rn, rk, rv, rl, lB, lR, rx)).2.2.2.2.2.1) rt rg ((rlG rb rd fF fB rf 64 (rn, rk, rv, rl, lB, lR, rx)).2.2.2.2.2.2) rz) H := hP
                      have hD : va_D A (wM b cB cI cL rb d' rq rQ rw ra ro ((rlG rb rd fF fB rf 64 (rn, rk, rv, rl, lB, lR, rx)).1) ((rlG rb rd fF fB rf 64 (rn, rk, rv, rl, lB, lR, rx)).2.1) ((rlG rb rd fF fB rf 64 (rn, rk, rv, rl, lB, lR, rx)).2.2.1) rf fN fF fB fR ((rlG rb rd fF fB rf 64 (rn, rk, rv, rl, lB, lR, rx)).2.2.2.1) ((rlG rb rd fF fB rf 64 (rn, rk, rv, rl, lB, lR, rx)).2.2.2.2.1) ((rlG rb rd fF fB rf 64 (rn, rk, rv, rl, lB, lR, rx)).2.2.2.2.2.1) rt rg ((rlG rb rd fF fB rf 64 (rn, rk, rv, rl, lB, lR, rx)).2.2.2.2.2.2) rz) := hD
                      have hv161 : usM rf fF fB ((rlG rb rd fF fB rf 64 (rn, rk, rv, rl, lB, lR, rx)).2.2.2.1) ((rlG rb rd fF fB rf 64 (rn, rk, rv, rl, lB, lR, rx)).2.2.2.2.1) z < 4 := usM_lt
                      refine x_if_ne (tgt := 204) hx hb dX6_readsLogs_164 (by decide) (by omega) (fun c164 => ?_) (fun c164 => ?_)
                      · refine lv_iinc (v := nI (z + 1)) (lv' := [(2, .int (nI (z + 1))), (0, .ref (b 0))]) hx hb dX6_readsLogs_204 hl (k := 1) rfl (x_inc _) (by decide) rfl (fun ls hl => ?_)
                        refine lv_goto (tgt := 151) hx hb dX6_readsLogs_207 (by decide) ?_
                        exact ih151 (z + 1) d' (by omega) (by omega) (by first | exact i151_1 | exact wz_lt i151_1) (by have h := i151_2; rw [show rb - z = (rb - (z + 1)) + 1 by omega, rlW] at h; first | (have hh : usM rf fF fB (rlG rb rd fF fB rf 64 (rn, rk, rv, rl, lB, lR, rx)).2.2.2.1 (rlG rb rd fF fB rf 64 (rn, rk, rv, rl, lB, lR, rx)).2.2.2.2.1 z = 0 ∧ ilM d' fF fB rf z = true := ⟨c164, c172⟩; rw [if_pos hh] at h; exact h) | (have hh : ¬ (usM rf fF fB (rlG rb rd fF fB rf 64 (rn, rk, rv, rl, lB, lR, rx)).2.2.2.1 (rlG rb rd fF fB rf 64 (rn, rk, rv, rl, lB, lR, rx)).2.2.2.2.1 z = 0 ∧ ilM d' fF fB rf z = true) := (by first | exact fun q => c164 q.1 | exact fun q => absurd (c172.symm.trans q.2) (by decide)); rw [if_neg hh] at h; exact h)) _ _ hP hD hS ls (lv_sub hl [1, 0] rfl)
                      · refine lv_aload_n hx hb dX6_readsLogs_167 rfl (lv_at hl 0 rfl) ?_
                        refine lv_iload_n hx hb dX6_readsLogs_168 rfl (lv_at hl 1 rfl) ?_
                        refine x_calli (va_runV (As := [.int (nI z)]) (rest := []) ⟨hx, hb, hml, hown, hts⟩ (c_M_isLog i151_1 (by omega) hfF hfB z (by omega)) (cwV 1 hts (tbV tw_789 tw_791 tw_81 tw_91 tw_792) rfl rfl rfl (by decide +kernel) ⟨Nat.le_of_ble_eq_true rfl, Nat.le_of_ble_eq_true rfl⟩) ⟨y_blind, va_recv hK hP (ci := 6) (q0 := 0) rfl rfl, y_pre hK hP hD⟩ rfl rfl hl.1 rfl (lv_room (Nat.le_of_ble_eq_true rfl)) dX6_readsLogs_169 ⟨Nat.zero_le _, Nat.zero_le _⟩) hS (fun H locs hP hD hS => ?_)
                        have hP : va_P (dC, dI) vwCl (wM b cB cI cL rb d' rq rQ rw ra ro ((rlG rb rd fF fB rf 64 (rn, rk, rv, rl, lB, lR, rx)).1) ((rlG rb rd fF fB rf 64 (rn, rk, rv, rl, lB, lR, rx)).2.1) ((rlG rb rd fF fB rf 64 (rn, rk, rv, rl, lB, lR, rx)).2.2.1) rf fN fF fB fR ((rlG rb rd fF fB rf 64 (rn, rk, rv, rl, lB, lR, rx)).2.2.2.1) ((rlG rb rd fF fB rf 64 (rn, rk, rv, rl, lB, lR, rx)).2.2.2.2.1) ((rlG rb rd fF fB rf 64 (rn, rk, rv, rl, lB, lR, rx)).2.2.2.2.2.1) rt rg ((rlG rb rd fF fB rf 64 (rn, rk, rv, rl, lB, lR, rx)).2.2.2.2.2.2) rz) H := hP
                        have hD : va_D A (wM b cB cI cL rb d' rq rQ rw ra ro ((rlG rb rd fF fB rf 64 (rn, rk, rv, rl, lB, lR, rx)).1) ((rlG rb rd fF fB rf 64 (rn, rk, rv, rl, lB, lR, rx)).2.1) ((rlG rb rd fF fB rf 64 (rn, rk, rv, rl, lB, lR, rx)).2.2.1) rf fN fF fB fR ((rlG rb rd fF fB rf 64 (rn, rk, rv, rl, lB, lR, rx)).2.2.2.1) ((rlG rb rd fF fB rf 64 (rn, rk, rv, rl, lB, lR, rx)).2.2.2.2.1) ((rlG rb rd fF fB rf 64 (rn, rk, rv, rl, lB, lR, rx)).2.2.2.2.2.1) rt rg ((rlG rb rd fF fB rf 64 (rn, rk, rv, rl, lB, lR, rx)).2.2.2.2.2.2) rz) := hD
                        refine x_if_ne_b (tgt := 178) hx hb dX6_readsLogs_172 (by decide) (fun c172 => ?_) (fun c172 => ?_)
                        · refine lv_iconst (v := nI 0) hx hb dX6_readsLogs_178 (by decide) ?_
                          refine lv_istore_n (lv' := [(3, .int (nI 0)), (0, .ref (b 0)), (2, .int (nI z))]) hx hb dX6_readsLogs_179 rfl hl (by decide) rfl (fun ls hl => ?_)
                          have L180 : ∀ (fu180 : Nat) (j : Nat) (e' : Nat → Nat), (64 - j < fu180) → (j ≤ 64) → (wz (64 - j) e' (64 * z + j) = wz 64 d' (64 * z)) → ∀ (H : Heap) (locs : List Loc), va_P (dC, dI) vwCl (wM b cB cI cL rb e' rq rQ rw ra ro ((rlG rb rd fF fB rf 64 (rn, rk, rv, rl, lB, lR, rx)).1) ((rlG rb rd fF fB rf 64 (rn, rk, rv, rl, lB, lR, rx)).2.1) ((rlG rb rd fF fB rf 64 (rn, rk, rv, rl, lB, lR, rx)).2.2.1) rf fN fF fB fR ((rlG rb rd fF fB rf 64 (rn, rk, rv, rl, lB, lR, rx)).2.2.2.1) ((rlG rb rd fF fB rf 64 (rn, rk, rv, rl, lB, lR, rx)).2.2.2.2.1) ((rlG rb rd fF fB rf 64 (rn, rk, rv, rl, lB, lR, rx)).2.2.2.2.2.1) rt rg ((rlG rb rd fF fB rf 64 (rn, rk, rv, rl, lB, lR, rx)).2.2.2.2.2.2) rz) H → va_D A (wM b cB cI cL rb e' rq rQ rw ra ro ((rlG rb rd fF fB rf 64 (rn, rk, rv, rl, lB, lR, rx)).1) ((rlG rb rd fF fB rf 64 (rn, rk, rv, rl, lB, lR, rx)).2.1) ((rlG rb rd fF fB rf 64 (rn, rk, rv, rl, lB, lR, rx)).2.2.1) rf fN fF fB fR ((rlG rb rd fF fB rf 64 (rn, rk, rv, rl, lB, lR, rx)).2.2.2.1) ((rlG rb rd fF fB rf 64 (rn, rk, rv, rl, lB, lR, rx)).2.2.2.2.1) ((rlG rb rd fF fB rf 64 (rn, rk, rv, rl, lB, lR, rx)).2.2.2.2.2.1) rt rg ((rlG rb rd fF fB rf 64 (rn, rk, rv, rl, lB, lR, rx)).2.2.2.2.2.2) rz) → va_S A s.heap H locs → ∀ (ls : Array Slot), lv_has ls 4 [(0, .ref (b 0)), (2, .int (nI z)), (3, .int (nI j))] → W p l e { frames := 3, cells := 0, slots := 0, locals := 67 } s m args below meth c H locs 0 0 Q (F0 m 180 ls []) := by
                            intro fu180
                            induction fu180 with
                            | zero => intro j e' hm; exact absurd hm (Nat.not_lt_zero _)
                            | succ fu180 ih180 =>
                              intro j e' hm i180_0 i180_1 H locs hP hD hS ls hl
                              refine lv_iload_n hx hb dX6_readsLogs_180 rfl (lv_at hl 2 rfl) ?_
                              refine lv_bipush (v := nI 64) hx hb dX6_readsLogs_181 (by decide) ?_
                              refine x_icmp_ge (tgt := 204) hx hb dX6_readsLogs_183 (by decide) (by omega) (by omega) (fun c183 => ?_) (fun c183 => ?_)
                              · refine lv_iinc (v := nI (z + 1)) (lv' := [(2, .int (nI (z + 1))), (0, .ref (b 0)), (3, .int (nI j))]) hx hb dX6_readsLogs_204 hl (k := 1) rfl (x_inc _) (by decide) rfl (fun ls hl => ?_)
                                refine lv_goto (tgt := 151) hx hb dX6_readsLogs_207 (by decide) ?_
                                have e18 : e' = (wz 64 d' (64 * z)) := by have h := i180_1; rw [show 64 - j = 0 by omega, wz] at h; exact h
                                exact ih151 (z + 1) (wz 64 d' (64 * z)) (by omega) (by omega) (by first | exact i151_1 | exact wz_lt i151_1) (by have h := i151_2; rw [show rb - z = (rb - (z + 1)) + 1 by omega, rlW] at h; first | (have hh : usM rf fF fB (rlG rb rd fF fB rf 64 (rn, rk, rv, rl, lB, lR, rx)).2.2.2.1 (rlG rb rd fF fB rf 64 (rn, rk, rv, rl, lB, lR, rx)).2.2.2.2.1 z = 0 ∧ ilM d' fF fB rf z = true := ⟨c164, c172⟩; rw [if_pos hh] at h; exact h) | (have hh : ¬ (usM rf fF fB (rlG rb rd fF fB rf 64 (rn, rk, rv, rl, lB, lR, rx)).2.2.2.1 (rlG rb rd fF fB rf 64 (rn, rk, rv, rl, lB, lR, rx)).2.2.2.2.1 z = 0 ∧ ilM d' fF fB rf z = true) := (by first | exact fun q => c164 q.1 | exact fun q => absurd (c172.symm.trans q.2) (by decide)); rw [if_neg hh] at h; exact h)) _ _ (x_wP (by rw [← e18]) hP) (x_wD (by rw [← e18]) hD) hS ls (lv_sub hl [1, 0] rfl)
                              · refine lv_aload_n hx hb dX6_readsLogs_186 rfl (lv_at hl 0 rfl) ?_
                                refine va_get (D := (dC, dI)) (ci := 6) (v := .ref (b 1)) (C := RX6) (T := TX6) (N := 22) hx hb hts in_X6 hown hK hP 0 rfl rfl 1 (by decide) f7 (fun _ h9 => h9) rfl dX6_readsLogs_187 ?_
                                refine lv_bipush (v := nI 64) hx hb dX6_readsLogs_190 (by decide) ?_
                                refine lv_iload_n hx hb dX6_readsLogs_192 rfl (lv_at hl 1 rfl) ?_
                                refine x_imul hx hb dX6_readsLogs_193 ?_
                                refine lv_iload_n hx hb dX6_readsLogs_194 rfl (lv_at hl 2 rfl) ?_
                                refine x_iadd hx hb dX6_readsLogs_195 ?_
                                refine lv_iconst (v := nI 0) hx hb dX6_readsLogs_196 (by decide) ?_
                                refine x_top (y := sb_b 0) (rfl) ?_
                                refine x_bast hx hb hK hP hD hS 1 0 rfl rfl (by omega) (by decide) dX6_readsLogs_197 (fun H locs hP hD hS => ?_)
                                have hP : va_P (dC, dI) vwCl (wM b cB cI cL rb (va_up e' ((64 * z) + j) 0) rq rQ rw ra ro ((rlG rb rd fF fB rf 64 (rn, rk, rv, rl, lB, lR, rx)).1) ((rlG rb rd fF fB rf 64 (rn, rk, rv, rl, lB, lR, rx)).2.1) ((rlG rb rd fF fB rf 64 (rn, rk, rv, rl, lB, lR, rx)).2.2.1) rf fN fF fB fR ((rlG rb rd fF fB rf 64 (rn, rk, rv, rl, lB, lR, rx)).2.2.2.1) ((rlG rb rd fF fB rf 64 (rn, rk, rv, rl, lB, lR, rx)).2.2.2.2.1) ((rlG rb rd fF fB rf 64 (rn, rk, rv, rl, lB, lR, rx)).2.2.2.2.2.1) rt rg ((rlG rb rd fF fB rf 64 (rn, rk, rv, rl, lB, lR, rx)).2.2.2.2.2.2) rz) H := hP
                                have hD : va_D A (wM b cB cI cL rb (va_up e' ((64 * z) + j) 0) rq rQ rw ra ro ((rlG rb rd fF fB rf 64 (rn, rk, rv, rl, lB, lR, rx)).1) ((rlG rb rd fF fB rf 64 (rn, rk, rv, rl, lB, lR, rx)).2.1) ((rlG rb rd fF fB rf 64 (rn, rk, rv, rl, lB, lR, rx)).2.2.1) rf fN fF fB fR ((rlG rb rd fF fB rf 64 (rn, rk, rv, rl, lB, lR, rx)).2.2.2.1) ((rlG rb rd fF fB rf 64 (rn, rk, rv, rl, lB, lR, rx)).2.2.2.2.1) ((rlG rb rd fF fB rf 64 (rn, rk, rv, rl, lB, lR, rx)).2.2.2.2.2.1) rt rg ((rlG rb rd fF fB rf 64 (rn, rk, rv, rl, lB, lR, rx)).2.2.2.2.2.2) rz) := hD
                                refine lv_iinc (v := nI (j + 1)) (lv' := [(3, .int (nI (j + 1))), (0, .ref (b 0)), (2, .int (nI z))]) hx hb dX6_readsLogs_198 hl (k := 2) rfl (x_inc _) (by decide) rfl (fun ls hl => ?_)
                                refine lv_goto (tgt := 180) hx hb dX6_readsLogs_201 (by decide) ?_
                                exact ih180 (j + 1) (va_up e' ((64 * z) + j) 0) (by omega) (by omega) (by have h := i180_1; rw [show 64 - j = (64 - (j + 1)) + 1 by omega, wz] at h; exact h) _ _ hP hD hS ls (lv_sub hl [1, 2, 0] rfl)
                          exact L180 (64 - 0 + 1) 0 d' (by omega) (by omega) (by rfl) _ _ hP hD hS ls (lv_sub hl [1, 2, 0] rfl)
                        · refine lv_goto (tgt := 204) hx hb dX6_readsLogs_175 (by decide) ?_
                          refine lv_iinc (v := nI (z + 1)) (lv' := [(2, .int (nI (z + 1))), (0, .ref (b 0))]) hx hb dX6_readsLogs_204 hl (k := 1) rfl (x_inc _) (by decide) rfl (fun ls hl => ?_)
                          refine lv_goto (tgt := 151) hx hb dX6_readsLogs_207 (by decide) ?_
                          exact ih151 (z + 1) d' (by omega) (by omega) (by first | exact i151_1 | exact wz_lt i151_1) (by have h := i151_2; rw [show rb - z = (rb - (z + 1)) + 1 by omega, rlW] at h; first | (have hh : usM rf fF fB (rlG rb rd fF fB rf 64 (rn, rk, rv, rl, lB, lR, rx)).2.2.2.1 (rlG rb rd fF fB rf 64 (rn, rk, rv, rl, lB, lR, rx)).2.2.2.2.1 z = 0 ∧ ilM d' fF fB rf z = true := ⟨c164, c172⟩; rw [if_pos hh] at h; exact h) | (have hh : ¬ (usM rf fF fB (rlG rb rd fF fB rf 64 (rn, rk, rv, rl, lB, lR, rx)).2.2.2.1 (rlG rb rd fF fB rf 64 (rn, rk, rv, rl, lB, lR, rx)).2.2.2.2.1 z = 0 ∧ ilM d' fF fB rf z = true) := (by first | exact fun q => c164 q.1 | exact fun q => absurd (c172.symm.trans q.2) (by decide)); rw [if_neg hh] at h; exact h)) _ _ hP hD hS ls (lv_sub hl [1, 0] rfl)
                exact L151 (rb - 2 + 1) 2 rd (by omega) (by omega) (by exact hrd) (by rfl) _ _ hP hD hS ls (lv_sub hl [1, 0] rfl)
            · have ho := oJ_neg c19 i10_2
              subst ho
              refine lv_aload_n hx hb dX6_readsLogs_22 rfl (lv_at hl 0 rfl) ?_
              refine lv_iload_n hx hb dX6_readsLogs_23 rfl (lv_at hl 2 rfl) ?_
              refine x_calli (va_runV (As := [.int (nI y)]) (rest := []) ⟨hx, hb, hml, hown, hts⟩ (c_M_isLog hrd (by omega) hfF hfB y (by omega)) (cwV 1 hts (tbV tw_789 tw_791 tw_81 tw_91 tw_792) rfl rfl rfl (by decide +kernel) ⟨Nat.le_of_ble_eq_true rfl, Nat.le_of_ble_eq_true rfl⟩) ⟨y_blind, va_recv hK hP (ci := 6) (q0 := 0) rfl rfl, y_pre hK hP hD⟩ rfl rfl hl.1 rfl (lv_room (Nat.le_of_ble_eq_true rfl)) dX6_readsLogs_24 ⟨Nat.zero_le _, Nat.zero_le _⟩) hS (fun H locs hP hD hS => ?_)
              have hP : va_P (dC, dI) vwCl (wM b cB cI cL rb rd rq rQ rw ra ro LS'.1 LS'.2.1 LS'.2.2.1 rf fN fF fB fR LS'.2.2.2.1 LS'.2.2.2.2.1 LS'.2.2.2.2.2.1 rt rg LS'.2.2.2.2.2.2 rz) H := hP
              have hD : va_D A (wM b cB cI cL rb rd rq rQ rw ra ro LS'.1 LS'.2.1 LS'.2.2.1 rf fN fF fB fR LS'.2.2.2.1 LS'.2.2.2.2.1 LS'.2.2.2.2.2.1 rt rg LS'.2.2.2.2.2.2 rz) := hD
              refine x_if_eq_b (tgt := 77) hx hb dX6_readsLogs_27 (by decide) (fun c27 => ?_) (fun c27 => ?_)
              · refine lv_iinc (v := nI (y + 1)) (lv' := [(2, .int (nI (y + 1))), (0, .ref (b 0)), (1, .int (oJ none))]) hx hb dX6_readsLogs_77 hl (k := 2) rfl (x_inc _) (by decide) rfl (fun ls hl => ?_)
                refine lv_goto (tgt := 10) hx hb dX6_readsLogs_80 (by decide) ?_
                exact ih10 (y + 1) none (by omega) (by omega) (by have h := i10_1; rw [show rb - y = (rb - (y + 1)) + 1 by omega] at h; first | exact (fo_hit ⟨c27, c49, c72⟩ h) | exact (fo_miss (fun q => absurd (c27.symm.trans q.1) (by decide)) h) | exact (fo_miss (fun q => c49 q.2.1) h) | exact (fo_miss (fun q => c72 q.2.2) h)) (by first | exact (fun c h => (Option.some.inj h) ▸ (show y < 2 ^ 31 by omega)) | exact (fun c h => by cases h)) _ _ hP hD hS ls (lv_sub hl [1, 2, 0] rfl)
              · refine lv_aload_n hx hb dX6_readsLogs_30 rfl (lv_at hl 0 rfl) ?_
                refine va_get (D := (dC, dI)) (ci := 6) (v := .ref (b 1)) (C := RX6) (T := TX6) (N := 22) hx hb hts in_X6 hown hK hP 0 rfl rfl 1 (by decide) f7 (fun _ h9 => h9) rfl dX6_readsLogs_31 ?_
                refine lv_bipush (v := nI 64) hx hb dX6_readsLogs_34 (by decide) ?_
                refine lv_iload_n hx hb dX6_readsLogs_36 rfl (lv_at hl 2 rfl) ?_
                refine x_imul hx hb dX6_readsLogs_37 ?_
                refine lv_iconst (v := nI 1) hx hb dX6_readsLogs_38 (by decide) ?_
                refine x_iadd hx hb dX6_readsLogs_39 ?_
                refine x_bald hx hb hK hP 1 0 rfl rfl (by omega) (by decide) dX6_readsLogs_40 ?_
                refine lv_i2l hx hb dX6_readsLogs_41 rfl ?_
                refine lv_lconst (v := lN 1) hx hb dX6_readsLogs_42 rfl ?_
                refine lv_ldc2 (v := lN 3) hx hb hown (hts _ (List.mem_cons_of_mem _ tw_743)) dX6_readsLogs_43 ?_
                refine x_calli (va_runS (As := [.long ((sb_b (rd ((64 * y) + 1))).toInt64), .long (lN 1), .long (lN 3)]) (rest := []) ⟨hx, hb, hml, hown, hts⟩ (c_M_isIn ((sb_b (rd ((64 * y) + 1))).toInt64) (lN 1) (lN 3)) (va_cwS 3 hts (tbS tw_599 tw_600 tw_91 tw_601) rfl rfl rfl (by decide +kernel) ⟨Nat.le_of_ble_eq_true rfl, Nat.le_of_ble_eq_true rfl⟩) ⟨y_blind, y_pre hK hP hD⟩ rfl rfl hl.1 rfl (lv_room (Nat.le_of_ble_eq_true rfl)) dX6_readsLogs_46 ⟨Nat.zero_le _, Nat.zero_le _⟩) hS (fun H locs hP hD hS => ?_)
                have hP : va_P (dC, dI) vwCl (wM b cB cI cL rb rd rq rQ rw ra ro LS'.1 LS'.2.1 LS'.2.2.1 rf fN fF fB fR LS'.2.2.2.1 LS'.2.2.2.2.1 LS'.2.2.2.2.2.1 rt rg LS'.2.2.2.2.2.2 rz) H := hP
                have hD : va_D A (wM b cB cI cL rb rd rq rQ rw ra ro LS'.1 LS'.2.1 LS'.2.2.1 rf fN fF fB fR LS'.2.2.2.1 LS'.2.2.2.2.1 LS'.2.2.2.2.2.1 rt rg LS'.2.2.2.2.2.2 rz) := hD
                refine x_if_eq_b (tgt := 77) hx hb dX6_readsLogs_49 (by decide) (fun c49 => ?_) (fun c49 => ?_)
                · rw [sb_isI q1 (by decide) (by decide)] at c49
                  have c49 := of_decide_eq_false c49
                  refine lv_iinc (v := nI (y + 1)) (lv' := [(2, .int (nI (y + 1))), (0, .ref (b 0)), (1, .int (oJ none))]) hx hb dX6_readsLogs_77 hl (k := 2) rfl (x_inc _) (by decide) rfl (fun ls hl => ?_)
                  refine lv_goto (tgt := 10) hx hb dX6_readsLogs_80 (by decide) ?_
                  exact ih10 (y + 1) none (by omega) (by omega) (by have h := i10_1; rw [show rb - y = (rb - (y + 1)) + 1 by omega] at h; first | exact (fo_hit ⟨c27, c49, c72⟩ h) | exact (fo_miss (fun q => absurd (c27.symm.trans q.1) (by decide)) h) | exact (fo_miss (fun q => c49 q.2.1) h) | exact (fo_miss (fun q => c72 q.2.2) h)) (by first | exact (fun c h => (Option.some.inj h) ▸ (show y < 2 ^ 31 by omega)) | exact (fun c h => by cases h)) _ _ hP hD hS ls (lv_sub hl [1, 2, 0] rfl)
                · rw [sb_isI q1 (by decide) (by decide)] at c49
                  have c49 := of_decide_eq_true c49
                  refine lv_aload_n hx hb dX6_readsLogs_52 rfl (lv_at hl 0 rfl) ?_
                  refine va_get (D := (dC, dI)) (ci := 6) (v := .ref (b 1)) (C := RX6) (T := TX6) (N := 22) hx hb hts in_X6 hown hK hP 0 rfl rfl 1 (by decide) f7 (fun _ h9 => h9) rfl dX6_readsLogs_53 ?_
                  refine lv_bipush (v := nI 64) hx hb dX6_readsLogs_56 (by decide) ?_
                  refine lv_iload_n hx hb dX6_readsLogs_58 rfl (lv_at hl 2 rfl) ?_
                  refine x_imul hx hb dX6_readsLogs_59 ?_
                  refine lv_iconst (v := nI 2) hx hb dX6_readsLogs_60 (by decide) ?_
                  refine x_iadd hx hb dX6_readsLogs_61 ?_
                  refine lv_bipush (v := nI 6) hx hb dX6_readsLogs_62 (by decide) ?_
                  refine x_calll (va_runS (As := [.ref (b 1), .int (nI ((64 * y) + 2)), .int (nI 6)]) (rest := []) ⟨hx, hb, hml, hown, hts⟩ (c_M_number (k1 := 1) (t1 := 0) (g := rd) rfl (tyS_B cB cI cL) (by decide) hrd ((64 * y) + 2) 6 (by omega) (by omega)) (va_cwS 3 hts (tbS tw_760 tw_761 tw_91 tw_762) rfl rfl rfl (by decide +kernel) ⟨Nat.le_of_ble_eq_true rfl, Nat.le_of_ble_eq_true rfl⟩) ⟨y_blind, y_pre hK hP hD⟩ rfl rfl hl.1 rfl (lv_room (Nat.le_of_ble_eq_true rfl)) dX6_readsLogs_64 ⟨Nat.zero_le _, Nat.zero_le _⟩) hS (fun H locs hP hD hS => ?_)
                  have hP : va_P (dC, dI) vwCl (wM b cB cI cL rb rd rq rQ rw ra ro LS'.1 LS'.2.1 LS'.2.2.1 rf fN fF fB fR LS'.2.2.2.1 LS'.2.2.2.2.1 LS'.2.2.2.2.2.1 rt rg LS'.2.2.2.2.2.2 rz) H := hP
                  have hD : va_D A (wM b cB cI cL rb rd rq rQ rw ra ro LS'.1 LS'.2.1 LS'.2.2.1 rf fN fF fB fR LS'.2.2.2.1 LS'.2.2.2.2.1 LS'.2.2.2.2.2.1 rt rg LS'.2.2.2.2.2.2 rz) := hD
                  have hv64 : nm1 rd 6 ((64 * y) + 2) < 281474976710656 := nm1_lt hrd 6 ((64 * y) + 2)
                  refine lv_aload_n hx hb dX6_readsLogs_67 rfl (lv_at hl 0 rfl) ?_
                  refine va_get (D := (dC, dI)) (ci := 6) (v := .long (lN LS'.2.2.2.2.2.2)) (C := RX6) (T := TX6) (N := 22) hx hb hts in_X6 hown hK hP 0 rfl rfl 20 (by decide) f87 (fun _ h9 => h9) rfl dX6_readsLogs_68 ?_
                  refine W.lcmp hx hb dX6_readsLogs_71 ?_
                  refine x_lif_ne (tgt := 77) hx hb dX6_readsLogs_72 (by decide) (fun c72 => ?_) (fun c72 => ?_)
                  · have c72 : ¬ nm1 rd 6 (64 * y + 2) = LS'.2.2.2.2.2.2 := fun q => c72 (by rw [q])
                    refine lv_iinc (v := nI (y + 1)) (lv' := [(2, .int (nI (y + 1))), (0, .ref (b 0)), (1, .int (oJ none))]) hx hb dX6_readsLogs_77 hl (k := 2) rfl (x_inc _) (by decide) rfl (fun ls hl => ?_)
                    refine lv_goto (tgt := 10) hx hb dX6_readsLogs_80 (by decide) ?_
                    exact ih10 (y + 1) none (by omega) (by omega) (by have h := i10_1; rw [show rb - y = (rb - (y + 1)) + 1 by omega] at h; first | exact (fo_hit ⟨c27, c49, c72⟩ h) | exact (fo_miss (fun q => absurd (c27.symm.trans q.1) (by decide)) h) | exact (fo_miss (fun q => c49 q.2.1) h) | exact (fo_miss (fun q => c72 q.2.2) h)) (by first | exact (fun c h => (Option.some.inj h) ▸ (show y < 2 ^ 31 by omega)) | exact (fun c h => by cases h)) _ _ hP hD hS ls (lv_sub hl [1, 2, 0] rfl)
                  · have c72 : nm1 rd 6 (64 * y + 2) = LS'.2.2.2.2.2.2 := lN_inj (by omega) (by omega) c72
                    refine lv_iload_n hx hb dX6_readsLogs_75 rfl (lv_at hl 2 rfl) ?_
                    refine lv_istore_n (lv' := [(1, .int (nI y)), (0, .ref (b 0)), (2, .int (nI y))]) hx hb dX6_readsLogs_76 rfl hl (by decide) rfl (fun ls hl => ?_)
                    refine lv_iinc (v := nI (y + 1)) (lv' := [(2, .int (nI (y + 1))), (1, .int (nI y)), (0, .ref (b 0))]) hx hb dX6_readsLogs_77 hl (k := 2) rfl (x_inc _) (by decide) rfl (fun ls hl => ?_)
                    refine lv_goto (tgt := 10) hx hb dX6_readsLogs_80 (by decide) ?_
                    have e19 : (nI y) = (oJ (some y)) := by rfl
                    exact ih10 (y + 1) (some y) (by omega) (by omega) (by have h := i10_1; rw [show rb - y = (rb - (y + 1)) + 1 by omega] at h; first | exact (fo_hit ⟨c27, c49, c72⟩ h) | exact (fo_miss (fun q => absurd (c27.symm.trans q.1) (by decide)) h) | exact (fo_miss (fun q => c49 q.2.1) h) | exact (fo_miss (fun q => c72 q.2.2) h)) (by first | exact (fun c h => (Option.some.inj h) ▸ (show y < 2 ^ 31 by omega)) | exact (fun c h => by cases h)) _ _ hP hD hS ls (x_lvc (l1 := [(0, .ref (b 0)), (1, .int (nI y)), (2, .int (nI (y + 1)))]) (by rw [← e19]) (lv_sub hl [2, 1, 0] rfl))
      have e20 : (-1) = (oJ none) := by rfl
      exact L10 (rb - 2 + 1) 2 none (by omega) (by omega) (by rfl) (by exact fun c h => by cases h) _ _ hP hD hS ls (x_lvc (l1 := [(0, .ref (b 0)), (1, .int ((-1))), (2, .int (nI 2))]) (by rw [← e20]) (lv_sub hl [2, 1, 0] rfl))
  have e21 : rn = ((rn, rk, rv, rl, lB, lR, rx).1) := by rfl
  have e22 : rk = ((rn, rk, rv, rl, lB, lR, rx).2.1) := by rfl
  have e23 : rv = ((rn, rk, rv, rl, lB, lR, rx).2.2.1) := by rfl
  have e24 : rl = ((rn, rk, rv, rl, lB, lR, rx).2.2.2.1) := by rfl
  have e25 : lB = ((rn, rk, rv, rl, lB, lR, rx).2.2.2.2.1) := by rfl
  have e26 : lR = ((rn, rk, rv, rl, lB, lR, rx).2.2.2.2.2.1) := by rfl
  have e27 : rx = ((rn, rk, rv, rl, lB, lR, rx).2.2.2.2.2.2) := by rfl
  exact L2 (64 + 1) 64 0 (rn, rk, rv, rl, lB, lR, rx) (by omega) (by omega) (by exact hk1) (by exact hk2) (by exact lgK_64 hrb) (by exact hx1) (by exact hlB) (by rfl) _ _ (x_wP (by rw [← e21, ← e22, ← e23, ← e24, ← e25, ← e26, ← e27]) hP) (x_wD (by rw [← e21, ← e22, ← e23, ← e24, ← e25, ← e26, ← e27]) hD) hS ls (lv_sub hl [1, 0] rfl)
