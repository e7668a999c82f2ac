set_option maxHeartbeats 4000000 in
set_option maxRecDepth 100000 in
theorem c_M_isIn {l : Launch} {dC : Nat → ClassId} {dI : Nat → Nat → Nat} {A : Nat → Prop} {tys : List (ClassId × FieldType)} {ws : va_W} (v x y : Int64) : Met l yX6_isIn (Cond.code yX6_isIn cX6_isIn 6 (some .boolean) :: TB) { frames := 0, cells := 0, slots := 0, locals := 0 } (xPre (fun _ => True) (dC, dI) A tys (ws) [.long (v), .long (x), .long (y)]) (xQi (dC, dI) A (bI (isI v x y)) (ws)) 0 0 A := by
  refine x_ofWz (cc := cX6_isIn) (maxL := 6) (by decide) rfl (Nat.le_of_ble_eq_true rfl) (x_narZ _) ?_
  intro p e s m args below meth c Q hx hb hml hts hown hK hN hP hD hS hret ls hl
  have hl : lv_has ls 6 [(0, .long (v)), (2, .long (x)), (4, .long (y))] := hl
  have hown : s.vm.findClass RX6 = some m.cls := hown
  refine lv_lload_n hx hb dX6_isIn_0 rfl (lv_at hl 0 rfl) ?_
  refine lv_lload_n hx hb dX6_isIn_1 rfl (lv_at hl 1 rfl) ?_
  refine W.lcmp hx hb dX6_isIn_2 ?_
  refine x_lif_lt (tgt := 17) hx hb dX6_isIn_3 (by decide) (fun c3 => ?_) (fun c3 => ?_)
  · refine lv_iconst (v := nI 0) hx hb dX6_isIn_17 (by decide) ?_
    exact hret dX6_isIn_18 (by first | exact isI_t c3 c10 | exact isI_f (by first | exact Or.inl c3 | exact Or.inr c10)) hP hD hS
  · refine lv_lload_n hx hb dX6_isIn_6 rfl (lv_at hl 0 rfl) ?_
    refine lv_lload hx hb dX6_isIn_7 (lv_at hl 2 rfl) ?_
    refine W.lcmp hx hb dX6_isIn_9 ?_
    refine x_lif_gt (tgt := 17) hx hb dX6_isIn_10 (by decide) (fun c10 => ?_) (fun c10 => ?_)
    · refine lv_iconst (v := nI 0) hx hb dX6_isIn_17 (by decide) ?_
      exact hret dX6_isIn_18 (by first | exact isI_t c3 c10 | exact isI_f (by first | exact Or.inl c3 | exact Or.inr c10)) hP hD hS
    · refine lv_iconst (v := nI 1) hx hb dX6_isIn_13 (by decide) ?_
      refine lv_goto (tgt := 18) hx hb dX6_isIn_14 (by decide) ?_
      exact hret dX6_isIn_18 (by first | exact isI_t c3 c10 | exact isI_f (by first | exact Or.inl c3 | exact Or.inr c10)) hP hD hS

set_option maxHeartbeats 4000000 in
set_option maxRecDepth 100000 in
theorem c_M_isInN {l : Launch} {dC : Nat → ClassId} {dI : Nat → Nat → Nat} {A : Nat → Prop} {tys : List (ClassId × FieldType)} {ws : va_W} (v x y : Nat) (hv : v < 2 ^ 63) (hx : x < 2 ^ 63) (hy : y < 2 ^ 63) : Met l yX6_isIn (Cond.code yX6_isIn cX6_isIn 6 (some .boolean) :: TB) { frames := 0, cells := 0, slots := 0, locals := 0 } (xPre (fun _ => True) (dC, dI) A tys ws [.long (lN v), .long (lN x), .long (lN y)]) (xQi (dC, dI) A (bI (decide (x ≤ v ∧ v ≤ y))) ws) 0 0 A := by
  have h := c_M_isIn (l := l) (dC := dC) (dI := dI) (A := A) (tys := tys) (ws := ws) (lN v) (lN x) (lN y)
  rw [isI_N hv hx hy] at h
  exact h

set_option maxHeartbeats 4000000 in
set_option maxRecDepth 100000 in
theorem c_M_sumOf {l : Launch} {dC : Nat → ClassId} {dI : Nat → Nat → Nat} {A : Nat → Prop} {tys : List (ClassId × FieldType)} {ws : va_W} {k1 t1 a1 len : Nat} {cB : ClassId} {g : Nat → Nat} (hW : ws[k1]? = some (a1, .inl (cB, len, .inl (fun j => sb_b (g j))))) (ht : tys[t1]? = some (cB, .byte)) (hlen : len < 2 ^ 31) (hg : ∀ j, g j < 256) (f d : Nat) (hf1 : f + 56 ≤ len) (hd1 : d < 2 ^ 31) : Met l yX6_sumOf (Cond.code yX6_sumOf cX6_sumOf 6 (some .long) :: TB) { frames := 0, cells := 0, slots := 0, locals := 0 } (xPre (fun _ => True) (dC, dI) A tys (ws) [.ref a1, .int (nI f), .int (nI d)]) (xQl (dC, dI) A (sm1 g f d) (ws)) 0 0 A := by
  refine x_ofWl (cc := cX6_sumOf) (maxL := 6) (by decide) rfl (Nat.le_of_ble_eq_true rfl) ?_
  intro p e s m args below meth c Q hx hb hml hts hown hK hN hP hD hS hret ls hl
  have hl : lv_has ls 6 [(0, .ref a1), (1, .int (nI f)), (2, .int (nI d))] := hl
  have hown : s.vm.findClass RX6 = some m.cls := hown
  obtain ⟨Rz, hRz⟩ : ∃ z, z = sm1 g f d := ⟨_, rfl⟩
  refine lv_iload_n hx hb dX6_sumOf_0 rfl (lv_at hl 2 rfl) ?_
  refine lv_i2l (v := lN d) hx hb dX6_sumOf_1 (nI_l (by omega)) ?_
  refine lv_lstore_n (lv' := [(3, .long (lN d)), (0, .ref a1), (1, .int (nI f)), (2, .int (nI d))]) hx hb dX6_sumOf_2 rfl hl (by decide) rfl (fun ls hl => ?_)
  refine lv_iconst (v := nI 0) hx hb dX6_sumOf_3 (by decide) ?_
  refine lv_istore (lv' := [(5, .int (nI 0)), (3, .long (lN d)), (0, .ref a1), (1, .int (nI f)), (2, .int (nI d))]) hx hb dX6_sumOf_4 hl (by decide) rfl (fun ls hl => ?_)
  have L6 : ∀ (fu6 : Nat) (j : Nat) (sv : Int64), (56 - j < fu6) → (j ≤ 56) → (fol sStep (fun i => g (f + i)) (56 - j) j sv = Rz) → ∀ (H : Heap) (locs : List Loc), va_P (dC, dI) vwCl (ws) H → va_D A (ws) → va_S A s.heap H locs → ∀ (ls : Array Slot), lv_has ls 6 [(0, .ref a1), (1, .int (nI f)), (2, .int (nI d)), (3, .long (sv)), (5, .int (nI j))] → W p l e { frames := 0, cells := 0, slots := 0, locals := 0 } s m args below meth c H locs 0 0 Q (F0 m 6 ls []) := by
    intro fu6
    induction fu6 with
    | zero => intro j sv hm; exact absurd hm (Nat.not_lt_zero _)
    | succ fu6 ih6 =>
      intro j sv hm i6_0 i6_1 H locs hP hD hS ls hl
      have q1 := hg (f + j)
      refine lv_iload hx hb dX6_sumOf_6 (lv_at hl 4 rfl) ?_
      refine lv_bipush (v := nI 56) hx hb dX6_sumOf_8 (by decide) ?_
      refine x_icmp_ge (tgt := 47) hx hb dX6_sumOf_10 (by decide) (by omega) (by omega) (fun c10 => ?_) (fun c10 => ?_)
      · refine lv_lload_n hx hb dX6_sumOf_47 rfl (lv_at hl 3 rfl) ?_
        exact hret dX6_sumOf_48 (by have h := i6_1; rw [show 56 - j = 0 by omega, fol_0] at h; rw [h, hRz]) hP hD hS
      · refine lv_lload_n hx hb dX6_sumOf_13 rfl (lv_at hl 3 rfl) ?_
        refine lv_aload_n hx hb dX6_sumOf_14 rfl (lv_at hl 0 rfl) ?_
        refine lv_iload_n hx hb dX6_sumOf_15 rfl (lv_at hl 1 rfl) ?_
        refine lv_iload hx hb dX6_sumOf_16 (lv_at hl 4 rfl) ?_
        refine x_iadd hx hb dX6_sumOf_18 ?_
        refine x_bald hx hb hK hP k1 t1 hW ht (by omega) (hlen) dX6_sumOf_19 ?_
        refine lv_sipush (v := nI 255) hx hb dX6_sumOf_20 (by decide) ?_
        refine lv_iand hx hb dX6_sumOf_23 ?_
        refine x_top (y := nI (g (f + j))) (x_b255 (hg _)) ?_
        refine lv_i2l (v := lN (g (f + j))) hx hb dX6_sumOf_24 (nI_l (by omega)) ?_
        refine lv_lxor hx hb dX6_sumOf_25 ?_
        refine lv_lstore_n (lv' := [(3, .long ((sv ^^^ lN (g (f + j))))), (0, .ref a1), (1, .int (nI f)), (2, .int (nI d)), (5, .int (nI j))]) hx hb dX6_sumOf_26 rfl hl (by decide) rfl (fun ls hl => ?_)
        refine lv_lload_n hx hb dX6_sumOf_27 rfl (lv_at hl 0 rfl) ?_
        refine lv_bipush (v := nI 11) hx hb dX6_sumOf_28 (by decide) ?_
        refine lv_lshl hx hb dX6_sumOf_30 rfl ?_
        refine lv_lload_n hx hb dX6_sumOf_31 rfl (lv_at hl 0 rfl) ?_
        refine lv_bipush (v := nI 53) hx hb dX6_sumOf_32 (by decide) ?_
        refine lv_lushr hx hb dX6_sumOf_34 rfl ?_
        refine lv_lor hx hb dX6_sumOf_35 ?_
        refine lv_ldc2 (v := (-7046029254386353131)) hx hb hown (hts _ (List.mem_cons_of_mem _ tw_709)) dX6_sumOf_36 ?_
        refine lv_lmul hx hb dX6_sumOf_39 ?_
        refine x_topl (y := sStep sv (g (f + j))) (rfl) ?_
        refine lv_lstore_n (lv' := [(3, .long (sStep sv (g (f + j)))), (0, .ref a1), (1, .int (nI f)), (2, .int (nI d)), (5, .int (nI j))]) hx hb dX6_sumOf_40 rfl hl (by decide) rfl (fun ls hl => ?_)
        refine lv_iinc (v := nI (j + 1)) (lv' := [(5, .int (nI (j + 1))), (3, .long (sStep sv (g (f + j)))), (0, .ref a1), (1, .int (nI f)), (2, .int (nI d))]) hx hb dX6_sumOf_41 hl (k := 4) rfl (x_inc _) (by decide) rfl (fun ls hl => ?_)
        refine lv_goto (tgt := 6) hx hb dX6_sumOf_44 (by decide) ?_
        exact ih6 (j + 1) (sStep sv (g (f + j))) (by omega) (by omega) (by have h := i6_1; rw [show 56 - j = (56 - (j + 1)) + 1 by omega, fol_s] at h; exact h) _ _ hP hD hS ls (lv_sub hl [2, 3, 4, 1, 0] rfl)
  exact L6 (56 - 0 + 1) 0 (lN d) (by omega) (by omega) (by rw [hRz, sm1, Nat.sub_zero]) _ _ hP hD hS ls (lv_sub hl [2, 3, 4, 1, 0] rfl)

set_option maxHeartbeats 4000000 in
set_option maxRecDepth 100000 in
theorem c_M_number {l : Launch} {dC : Nat → ClassId} {dI : Nat → Nat → Nat} {A : Nat → Prop} {tys : List (ClassId × FieldType)} {ws : va_W} {k1 t1 a1 len : Nat} {cB : ClassId} {g : Nat → Nat} (hW : ws[k1]? = some (a1, .inl (cB, len, .inl (fun j => sb_b (g j))))) (ht : tys[t1]? = some (cB, .byte)) (hlen : len < 2 ^ 31) (hg : ∀ j, g j < 256) (f k : Nat) (hf1 : f + k ≤ len) (hk1 : k ≤ 8) : Met l yX6_number (Cond.code yX6_number cX6_number 6 (some .long) :: TB) { frames := 0, cells := 0, slots := 0, locals := 0 } (xPre (fun _ => True) (dC, dI) A tys (ws) [.ref a1, .int (nI f), .int (nI k)]) (xQl (dC, dI) A (lN (nm1 g k f)) (ws)) 0 0 A := by
  refine x_ofWl (cc := cX6_number) (maxL := 6) (by decide) rfl (Nat.le_of_ble_eq_true rfl) ?_
  intro p e s m args below meth c Q hx hb hml hts hown hK hN hP hD hS hret ls hl
  have hl : lv_has ls 6 [(0, .ref a1), (1, .int (nI f)), (2, .int (nI k))] := hl
  have hown : s.vm.findClass RX6 = some m.cls := hown
  refine lv_lconst (v := lN 0) hx hb dX6_number_0 rfl ?_
  refine lv_lstore_n (lv' := [(3, .long (lN 0)), (0, .ref a1), (1, .int (nI f)), (2, .int (nI k))]) hx hb dX6_number_1 rfl hl (by decide) rfl (fun ls hl => ?_)
  refine lv_iload_n hx hb dX6_number_2 rfl (lv_at hl 3 rfl) ?_
  refine lv_iconst (v := nI 1) hx hb dX6_number_3 (by decide) ?_
  refine lv_isub hx hb dX6_number_4 ?_
  refine lv_istore (lv' := [(5, .int ((nI k - nI 1))), (3, .long (lN 0)), (0, .ref a1), (1, .int (nI f)), (2, .int (nI k))]) hx hb dX6_number_5 hl (by decide) rfl (fun ls hl => ?_)
  have L7 : ∀ (fu7 : Nat) (j : Nat), (j < fu7) → (j ≤ k) → ∀ (H : Heap) (locs : List Loc), va_P (dC, dI) vwCl (ws) H → va_D A (ws) → va_S A s.heap H locs → ∀ (ls : Array Slot), lv_has ls 6 [(0, .ref a1), (1, .int (nI f)), (2, .int (nI k)), (3, .long (lN (nm1 g (k - j) (f + j)))), (5, .int ((nI j - nI 1)))] → W p l e { frames := 0, cells := 0, slots := 0, locals := 0 } s m args below meth c H locs 0 0 Q (F0 m 7 ls []) := by
    intro fu7
    induction fu7 with
    | zero => intro j hm; exact absurd hm (Nat.not_lt_zero _)
    | succ fu7 ih7 =>
      intro j hm i7_0 H locs hP hD hS ls hl
      refine lv_iload hx hb dX6_number_7 (lv_at hl 4 rfl) ?_
      refine lv_if_lt (tgt := 35) hx hb dX6_number_9 (by decide) (fun c9 => ?_) (fun c9 => ?_)
      · have c9 : j = 0 := x_pred0 (by omega) c9
        subst c9
        refine lv_lload_n hx hb dX6_number_35 rfl (lv_at hl 3 rfl) ?_
        exact hret dX6_number_36 (by simp) hP hD hS
      · have c9 : 0 < j := x_predP (by omega) c9
        have e6 : nI j - nI 1 = nI (j - 1) := pk_sub (by omega)
        rw [e6] at hl
        have hM := nm1_lt hg (k - j) (f + j)
        have q1 := hg (f + (j - 1))
        refine lv_lload_n hx hb dX6_number_12 rfl (lv_at hl 3 rfl) ?_
        refine lv_bipush (v := nI 8) hx hb dX6_number_13 (by decide) ?_
        refine lv_lshl hx hb dX6_number_15 rfl ?_
        refine lv_aload_n hx hb dX6_number_16 rfl (lv_at hl 0 rfl) ?_
        refine lv_iload_n hx hb dX6_number_17 rfl (lv_at hl 1 rfl) ?_
        refine lv_iload hx hb dX6_number_18 (lv_at hl 4 rfl) ?_
        refine x_iadd hx hb dX6_number_20 ?_
        refine x_bald hx hb hK hP k1 t1 hW ht (by omega) (hlen) dX6_number_21 ?_
        refine lv_sipush (v := nI 255) hx hb dX6_number_22 (by decide) ?_
        refine lv_iand hx hb dX6_number_25 ?_
        refine x_top (y := nI (g (f + (j - 1)))) (x_b255 (hg _)) ?_
        refine lv_i2l (v := lN (g (f + (j - 1)))) hx hb dX6_number_26 (nI_l (by omega)) ?_
        refine lv_lor hx hb dX6_number_27 ?_
        refine x_topl (y := lN (g (f + (j - 1)) + 256 * nm1 g (k - j) (f + j))) (x_numstep (num_56 hM (by omega)) q1) ?_
        refine lv_lstore_n (lv' := [(3, .long (lN (g (f + (j - 1)) + 256 * nm1 g (k - j) (f + j)))), (0, .ref a1), (1, .int (nI f)), (2, .int (nI k)), (5, .int (nI (j - 1)))]) hx hb dX6_number_28 rfl hl (by decide) rfl (fun ls hl => ?_)
        refine lv_iinc (v := (nI (j - 1) - nI 1)) (lv' := [(5, .int ((nI (j - 1) - nI 1))), (3, .long (lN (g (f + (j - 1)) + 256 * nm1 g (k - j) (f + j)))), (0, .ref a1), (1, .int (nI f)), (2, .int (nI k))]) hx hb dX6_number_29 hl (k := 4) rfl (x_decm _) (by decide) rfl (fun ls hl => ?_)
        refine lv_goto (tgt := 7) hx hb dX6_number_32 (by decide) ?_
        have e1 : (g (f + (j - 1)) + 256 * nm1 g (k - j) (f + j)) = (nm1 g (k - (j - 1)) (f + (j - 1))) := by rw [show k - (j - 1) = (k - j) + 1 by omega, nm1, show f + (j - 1) + 1 = f + j by omega]
        exact ih7 (j - 1) (by omega) (by omega) _ _ hP hD hS ls (x_lvc (l1 := [(0, .ref a1), (1, .int (nI f)), (2, .int (nI k)), (3, .long (lN (g (f + (j - 1)) + 256 * nm1 g (k - j) (f + j)))), (5, .int ((nI (j - 1) - nI 1)))]) (by rw [e1]) (lv_sub hl [2, 3, 4, 1, 0] rfl))
  have e2 : 0 = (nm1 g (k - k) (f + k)) := by rw [show k - k = 0 by omega]; rfl
  exact L7 (k + 1) k (by omega) (by omega) _ _ hP hD hS ls (x_lvc (l1 := [(0, .ref a1), (1, .int (nI f)), (2, .int (nI k)), (3, .long (lN 0)), (5, .int ((nI k - nI 1)))]) (by rw [← e2]) (lv_sub hl [2, 3, 4, 1, 0] rfl))

set_option maxHeartbeats 4000000 in
set_option maxRecDepth 100000 in
theorem c_M_isWhole {l : Launch} {dC : Nat → ClassId} {dI : Nat → Nat → Nat} {A : Nat → Prop} {b : Nat → Nat} {cB cI cL : ClassId} {rb : Nat} {rd : Nat → Nat} {rq : Nat} {rQ rw : Nat → Nat} {ra : Nat} {ro : Bool} {rn : Nat} {rk rv : Nat → Int64} {rf : Nat} {fN fF fB fR : Nat → Nat} {rl : Nat} {lB lR : Nat → Nat} {rt rg rx rz : Nat} (hrd : ∀ j, rd j < 256) (y : Nat) (hy1 : y < 64) : Met l yX6_isWhole (Cond.code yX6_isWhole cX6_isWhole 2 (some .boolean) :: TB) { frames := 1, cells := 0, slots := 0, locals := 25 } (xPre (fun _ => True) (dC, dI) A (tyS cB cI cL) (wM b cB cI cL rb rd rq rQ rw ra ro rn rk rv rf fN fF fB fR rl lB lR rt rg rx rz) [.ref (b 0), .int (nI y)]) (xQi (dC, dI) A (bI (wh1 rd y)) (wM b cB cI cL rb rd rq rQ rw ra ro rn rk rv rf fN fF fB fR rl lB lR rt rg rx rz)) 0 0 A := by
  refine x_ofWz (cc := cX6_isWhole) (maxL := 2) (by decide) rfl (Nat.le_of_ble_eq_true rfl) (x_narZ _) ?_
  intro p e s m args below meth c Q hx hb hml hts hown hK hN hP hD hS hret ls hl
  have hl : lv_has ls 2 [(0, .ref (b 0)), (1, .int (nI y))] := hl
  have hown : s.vm.findClass RX6 = some m.cls := hown
  have f7 := hts _ (List.mem_cons_of_mem _ tw_607)
  have in_X6 := (fun q hq => List.mem_cons_of_mem _ (inX6 q hq) : ∀ q ∈ wsX60, q ∈ (Cond.code yX6_isWhole cX6_isWhole 2 (some .boolean) :: TB))
  refine lv_aload_n hx hb dX6_isWhole_0 rfl (lv_at hl 0 rfl) ?_
  refine va_get (D := (dC, dI)) (ci := 6) (v := .ref (b 1)) (C := RX6) (T := TX6) (N := 22) hx hb hts in_X6 hown hK hP 0 rfl rfl 1 (by decide) f7 (fun _ h9 => h9) rfl dX6_isWhole_1 ?_
  refine lv_bipush (v := nI 64) hx hb dX6_isWhole_4 (by decide) ?_
  refine lv_iload_n hx hb dX6_isWhole_6 rfl (lv_at hl 1 rfl) ?_
  refine x_imul hx hb dX6_isWhole_7 ?_
  refine lv_bipush (v := nI 56) hx hb dX6_isWhole_8 (by decide) ?_
  refine x_iadd hx hb dX6_isWhole_10 ?_
  refine lv_bipush (v := nI 8) hx hb dX6_isWhole_11 (by decide) ?_
  refine x_calll (va_runS (As := [.ref (b 1), .int (nI ((64 * y) + 56)), .int (nI 8)]) (rest := []) ⟨hx, hb, hml, hown, hts⟩ (c_M_number (k1 := 1) (t1 := 0) (g := rd) rfl (tyS_B cB cI cL) (by decide) hrd ((64 * y) + 56) 8 (by omega) (by omega)) (va_cwS 3 hts (tbS tw_760 tw_761 tw_91 tw_762) rfl rfl rfl (by decide +kernel) ⟨Nat.le_of_ble_eq_true rfl, Nat.le_of_ble_eq_true rfl⟩) ⟨y_blind, y_pre hK hP hD⟩ rfl rfl hl.1 rfl (lv_room (Nat.le_of_ble_eq_true rfl)) dX6_isWhole_13 ⟨Nat.zero_le _, Nat.zero_le _⟩) hS (fun H locs hP hD hS => ?_)
  have hP : va_P (dC, dI) vwCl (wM b cB cI cL rb rd rq rQ rw ra ro rn rk rv rf fN fF fB fR rl lB lR rt rg rx rz) H := hP
  have hD : va_D A (wM b cB cI cL rb rd rq rQ rw ra ro rn rk rv rf fN fF fB fR rl lB lR rt rg rx rz) := hD
  have hv13 : nm1 rd 8 ((64 * y) + 56) < 18446744073709551616 := nm1_lt hrd 8 ((64 * y) + 56)
  refine lv_aload_n hx hb dX6_isWhole_16 rfl (lv_at hl 0 rfl) ?_
  refine va_get (D := (dC, dI)) (ci := 6) (v := .ref (b 1)) (C := RX6) (T := TX6) (N := 22) hx hb hts in_X6 hown hK hP 0 rfl rfl 1 (by decide) f7 (fun _ h9 => h9) rfl dX6_isWhole_17 ?_
  refine lv_bipush (v := nI 64) hx hb dX6_isWhole_20 (by decide) ?_
  refine lv_iload_n hx hb dX6_isWhole_22 rfl (lv_at hl 1 rfl) ?_
  refine x_imul hx hb dX6_isWhole_23 ?_
  refine lv_iload_n hx hb dX6_isWhole_24 rfl (lv_at hl 1 rfl) ?_
  refine x_calll (va_runS (As := [.ref (b 1), .int (nI (64 * y)), .int (nI y)]) (rest := [.long (lN (nm1 rd 8 ((64 * y) + 56)))]) ⟨hx, hb, hml, hown, hts⟩ (c_M_sumOf (k1 := 1) (t1 := 0) (g := rd) rfl (tyS_B cB cI cL) (by decide) hrd (64 * y) y (by omega) (by omega)) (va_cwS 3 hts (tbS tw_706 tw_707 tw_91 tw_708) rfl rfl rfl (by decide +kernel) ⟨Nat.le_of_ble_eq_true rfl, Nat.le_of_ble_eq_true rfl⟩) ⟨y_blind, y_pre hK hP hD⟩ rfl rfl hl.1 rfl (lv_room (Nat.le_of_ble_eq_true rfl)) dX6_isWhole_25 ⟨Nat.zero_le _, Nat.zero_le _⟩) hS (fun H locs hP hD hS => ?_)
  have hP : va_P (dC, dI) vwCl (wM b cB cI cL rb rd rq rQ rw ra ro rn rk rv rf fN fF fB fR rl lB lR rt rg rx rz) H := hP
  have hD : va_D A (wM b cB cI cL rb rd rq rQ rw ra ro rn rk rv rf fN fF fB fR rl lB lR rt rg rx rz) := hD
  refine W.lcmp hx hb dX6_isWhole_28 ?_
  refine x_lif_ne (tgt := 36) hx hb dX6_isWhole_29 (by decide) (fun c29 => ?_) (fun c29 => ?_)
  · refine lv_iconst (v := nI 0) hx hb dX6_isWhole_36 (by decide) ?_
    exact hret dX6_isWhole_37 (by simp [wh1, c29, bI]; try rfl) hP hD hS
  · refine lv_iconst (v := nI 1) hx hb dX6_isWhole_32 (by decide) ?_
    refine lv_goto (tgt := 37) hx hb dX6_isWhole_33 (by decide) ?_
    exact hret dX6_isWhole_37 (by simp [wh1, c29, bI]; try rfl) hP hD hS

set_option maxHeartbeats 4000000 in
set_option maxRecDepth 100000 in
theorem c_M_begin {l : Launch} {dC : Nat → ClassId} {dI : Nat → Nat → Nat} {A : Nat → Prop} {b : Nat → Nat} {cB cI cL : ClassId} {rb : Nat} {rd : Nat → Nat} {rq : Nat} {rQ rw : Nat → Nat} {ra : Nat} {ro : Bool} {rn : Nat} {rk rv : Nat → Int64} {rf : Nat} {fN fF fB fR : Nat → Nat} {rl : Nat} {lB lR : Nat → Nat} {rt rg rx rz : Nat} (hrw : ∀ j, rw j < 256) (y : Nat) (hq1 : rq < 130) : Met l yX6_begin (Cond.code yX6_begin cX6_begin 3 none :: TB) { frames := 0, cells := 0, slots := 0, locals := 0 } (xPre (fun _ => True) (dC, dI) A (tyS cB cI cL) (wM b cB cI cL rb rd rq rQ rw ra ro rn rk rv rf fN fF fB fR rl lB lR rt rg rx rz) [.ref (b 0), .int (nI y)]) (xQv (dC, dI) A (wM b cB cI cL rb rd (rq + 1) (va_up rQ rq y) (wz 64 rw (64 * rq)) (64 * rq) ro rn rk rv rf fN fF fB fR rl lB lR rt rg rx rz)) 0 0 A := by
  refine x_ofWv (cc := cX6_begin) (maxL := 3) (by decide) rfl (Nat.le_of_ble_eq_true rfl) ?_
  intro p e s m args below meth c Q hx hb hml hts hown hK hN hP hD hS hret ls hl
  have hl : lv_has ls 3 [(0, .ref (b 0)), (1, .int (nI y))] := hl
  have hown : s.vm.findClass RX6 = some m.cls := hown
  have f13 := hts _ (List.mem_cons_of_mem _ tw_609)
  have in_X6 := (fun q hq => List.mem_cons_of_mem _ (inX6 q hq) : ∀ q ∈ wsX60, q ∈ (Cond.code yX6_begin cX6_begin 3 none :: TB))
  have f58 := hts _ (List.mem_cons_of_mem _ tw_608)
  have f62 := hts _ (List.mem_cons_of_mem _ tw_611)
  have f17 := hts _ (List.mem_cons_of_mem _ tw_610)
  refine lv_aload_n hx hb dX6_begin_0 rfl (lv_at hl 0 rfl) ?_
  refine va_get (D := (dC, dI)) (ci := 6) (v := .ref (b 2)) (C := RX6) (T := TX6) (N := 22) hx hb hts in_X6 hown hK hP 0 rfl rfl 3 (by decide) f13 (fun _ h9 => h9) rfl dX6_begin_1 ?_
  refine lv_aload_n hx hb dX6_begin_4 rfl (lv_at hl 0 rfl) ?_
  refine va_get (D := (dC, dI)) (ci := 6) (v := .int (nI rq)) (C := RX6) (T := TX6) (N := 22) hx hb hts in_X6 hown hK hP 0 rfl rfl 2 (by decide) f58 (fun _ h9 => h9) rfl dX6_begin_5 ?_
  refine lv_iload_n hx hb dX6_begin_8 rfl (lv_at hl 1 rfl) ?_
  refine x_iast hx hb hK hP hD hS 2 1 rfl rfl (by omega) (by decide) dX6_begin_9 (fun H locs hP hD hS => ?_)
  have hP : va_P (dC, dI) vwCl (wM b cB cI cL rb rd rq (va_up rQ rq y) rw ra ro rn rk rv rf fN fF fB fR rl lB lR rt rg rx rz) H := hP
  have hD : va_D A (wM b cB cI cL rb rd rq (va_up rQ rq y) rw ra ro rn rk rv rf fN fF fB fR rl lB lR rt rg rx rz) := hD
  refine lv_aload_n hx hb dX6_begin_10 rfl (lv_at hl 0 rfl) ?_
  refine lv_bipush (v := nI 64) hx hb dX6_begin_11 (by decide) ?_
  refine lv_aload_n hx hb dX6_begin_13 rfl (lv_at hl 0 rfl) ?_
  refine lv_dup hx hb dX6_begin_14 rfl ?_
  refine va_get (D := (dC, dI)) (ci := 6) (v := .int (nI rq)) (C := RX6) (T := TX6) (N := 22) hx hb hts in_X6 hown hK hP 0 rfl rfl 2 (by decide) f58 (fun _ h9 => h9) rfl dX6_begin_15 ?_
  refine lv_dup_x1 hx hb dX6_begin_18 rfl rfl ?_
  refine lv_iconst (v := nI 1) hx hb dX6_begin_19 (by decide) ?_
  refine x_iadd hx hb dX6_begin_20 ?_
  refine va_put (D := (dC, dI)) (ci := 6) (v := .int (nI (rq + 1))) (ty := .int) (C := RX6) (T := TX6) (N := 22) hx hb hts in_X6 tyX6 tyX6_ok nmX6 hown hK hP hD hS 0 rfl rfl 2 (by decide) f58 (fun _ h9 => h9) rfl (by decide +kernel) rfl rfl (Nat.le_of_ble_eq_true rfl) dX6_begin_21 (fun H locs hP hD hS => ?_)
  have hP : va_P (dC, dI) vwCl (wM b cB cI cL rb rd (rq + 1) (va_up rQ rq y) rw ra ro rn rk rv rf fN fF fB fR rl lB lR rt rg rx rz) H := hP
  have hD : va_D A (wM b cB cI cL rb rd (rq + 1) (va_up rQ rq y) rw ra ro rn rk rv rf fN fF fB fR rl lB lR rt rg rx rz) := hD
  refine x_imul hx hb dX6_begin_24 ?_
  refine va_put (D := (dC, dI)) (ci := 6) (v := .int (nI (64 * rq))) (ty := .int) (C := RX6) (T := TX6) (N := 22) hx hb hts in_X6 tyX6 tyX6_ok nmX6 hown hK hP hD hS 0 rfl rfl 5 (by decide) f62 (fun _ h9 => h9) rfl (by decide +kernel) rfl rfl (Nat.le_of_ble_eq_true rfl) dX6_begin_25 (fun H locs hP hD hS => ?_)
  have hP : va_P (dC, dI) vwCl (wM b cB cI cL rb rd (rq + 1) (va_up rQ rq y) rw (64 * rq) ro rn rk rv rf fN fF fB fR rl lB lR rt rg rx rz) H := hP
  have hD : va_D A (wM b cB cI cL rb rd (rq + 1) (va_up rQ rq y) rw (64 * rq) ro rn rk rv rf fN fF fB fR rl lB lR rt rg rx rz) := hD
  refine lv_iconst (v := nI 0) hx hb dX6_begin_28 (by decide) ?_
  refine lv_istore_n (lv' := [(2, .int (nI 0)), (0, .ref (b 0)), (1, .int (nI y))]) hx hb dX6_begin_29 rfl hl (by decide) rfl (fun ls hl => ?_)
  have L30 : ∀ (fu30 : Nat) (j : Nat) (g' : Nat → Nat), (64 - j < fu30) → (j ≤ 64) → (wz (64 - j) g' (64 * rq + j) = wz 64 rw (64 * rq)) → ∀ (H : Heap) (locs : List Loc), va_P (dC, dI) vwCl (wM b cB cI cL rb rd (rq + 1) (va_up rQ rq y) g' (64 * rq) ro rn rk rv rf fN fF fB fR rl lB lR rt rg rx rz) H → va_D A (wM b cB cI cL rb rd (rq + 1) (va_up rQ rq y) g' (64 * rq) ro rn rk rv rf fN fF fB fR rl lB lR rt rg rx rz) → va_S A s.heap H locs → ∀ (ls : Array Slot), lv_has ls 3 [(0, .ref (b 0)), (1, .int (nI y)), (2, .int (nI j))] → W p l e { frames := 0, cells := 0, slots := 0, locals := 0 } s m args below meth c H locs 0 0 Q (F0 m 30 ls []) := by
    intro fu30
    induction fu30 with
    | zero => intro j g' hm; exact absurd hm (Nat.not_lt_zero _)
    | succ fu30 ih30 =>
      intro j g' hm i30_0 i30_1 H locs hP hD hS ls hl
      refine lv_iload_n hx hb dX6_begin_30 rfl (lv_at hl 2 rfl) ?_
      refine lv_bipush (v := nI 64) hx hb dX6_begin_31 (by decide) ?_
      refine x_icmp_ge (tgt := 54) hx hb dX6_begin_33 (by decide) (by omega) (by omega) (fun c33 => ?_) (fun c33 => ?_)
      · have e1 : g' = (wz 64 rw (64 * rq)) := by have h := i30_1; rw [show 64 - j = 0 by omega] at h; exact h
        have h9 : wM b cB cI cL rb rd (rq + 1) (va_up rQ rq y) g' (64 * rq) ro rn rk rv rf fN fF fB fR rl lB lR rt rg rx rz = wM b cB cI cL rb rd (rq + 1) (va_up rQ rq y) (wz 64 rw (64 * rq)) (64 * rq) ro rn rk rv rf fN fF fB fR rl lB lR rt rg rx rz := by rw [← e1]
        have hP := x_wP h9 hP
        have hD := x_wD h9 hD
        exact hret dX6_begin_54 hP hD hS
      · refine lv_aload_n hx hb dX6_begin_36 rfl (lv_at hl 0 rfl) ?_
        refine va_get (D := (dC, dI)) (ci := 6) (v := .ref (b 3)) (C := RX6) (T := TX6) (N := 22) hx hb hts in_X6 hown hK hP 0 rfl rfl 4 (by decide) f17 (fun _ h9 => h9) rfl dX6_begin_37 ?_
        refine lv_aload_n hx hb dX6_begin_40 rfl (lv_at hl 0 rfl) ?_
        refine va_get (D := (dC, dI)) (ci := 6) (v := .int (nI (64 * rq))) (C := RX6) (T := TX6) (N := 22) hx hb hts in_X6 hown hK hP 0 rfl rfl 5 (by decide) f62 (fun _ h9 => h9) rfl dX6_begin_41 ?_
        refine lv_iload_n hx hb dX6_begin_44 rfl (lv_at hl 2 rfl) ?_
        refine x_iadd hx hb dX6_begin_45 ?_
        refine lv_iconst (v := nI 0) hx hb dX6_begin_46 (by decide) ?_
        refine x_top (y := sb_b 0) (rfl) ?_
        refine x_bast hx hb hK hP hD hS 3 0 rfl rfl (by omega) (by decide) dX6_begin_47 (fun H locs hP hD hS => ?_)
        have hP : va_P (dC, dI) vwCl (wM b cB cI cL rb rd (rq + 1) (va_up rQ rq y) (va_up g' ((64 * rq) + j) 0) (64 * rq) ro rn rk rv rf fN fF fB fR rl lB lR rt rg rx rz) H := hP
        have hD : va_D A (wM b cB cI cL rb rd (rq + 1) (va_up rQ rq y) (va_up g' ((64 * rq) + j) 0) (64 * rq) ro rn rk rv rf fN fF fB fR rl lB lR rt rg rx rz) := hD
        refine lv_iinc (v := nI (j + 1)) (lv' := [(2, .int (nI (j + 1))), (0, .ref (b 0)), (1, .int (nI y))]) hx hb dX6_begin_48 hl (k := 2) rfl (x_inc _) (by decide) rfl (fun ls hl => ?_)
        refine lv_goto (tgt := 30) hx hb dX6_begin_51 (by decide) ?_
        exact ih30 (j + 1) (va_up g' ((64 * rq) + j) 0) (by omega) (by omega) (by have h := i30_1; rw [show 64 - j = (64 - (j + 1)) + 1 by omega, wz] at h; exact h) _ _ hP hD hS ls (lv_sub hl [1, 2, 0] rfl)
  exact L30 (64 - 0 + 1) 0 rw (by omega) (by omega) (by rfl) _ _ hP hD hS ls (lv_sub hl [1, 2, 0] rfl)

set_option maxHeartbeats 4000000 in
set_option maxRecDepth 100000 in
theorem c_M_put {l : Launch} {dC : Nat → ClassId} {dI : Nat → Nat → Nat} {A : Nat → Prop} {b : Nat → Nat} {cB cI cL : ClassId} {rb : Nat} {rd : Nat → Nat} {rq : Nat} {rQ rw : Nat → Nat} {ra : Nat} {ro : Bool} {rn : Nat} {rk rv : Nat → Int64} {rf : Nat} {fN fF fB fR : Nat → Nat} {rl : Nat} {lB lR : Nat → Nat} {rt rg rx rz : Nat} (hrw : ∀ j, rw j < 256) (f : Nat) (x : Int64) (k : Nat) (hf1 : ra + f + k ≤ 8320) (hk1 : k ≤ 8) : Met l yX6_put (Cond.code yX6_put cX6_put 6 none :: TB) { frames := 0, cells := 0, slots := 0, locals := 0 } (xPre (fun _ => True) (dC, dI) A (tyS cB cI cL) (wM b cB cI cL rb rd rq rQ rw ra ro rn rk rv rf fN fF fB fR rl lB lR rt rg rx rz) [.ref (b 0), .int (nI f), .long (x), .int (nI k)]) (xQv (dC, dI) A (wM b cB cI cL rb rd rq rQ (pn1 k rw (ra + f) (uL x)) ra ro rn rk rv rf fN fF fB fR rl lB lR rt rg rx rz)) 0 0 A := by
  refine x_ofWv (cc := cX6_put) (maxL := 6) (by decide) rfl (Nat.le_of_ble_eq_true rfl) ?_
  intro p e s m args below meth c Q hx hb hml hts hown hK hN hP hD hS hret ls hl
  have hl : lv_has ls 6 [(0, .ref (b 0)), (1, .int (nI f)), (2, .long (x)), (4, .int (nI k))] := hl
  have hown : s.vm.findClass RX6 = some m.cls := hown
  have f17 := hts _ (List.mem_cons_of_mem _ tw_610)
  have in_X6 := (fun q hq => List.mem_cons_of_mem _ (inX6 q hq) : ∀ q ∈ wsX60, q ∈ (Cond.code yX6_put cX6_put 6 none :: TB))
  have f62 := hts _ (List.mem_cons_of_mem _ tw_611)
  refine lv_iconst (v := nI 0) hx hb dX6_put_0 (by decide) ?_
  refine lv_istore (lv' := [(5, .int (nI 0)), (0, .ref (b 0)), (1, .int (nI f)), (2, .long (x)), (4, .int (nI k))]) hx hb dX6_put_1 hl (by decide) rfl (fun ls hl => ?_)
  have L3 : ∀ (fu3 : Nat) (j : Nat) (g' : Nat → Nat), (k - j < fu3) → (j ≤ k) → (pn1 (k - j) g' (ra + f + j) (uL x / 2 ^ (8 * j)) = pn1 k rw (ra + f) (uL x)) → ∀ (H : Heap) (locs : List Loc), va_P (dC, dI) vwCl (wM b cB cI cL rb rd rq rQ g' ra ro rn rk rv rf fN fF fB fR rl lB lR rt rg rx rz) H → va_D A (wM b cB cI cL rb rd rq rQ g' ra ro rn rk rv rf fN fF fB fR rl lB lR rt rg rx rz) → va_S A s.heap H locs → ∀ (ls : Array Slot), lv_has ls 6 [(0, .ref (b 0)), (1, .int (nI f)), (2, .long (x)), (4, .int (nI k)), (5, .int (nI j))] → W p l e { frames := 0, cells := 0, slots := 0, locals := 0 } s m args below meth c H locs 0 0 Q (F0 m 3 ls []) := by
    intro fu3
    induction fu3 with
    | zero => intro j g' hm; exact absurd hm (Nat.not_lt_zero _)
    | succ fu3 ih3 =>
      intro j g' hm i3_0 i3_1 H locs hP hD hS ls hl
      refine lv_iload hx hb dX6_put_3 (lv_at hl 4 rfl) ?_
      refine lv_iload hx hb dX6_put_5 (lv_at hl 3 rfl) ?_
      refine x_icmp_ge (tgt := 39) hx hb dX6_put_7 (by decide) (by omega) (by omega) (fun c7 => ?_) (fun c7 => ?_)
      · have e1 : g' = (pn1 k rw (ra + f) (uL x)) := by have h := i3_1; rw [show k - j = 0 by omega] at h; exact h
        have h9 : wM b cB cI cL rb rd rq rQ g' ra ro rn rk rv rf fN fF fB fR rl lB lR rt rg rx rz = wM b cB cI cL rb rd rq rQ (pn1 k rw (ra + f) (uL x)) ra ro rn rk rv rf fN fF fB fR rl lB lR rt rg rx rz := by rw [← e1]
        have hP := x_wP h9 hP
        have hD := x_wD h9 hD
        exact hret dX6_put_39 hP hD hS
      · refine lv_aload_n hx hb dX6_put_10 rfl (lv_at hl 0 rfl) ?_
        refine va_get (D := (dC, dI)) (ci := 6) (v := .ref (b 3)) (C := RX6) (T := TX6) (N := 22) hx hb hts in_X6 hown hK hP 0 rfl rfl 4 (by decide) f17 (fun _ h9 => h9) rfl dX6_put_11 ?_
        refine lv_aload_n hx hb dX6_put_14 rfl (lv_at hl 0 rfl) ?_
        refine va_get (D := (dC, dI)) (ci := 6) (v := .int (nI ra)) (C := RX6) (T := TX6) (N := 22) hx hb hts in_X6 hown hK hP 0 rfl rfl 5 (by decide) f62 (fun _ h9 => h9) rfl dX6_put_15 ?_
        refine lv_iload_n hx hb dX6_put_18 rfl (lv_at hl 1 rfl) ?_
        refine x_iadd hx hb dX6_put_19 ?_
        refine lv_iload hx hb dX6_put_20 (lv_at hl 4 rfl) ?_
        refine x_iadd hx hb dX6_put_22 ?_
        refine lv_lload_n hx hb dX6_put_23 rfl (lv_at hl 2 rfl) ?_
        refine lv_bipush (v := nI 8) hx hb dX6_put_24 (by decide) ?_
        refine lv_iload hx hb dX6_put_26 (lv_at hl 4 rfl) ?_
        refine x_imul hx hb dX6_put_28 ?_
        refine lv_lshr hx hb dX6_put_29 rfl ?_
        refine lv_l2i hx hb dX6_put_30 rfl ?_
        refine lv_i2b hx hb dX6_put_31 rfl ?_
        refine x_top (y := sb_b (uL x / 2 ^ (8 * j) % 256)) (x_byteJ x (by omega)) ?_
        refine x_bast hx hb hK hP hD hS 3 0 rfl rfl (by omega) (by decide) dX6_put_32 (fun H locs hP hD hS => ?_)
        have hP : va_P (dC, dI) vwCl (wM b cB cI cL rb rd rq rQ (va_up g' ((ra + f) + j) (uL x / 2 ^ (8 * j) % 256)) ra ro rn rk rv rf fN fF fB fR rl lB lR rt rg rx rz) H := hP
        have hD : va_D A (wM b cB cI cL rb rd rq rQ (va_up g' ((ra + f) + j) (uL x / 2 ^ (8 * j) % 256)) ra ro rn rk rv rf fN fF fB fR rl lB lR rt rg rx rz) := hD
        refine lv_iinc (v := nI (j + 1)) (lv' := [(5, .int (nI (j + 1))), (0, .ref (b 0)), (1, .int (nI f)), (2, .long (x)), (4, .int (nI k))]) hx hb dX6_put_33 hl (k := 4) rfl (x_inc _) (by decide) rfl (fun ls hl => ?_)
        refine lv_goto (tgt := 3) hx hb dX6_put_36 (by decide) ?_
        exact ih3 (j + 1) (va_up g' ((ra + f) + j) (uL x / 2 ^ (8 * j) % 256)) (by omega) (by omega) (by have h := i3_1; rw [show k - j = (k - (j + 1)) + 1 by omega, pn1, Nat.div_div_eq_div_mul, show 2 ^ (8 * j) * 256 = 2 ^ (8 * (j + 1)) by rw [Nat.mul_add, Nat.pow_add]] at h; exact h) _ _ hP hD hS ls (lv_sub hl [1, 2, 3, 4, 0] rfl)
  exact L3 (k - 0 + 1) 0 rw (by omega) (by omega) (by show pn1 (k - 0) rw (ra + f + 0) (uL x / 2 ^ (8 * 0)) = _; simp) _ _ hP hD hS ls (lv_sub hl [1, 2, 3, 4, 0] rfl)

set_option maxHeartbeats 4000000 in
set_option maxRecDepth 100000 in
theorem c_M_putN {l : Launch} {dC : Nat → ClassId} {dI : Nat → Nat → Nat} {A : Nat → Prop} {b : Nat → Nat} {cB cI cL : ClassId} {rb : Nat} {rd : Nat → Nat} {rq : Nat} {rQ rw : Nat → Nat} {ra : Nat} {ro : Bool} {rn : Nat} {rk rv : Nat → Int64} {rf : Nat} {fN fF fB fR : Nat → Nat} {rl : Nat} {lB lR : Nat → Nat} {rt rg rx rz : Nat} (hrw : ∀ j, rw j < 256) (f v k : Nat) (hf1 : ra + f + k ≤ 8320) (hk1 : k ≤ 8) (hv1 : v < 2 ^ 64) : Met l yX6_put (Cond.code yX6_put cX6_put 6 none :: TB) { frames := 0, cells := 0, slots := 0, locals := 0 } (xPre (fun _ => True) (dC, dI) A (tyS cB cI cL) (wM b cB cI cL rb rd rq rQ rw ra ro rn rk rv rf fN fF fB fR rl lB lR rt rg rx rz) [.ref (b 0), .int (nI f), .long (lN v), .int (nI k)]) (xQv (dC, dI) A (wM b cB cI cL rb rd rq rQ (pn1 k rw (ra + f) v) ra ro rn rk rv rf fN fF fB fR rl lB lR rt rg rx rz)) 0 0 A := by
  have h := c_M_put (l := l) (dC := dC) (dI := dI) (A := A) (b := b) (cB := cB) (cI := cI) (cL := cL) (rb := rb) (rd := rd) (rq := rq) (rQ := rQ) (rw := rw) (ra := ra) (ro := ro) (rn := rn) (rk := rk) (rv := rv) (rf := rf) (fN := fN) (fF := fF) (fB := fB) (fR := fR) (rl := rl) (lB := lB) (lR := lR) (rt := rt) (rg := rg) (rx := rx) (rz := rz) hrw f (lN v) k hf1 hk1
  rw [uL_lN hv1] at h
  exact h

set_option maxHeartbeats 4000000 in
set_option maxRecDepth 100000 in
theorem c_M_end {l : Launch} {dC : Nat → ClassId} {dI : Nat → Nat → Nat} {A : Nat → Prop} {b : Nat → Nat} {cB cI cL : ClassId} {rb : Nat} {rd : Nat → Nat} {rq : Nat} {rQ rw : Nat → Nat} {ra : Nat} {ro : Bool} {rn : Nat} {rk rv : Nat → Int64} {rf : Nat} {fN fF fB fR : Nat → Nat} {rl : Nat} {lB lR : Nat → Nat} {rt rg rx rz : Nat} (hrw : ∀ j, rw j < 256) (hrQ : ∀ j, rQ j < 64) (hq0 : 0 < rq) (hq1 : rq ≤ 130) (ha1 : ra + 64 ≤ 8320) : Met l yX6_end (Cond.code yX6_end cX6_end 1 none :: TB) { frames := 1, cells := 0, slots := 0, locals := 25 } (xPre (fun _ => True) (dC, dI) A (tyS cB cI cL) (wM b cB cI cL rb rd rq rQ rw ra ro rn rk rv rf fN fF fB fR rl lB lR rt rg rx rz) [.ref (b 0)]) (xQv (dC, dI) A (wM b cB cI cL rb rd rq rQ (en1 rw ra (rQ (rq - 1))) ra ro rn rk rv rf fN fF fB fR rl lB lR rt rg rx rz)) 0 0 A := by
  refine x_ofWv (cc := cX6_end) (maxL := 1) (by decide) rfl (Nat.le_of_ble_eq_true rfl) ?_
  intro p e s m args below meth c Q hx hb hml hts hown hK hN hP hD hS hret ls hl
  have hl : lv_has ls 1 [(0, .ref (b 0))] := hl
  have hown : s.vm.findClass RX6 = some m.cls := hown
  have q1 := hrQ (rq - 1)
  have f17 := hts _ (List.mem_cons_of_mem _ tw_610)
  have in_X6 := (fun q hq => List.mem_cons_of_mem _ (inX6 q hq) : ∀ q ∈ wsX60, q ∈ (Cond.code yX6_end cX6_end 1 none :: TB))
  have f62 := hts _ (List.mem_cons_of_mem _ tw_611)
  have f13 := hts _ (List.mem_cons_of_mem _ tw_609)
  have f58 := hts _ (List.mem_cons_of_mem _ tw_608)
  refine lv_aload_n hx hb dX6_end_0 rfl (lv_at hl 0 rfl) ?_
  refine lv_bipush (v := nI 56) hx hb dX6_end_1 (by decide) ?_
  refine lv_aload_n hx hb dX6_end_3 rfl (lv_at hl 0 rfl) ?_
  refine va_get (D := (dC, dI)) (ci := 6) (v := .ref (b 3)) (C := RX6) (T := TX6) (N := 22) hx hb hts in_X6 hown hK hP 0 rfl rfl 4 (by decide) f17 (fun _ h9 => h9) rfl dX6_end_4 ?_
  refine lv_aload_n hx hb dX6_end_7 rfl (lv_at hl 0 rfl) ?_
  refine va_get (D := (dC, dI)) (ci := 6) (v := .int (nI ra)) (C := RX6) (T := TX6) (N := 22) hx hb hts in_X6 hown hK hP 0 rfl rfl 5 (by decide) f62 (fun _ h9 => h9) rfl dX6_end_8 ?_
  refine lv_aload_n hx hb dX6_end_11 rfl (lv_at hl 0 rfl) ?_
  refine va_get (D := (dC, dI)) (ci := 6) (v := .ref (b 2)) (C := RX6) (T := TX6) (N := 22) hx hb hts in_X6 hown hK hP 0 rfl rfl 3 (by decide) f13 (fun _ h9 => h9) rfl dX6_end_12 ?_
  refine lv_aload_n hx hb dX6_end_15 rfl (lv_at hl 0 rfl) ?_
  refine va_get (D := (dC, dI)) (ci := 6) (v := .int (nI rq)) (C := RX6) (T := TX6) (N := 22) hx hb hts in_X6 hown hK hP 0 rfl rfl 2 (by decide) f58 (fun _ h9 => h9) rfl dX6_end_16 ?_
  refine lv_iconst (v := nI 1) hx hb dX6_end_19 (by decide) ?_
  refine x_isub hx hb dX6_end_20 (by omega) ?_
  refine x_iald hx hb hK hP 2 1 rfl rfl (by omega) (by decide) dX6_end_21 ?_
  refine x_calll (va_runS (As := [.ref (b 3), .int (nI ra), .int (nI (rQ (rq - 1)))]) (rest := [.int (nI 56), .ref (b 0)]) ⟨hx, hb, hml, hown, hts⟩ (c_M_sumOf (k1 := 3) (t1 := 0) (g := rw) rfl (tyS_B cB cI cL) (by decide) hrw ra (rQ (rq - 1)) (by omega) (by omega)) (va_cwS 3 hts (tbS tw_706 tw_707 tw_91 tw_708) rfl rfl rfl (by decide +kernel) ⟨Nat.le_of_ble_eq_true rfl, Nat.le_of_ble_eq_true rfl⟩) ⟨y_blind, y_pre hK hP hD⟩ rfl rfl hl.1 rfl (lv_room (Nat.le_of_ble_eq_true rfl)) dX6_end_22 ⟨Nat.zero_le _, Nat.zero_le _⟩) hS (fun H locs hP hD hS => ?_)
  have hP : va_P (dC, dI) vwCl (wM b cB cI cL rb rd rq rQ rw ra ro rn rk rv rf fN fF fB fR rl lB lR rt rg rx rz) H := hP
  have hD : va_D A (wM b cB cI cL rb rd rq rQ rw ra ro rn rk rv rf fN fF fB fR rl lB lR rt rg rx rz) := hD
  refine lv_bipush (v := nI 8) hx hb dX6_end_25 (by decide) ?_
  refine x_callv (va_runV (As := [.int (nI 56), .long (sm1 rw ra (rQ (rq - 1))), .int (nI 8)]) (rest := []) ⟨hx, hb, hml, hown, hts⟩ (c_M_put hrw 56 (sm1 rw ra (rQ (rq - 1))) 8 (by omega) (by omega)) (cwV 3 hts (tbV tw_698 tw_700 tw_66 tw_91 tw_701) rfl rfl rfl (by decide +kernel) ⟨Nat.le_of_ble_eq_true rfl, Nat.le_of_ble_eq_true rfl⟩) ⟨y_blind, va_recv hK hP (ci := 6) (q0 := 0) rfl rfl, y_pre hK hP hD⟩ rfl rfl hl.1 rfl (lv_room (Nat.le_of_ble_eq_true rfl)) dX6_end_27 ⟨Nat.zero_le _, Nat.zero_le _⟩) hS (fun H locs hP hD hS => ?_)
  have hP : va_P (dC, dI) vwCl (wM b cB cI cL rb rd rq rQ (pn1 8 rw (ra + 56) (uL (sm1 rw ra (rQ (rq - 1))))) ra ro rn rk rv rf fN fF fB fR rl lB lR rt rg rx rz) H := hP
  have hD : va_D A (wM b cB cI cL rb rd rq rQ (pn1 8 rw (ra + 56) (uL (sm1 rw ra (rQ (rq - 1))))) ra ro rn rk rv rf fN fF fB fR rl lB lR rt rg rx rz) := hD
  have e1 : (pn1 8 rw (ra + 56) (uL (sm1 rw ra (rQ (rq - 1))))) = (en1 rw ra (rQ (rq - 1))) := by rfl
  have h9 : wM b cB cI cL rb rd rq rQ (pn1 8 rw (ra + 56) (uL (sm1 rw ra (rQ (rq - 1))))) ra ro rn rk rv rf fN fF fB fR rl lB lR rt rg rx rz = wM b cB cI cL rb rd rq rQ (en1 rw ra (rQ (rq - 1))) ra ro rn rk rv rf fN fF fB fR rl lB lR rt rg rx rz := by rw [e1]
  have hP := x_wP h9 hP
  have hD := x_wD h9 hD
  exact hret dX6_end_30 hP hD hS

set_option maxHeartbeats 4000000 in
set_option maxRecDepth 100000 in
theorem c_M_forget {l : Launch} {dC : Nat → ClassId} {dI : Nat → Nat → Nat} {A : Nat → Prop} {b : Nat → Nat} {cB cI cL : ClassId} {rb : Nat} {rd : Nat → Nat} {rq : Nat} {rQ rw : Nat → Nat} {ra : Nat} {ro : Bool} {rn : Nat} {rk rv : Nat → Int64} {rf : Nat} {fN fF fB fR : Nat → Nat} {rl : Nat} {lB lR : Nat → Nat} {rt rg rx rz : Nat} : Met l yX6_forget (Cond.code yX6_forget cX6_forget 1 none :: TB) { frames := 0, cells := 0, slots := 0, locals := 0 } (xPre (fun _ => True) (dC, dI) A (tyS cB cI cL) (wM b cB cI cL rb rd rq rQ rw ra ro rn rk rv rf fN fF fB fR rl lB lR rt rg rx rz) [.ref (b 0)]) (xQv (dC, dI) A (wM b cB cI cL rb rd 0 rQ rw ra ro 0 rk rv 0 fN fF fB fR 0 lB lR 0 0 1 0)) 0 0 A := by
  refine x_ofWv (cc := cX6_forget) (maxL := 1) (by decide) rfl (Nat.le_of_ble_eq_true rfl) ?_
  intro p e s m args below meth c Q hx hb hml hts hown hK hN hP hD hS hret ls hl
  have hl : lv_has ls 1 [(0, .ref (b 0))] := hl
  have hown : s.vm.findClass RX6 = some m.cls := hown
  have f71 := hts _ (List.mem_cons_of_mem _ tw_613)
  have in_X6 := (fun q hq => List.mem_cons_of_mem _ (inX6 q hq) : ∀ q ∈ wsX60, q ∈ (Cond.code yX6_forget cX6_forget 1 none :: TB))
  have f74 := hts _ (List.mem_cons_of_mem _ tw_616)
  have f77 := hts _ (List.mem_cons_of_mem _ tw_621)
  have f80 := hts _ (List.mem_cons_of_mem _ tw_624)
  have f58 := hts _ (List.mem_cons_of_mem _ tw_608)
  have f83 := hts _ (List.mem_cons_of_mem _ tw_625)
  have f87 := hts _ (List.mem_cons_of_mem _ tw_626)
  have f90 := hts _ (List.mem_cons_of_mem _ tw_627)
  refine lv_aload_n hx hb dX6_forget_0 rfl (lv_at hl 0 rfl) ?_
  refine lv_iconst (v := nI 0) hx hb dX6_forget_1 (by decide) ?_
  refine va_put (D := (dC, dI)) (ci := 6) (v := .int (nI 0)) (ty := .int) (C := RX6) (T := TX6) (N := 22) hx hb hts in_X6 tyX6 tyX6_ok nmX6 hown hK hP hD hS 0 rfl rfl 7 (by decide) f71 (fun _ h9 => h9) rfl (by decide +kernel) rfl rfl (Nat.le_of_ble_eq_true rfl) dX6_forget_2 (fun H locs hP hD hS => ?_)
  have hP : va_P (dC, dI) vwCl (wM b cB cI cL rb rd rq rQ rw ra ro 0 rk rv rf fN fF fB fR rl lB lR rt rg rx rz) H := hP
  have hD : va_D A (wM b cB cI cL rb rd rq rQ rw ra ro 0 rk rv rf fN fF fB fR rl lB lR rt rg rx rz) := hD
  refine lv_aload_n hx hb dX6_forget_5 rfl (lv_at hl 0 rfl) ?_
  refine lv_iconst (v := nI 0) hx hb dX6_forget_6 (by decide) ?_
  refine va_put (D := (dC, dI)) (ci := 6) (v := .int (nI 0)) (ty := .int) (C := RX6) (T := TX6) (N := 22) hx hb hts in_X6 tyX6 tyX6_ok nmX6 hown hK hP hD hS 0 rfl rfl 10 (by decide) f74 (fun _ h9 => h9) rfl (by decide +kernel) rfl rfl (Nat.le_of_ble_eq_true rfl) dX6_forget_7 (fun H locs hP hD hS => ?_)
  have hP : va_P (dC, dI) vwCl (wM b cB cI cL rb rd rq rQ rw ra ro 0 rk rv 0 fN fF fB fR rl lB lR rt rg rx rz) H := hP
  have hD : va_D A (wM b cB cI cL rb rd rq rQ rw ra ro 0 rk rv 0 fN fF fB fR rl lB lR rt rg rx rz) := hD
  refine lv_aload_n hx hb dX6_forget_10 rfl (lv_at hl 0 rfl) ?_
  refine lv_iconst (v := nI 0) hx hb dX6_forget_11 (by decide) ?_
  refine va_put (D := (dC, dI)) (ci := 6) (v := .int (nI 0)) (ty := .int) (C := RX6) (T := TX6) (N := 22) hx hb hts in_X6 tyX6 tyX6_ok nmX6 hown hK hP hD hS 0 rfl rfl 15 (by decide) f77 (fun _ h9 => h9) rfl (by decide +kernel) rfl rfl (Nat.le_of_ble_eq_true rfl) dX6_forget_12 (fun H locs hP hD hS => ?_)
  have hP : va_P (dC, dI) vwCl (wM b cB cI cL rb rd rq rQ rw ra ro 0 rk rv 0 fN fF fB fR 0 lB lR rt rg rx rz) H := hP
  have hD : va_D A (wM b cB cI cL rb rd rq rQ rw ra ro 0 rk rv 0 fN fF fB fR 0 lB lR rt rg rx rz) := hD
  refine lv_aload_n hx hb dX6_forget_15 rfl (lv_at hl 0 rfl) ?_
  refine lv_iconst (v := nI 0) hx hb dX6_forget_16 (by decide) ?_
  refine va_put (D := (dC, dI)) (ci := 6) (v := .int (nI 0)) (ty := .int) (C := RX6) (T := TX6) (N := 22) hx hb hts in_X6 tyX6 tyX6_ok nmX6 hown hK hP hD hS 0 rfl rfl 18 (by decide) f80 (fun _ h9 => h9) rfl (by decide +kernel) rfl rfl (Nat.le_of_ble_eq_true rfl) dX6_forget_17 (fun H locs hP hD hS => ?_)
  have hP : va_P (dC, dI) vwCl (wM b cB cI cL rb rd rq rQ rw ra ro 0 rk rv 0 fN fF fB fR 0 lB lR 0 rg rx rz) H := hP
  have hD : va_D A (wM b cB cI cL rb rd rq rQ rw ra ro 0 rk rv 0 fN fF fB fR 0 lB lR 0 rg rx rz) := hD
  refine lv_aload_n hx hb dX6_forget_20 rfl (lv_at hl 0 rfl) ?_
  refine lv_iconst (v := nI 0) hx hb dX6_forget_21 (by decide) ?_
  refine va_put (D := (dC, dI)) (ci := 6) (v := .int (nI 0)) (ty := .int) (C := RX6) (T := TX6) (N := 22) hx hb hts in_X6 tyX6 tyX6_ok nmX6 hown hK hP hD hS 0 rfl rfl 2 (by decide) f58 (fun _ h9 => h9) rfl (by decide +kernel) rfl rfl (Nat.le_of_ble_eq_true rfl) dX6_forget_22 (fun H locs hP hD hS => ?_)
  have hP : va_P (dC, dI) vwCl (wM b cB cI cL rb rd 0 rQ rw ra ro 0 rk rv 0 fN fF fB fR 0 lB lR 0 rg rx rz) H := hP
  have hD : va_D A (wM b cB cI cL rb rd 0 rQ rw ra ro 0 rk rv 0 fN fF fB fR 0 lB lR 0 rg rx rz) := hD
  refine lv_aload_n hx hb dX6_forget_25 rfl (lv_at hl 0 rfl) ?_
  refine lv_lconst (v := lN 0) hx hb dX6_forget_26 rfl ?_
  refine va_put (D := (dC, dI)) (ci := 6) (v := .long (lN 0)) (ty := .long) (C := RX6) (T := TX6) (N := 22) hx hb hts in_X6 tyX6 tyX6_ok nmX6 hown hK hP hD hS 0 rfl rfl 19 (by decide) f83 (fun _ h9 => h9) rfl (by decide +kernel) rfl rfl (Nat.le_of_ble_eq_true rfl) dX6_forget_27 (fun H locs hP hD hS => ?_)
  have hP : va_P (dC, dI) vwCl (wM b cB cI cL rb rd 0 rQ rw ra ro 0 rk rv 0 fN fF fB fR 0 lB lR 0 0 rx rz) H := hP
  have hD : va_D A (wM b cB cI cL rb rd 0 rQ rw ra ro 0 rk rv 0 fN fF fB fR 0 lB lR 0 0 rx rz) := hD
  refine lv_aload_n hx hb dX6_forget_30 rfl (lv_at hl 0 rfl) ?_
  refine lv_lconst (v := lN 1) hx hb dX6_forget_31 rfl ?_
  refine va_put (D := (dC, dI)) (ci := 6) (v := .long (lN 1)) (ty := .long) (C := RX6) (T := TX6) (N := 22) hx hb hts in_X6 tyX6 tyX6_ok nmX6 hown hK hP hD hS 0 rfl rfl 20 (by decide) f87 (fun _ h9 => h9) rfl (by decide +kernel) rfl rfl (Nat.le_of_ble_eq_true rfl) dX6_forget_32 (fun H locs hP hD hS => ?_)
  have hP : va_P (dC, dI) vwCl (wM b cB cI cL rb rd 0 rQ rw ra ro 0 rk rv 0 fN fF fB fR 0 lB lR 0 0 1 rz) H := hP
  have hD : va_D A (wM b cB cI cL rb rd 0 rQ rw ra ro 0 rk rv 0 fN fF fB fR 0 lB lR 0 0 1 rz) := hD
  refine lv_aload_n hx hb dX6_forget_35 rfl (lv_at hl 0 rfl) ?_
  refine lv_iconst (v := nI 0) hx hb dX6_forget_36 (by decide) ?_
  refine va_put (D := (dC, dI)) (ci := 6) (v := .int (nI 0)) (ty := .int) (C := RX6) (T := TX6) (N := 22) hx hb hts in_X6 tyX6 tyX6_ok nmX6 hown hK hP hD hS 0 rfl rfl 21 (by decide) f90 (fun _ h9 => h9) rfl (by decide +kernel) rfl rfl (Nat.le_of_ble_eq_true rfl) dX6_forget_37 (fun H locs hP hD hS => ?_)
  have hP : va_P (dC, dI) vwCl (wM b cB cI cL rb rd 0 rQ rw ra ro 0 rk rv 0 fN fF fB fR 0 lB lR 0 0 1 0) H := hP
  have hD : va_D A (wM b cB cI cL rb rd 0 rQ rw ra ro 0 rk rv 0 fN fF fB fR 0 lB lR 0 0 1 0) := hD
  exact hret dX6_forget_40 hP hD hS

set_option maxHeartbeats 4000000 in
set_option maxRecDepth 100000 in
theorem c_M_closes {l : Launch} {dC : Nat → ClassId} {dI : Nat → Nat → Nat} {A : Nat → Prop} {b : Nat → Nat} {cB cI cL : ClassId} {rb : Nat} {rd : Nat → Nat} {rq : Nat} {rQ rw : Nat → Nat} {ra : Nat} {ro : Bool} {rn : Nat} {rk rv : Nat → Int64} {rf : Nat} {fN fF fB fR : Nat → Nat} {rl : Nat} {lB lR : Nat → Nat} {rt rg rx rz : Nat} : Met l yX6_closes (Cond.code yX6_closes cX6_closes 1 none :: TB) { frames := 1, cells := 0, slots := 0, locals := 20 } (xPre (fun _ => True) (dC, dI) A (tyS cB cI cL) (wM b cB cI cL rb rd rq rQ rw ra ro rn rk rv rf fN fF fB fR rl lB lR rt rg rx rz) [.ref (b 0)]) (xQv (dC, dI) A (wM b cB cI cL rb rd 0 rQ rw ra false 0 rk rv 0 fN fF fB fR 0 lB lR 0 0 1 0)) 0 0 A := by
  refine x_ofWv (cc := cX6_closes) (maxL := 1) (by decide) rfl (Nat.le_of_ble_eq_true rfl) ?_
  intro p e s m args below meth c Q hx hb hml hts hown hK hN hP hD hS hret ls hl
  have hl : lv_has ls 1 [(0, .ref (b 0))] := hl
  have hown : s.vm.findClass RX6 = some m.cls := hown
  have f105 := hts _ (List.mem_cons_of_mem _ tw_612)
  have in_X6 := (fun q hq => List.mem_cons_of_mem _ (inX6 q hq) : ∀ q ∈ wsX60, q ∈ (Cond.code yX6_closes cX6_closes 1 none :: TB))
  refine lv_aload_n hx hb dX6_closes_0 rfl (lv_at hl 0 rfl) ?_
  refine x_callv (va_runV (As := []) (rest := []) ⟨hx, hb, hml, hown, hts⟩ (c_M_forget) (cwV 0 hts (tbV tw_602 tw_604 tw_60 tw_91 tw_605) rfl rfl rfl (by decide +kernel) ⟨Nat.le_of_ble_eq_true rfl, Nat.le_of_ble_eq_true rfl⟩) ⟨y_blind, va_recv hK hP (ci := 6) (q0 := 0) rfl rfl, y_pre hK hP hD⟩ rfl rfl hl.1 rfl (lv_room (Nat.le_of_ble_eq_true rfl)) dX6_closes_1 ⟨Nat.zero_le _, Nat.zero_le _⟩) hS (fun H locs hP hD hS => ?_)
  have hP : va_P (dC, dI) vwCl (wM b cB cI cL rb rd 0 rQ rw ra ro 0 rk rv 0 fN fF fB fR 0 lB lR 0 0 1 0) H := hP
  have hD : va_D A (wM b cB cI cL rb rd 0 rQ rw ra ro 0 rk rv 0 fN fF fB fR 0 lB lR 0 0 1 0) := hD
  refine lv_aload_n hx hb dX6_closes_4 rfl (lv_at hl 0 rfl) ?_
  refine lv_iconst (v := nI 0) hx hb dX6_closes_5 (by decide) ?_
  refine x_top (y := bI false) rfl ?_
  refine va_put (D := (dC, dI)) (ci := 6) (v := .int (bI false)) (ty := .boolean) (C := RX6) (T := TX6) (N := 22) hx hb hts in_X6 tyX6 tyX6_ok nmX6 hown hK hP hD hS 0 rfl rfl 6 (by decide) f105 (fun _ h9 => h9) rfl (by decide +kernel) (x_narZ _) (x_fitZ _) (Nat.le_of_ble_eq_true rfl) dX6_closes_6 (fun H locs hP hD hS => ?_)
  have hP : va_P (dC, dI) vwCl (wM b cB cI cL rb rd 0 rQ rw ra false 0 rk rv 0 fN fF fB fR 0 lB lR 0 0 1 0) H := hP
  have hD : va_D A (wM b cB cI cL rb rd 0 rQ rw ra false 0 rk rv 0 fN fF fB fR 0 lB lR 0 0 1 0) := hD
  exact hret dX6_closes_9 hP hD hS

set_option maxHeartbeats 4000000 in
set_option maxRecDepth 100000 in
theorem c_M_isOfFiles {l : Launch} {dC : Nat → ClassId} {dI : Nat → Nat → Nat} {A : Nat → Prop} {b : Nat → Nat} {cB cI cL : ClassId} {rb : Nat} {rd : Nat → Nat} {rq : Nat} {rQ rw : Nat → Nat} {ra : Nat} {ro : Bool} {rn : Nat} {rk rv : Nat → Int64} {rf : Nat} {fN fF fB fR : Nat → Nat} {rl : Nat} {lB lR : Nat → Nat} {rt rg rx rz : Nat} (hrf : rf ≤ 5) (hfF : ∀ j, fF j < 1048576) (hfB : ∀ j, fB j < 1048576) (y : Nat) (hy1 : y < 2 ^ 31) : Met l yX6_isOfFiles (Cond.code yX6_isOfFiles cX6_isOfFiles 3 (some .boolean) :: TB) { frames := 0, cells := 0, slots := 0, locals := 0 } (xPre (fun _ => True) (dC, dI) A (tyS cB cI cL) (wM b cB cI cL rb rd rq rQ rw ra ro rn rk rv rf fN fF fB fR rl lB lR rt rg rx rz) [.ref (b 0), .int (nI y)]) (xQi (dC, dI) A (bI (iof fF fB y rf 0)) (wM b cB cI cL rb rd rq rQ rw ra ro rn rk rv rf fN fF fB fR rl lB lR rt rg rx rz)) 0 0 A := by
  refine x_ofWz (cc := cX6_isOfFiles) (maxL := 3) (by decide) rfl (Nat.le_of_ble_eq_true rfl) (x_narZ _) ?_
  intro p e s m args below meth c Q hx hb hml hts hown hK hN hP hD hS hret ls hl
  have hl : lv_has ls 3 [(0, .ref (b 0)), (1, .int (nI y))] := hl
  have hown : s.vm.findClass RX6 = some m.cls := hown
  have f74 := hts _ (List.mem_cons_of_mem _ tw_616)
  have in_X6 := (fun q hq => List.mem_cons_of_mem _ (inX6 q hq) : ∀ q ∈ wsX60, q ∈ (Cond.code yX6_isOfFiles cX6_isOfFiles 3 (some .boolean) :: TB))
  have f30 := hts _ (List.mem_cons_of_mem _ tw_618)
  have f33 := hts _ (List.mem_cons_of_mem _ tw_619)
  refine lv_iconst (v := nI 0) hx hb dX6_isOfFiles_0 (by decide) ?_
  refine lv_istore_n (lv' := [(2, .int (nI 0)), (0, .ref (b 0)), (1, .int (nI y))]) hx hb dX6_isOfFiles_1 rfl hl (by decide) rfl (fun ls hl => ?_)
  have L2 : ∀ (fu2 : Nat) (i : Nat), (rf - i < fu2) → (i ≤ rf) → (iof fF fB y (rf - i) i = iof fF fB y rf 0) → ∀ (H : Heap) (locs : List Loc), va_P (dC, dI) vwCl (wM b cB cI cL rb rd rq rQ rw ra ro rn rk rv rf fN fF fB fR rl lB lR rt rg rx rz) H → va_D A (wM b cB cI cL rb rd rq rQ rw ra ro rn rk rv rf fN fF fB fR rl lB lR rt rg rx rz) → va_S A s.heap H locs → ∀ (ls : Array Slot), lv_has ls 3 [(0, .ref (b 0)), (1, .int (nI y)), (2, .int (nI i))] → W p l e { frames := 0, cells := 0, slots := 0, locals := 0 } s m args below meth c H locs 0 0 Q (F0 m 2 ls []) := by
    intro fu2
    induction fu2 with
    | zero => intro i hm; exact absurd hm (Nat.not_lt_zero _)
    | succ fu2 ih2 =>
      intro i hm i2_0 i2_1 H locs hP hD hS ls hl
      have q1 := hfF i
      have q2 := hfB i
      refine lv_iload_n hx hb dX6_isOfFiles_2 rfl (lv_at hl 2 rfl) ?_
      refine lv_aload_n hx hb dX6_isOfFiles_3 rfl (lv_at hl 0 rfl) ?_
      refine va_get (D := (dC, dI)) (ci := 6) (v := .int (nI rf)) (C := RX6) (T := TX6) (N := 22) hx hb hts in_X6 hown hK hP 0 rfl rfl 10 (by decide) f74 (fun _ h9 => h9) rfl dX6_isOfFiles_4 ?_
      refine x_icmp_ge (tgt := 45) hx hb dX6_isOfFiles_7 (by decide) (by omega) (by omega) (fun c7 => ?_) (fun c7 => ?_)
      · refine lv_iconst (v := nI 0) hx hb dX6_isOfFiles_45 (by decide) ?_
        exact hret dX6_isOfFiles_46 (by have h := i2_1; rw [show rf - i = 0 by omega, iof] at h; rw [← h]; rfl) hP hD hS
      · refine lv_iload_n hx hb dX6_isOfFiles_10 rfl (lv_at hl 1 rfl) ?_
        refine lv_aload_n hx hb dX6_isOfFiles_11 rfl (lv_at hl 0 rfl) ?_
        refine va_get (D := (dC, dI)) (ci := 6) (v := .ref (b 7)) (C := RX6) (T := TX6) (N := 22) hx hb hts in_X6 hown hK hP 0 rfl rfl 12 (by decide) f30 (fun _ h9 => h9) rfl dX6_isOfFiles_12 ?_
        refine lv_iload_n hx hb dX6_isOfFiles_15 rfl (lv_at hl 2 rfl) ?_
        refine x_iald hx hb hK hP 7 1 rfl rfl (by omega) (by decide) dX6_isOfFiles_16 ?_
        refine x_icmp_lt (tgt := 39) hx hb dX6_isOfFiles_17 (by decide) (by omega) (by omega) (fun c17 => ?_) (fun c17 => ?_)
        · refine lv_iinc (v := nI (i + 1)) (lv' := [(2, .int (nI (i + 1))), (0, .ref (b 0)), (1, .int (nI y))]) hx hb dX6_isOfFiles_39 hl (k := 2) rfl (x_inc _) (by decide) rfl (fun ls hl => ?_)
          refine lv_goto (tgt := 2) hx hb dX6_isOfFiles_42 (by decide) ?_
          exact ih2 (i + 1) (by omega) (by omega) (by have h := i2_1; have hh : ¬ (fF i ≤ y ∧ y < fF i + fB i) := (by omega); rw [show rf - i = (rf - (i + 1)) + 1 by omega, iof, if_neg hh] at h; exact h) _ _ hP hD hS ls (lv_sub hl [1, 2, 0] rfl)
        · refine lv_iload_n hx hb dX6_isOfFiles_20 rfl (lv_at hl 1 rfl) ?_
          refine lv_aload_n hx hb dX6_isOfFiles_21 rfl (lv_at hl 0 rfl) ?_
          refine va_get (D := (dC, dI)) (ci := 6) (v := .ref (b 7)) (C := RX6) (T := TX6) (N := 22) hx hb hts in_X6 hown hK hP 0 rfl rfl 12 (by decide) f30 (fun _ h9 => h9) rfl dX6_isOfFiles_22 ?_
          refine lv_iload_n hx hb dX6_isOfFiles_25 rfl (lv_at hl 2 rfl) ?_
          refine x_iald hx hb hK hP 7 1 rfl rfl (by omega) (by decide) dX6_isOfFiles_26 ?_
          refine lv_aload_n hx hb dX6_isOfFiles_27 rfl (lv_at hl 0 rfl) ?_
          refine va_get (D := (dC, dI)) (ci := 6) (v := .ref (b 8)) (C := RX6) (T := TX6) (N := 22) hx hb hts in_X6 hown hK hP 0 rfl rfl 13 (by decide) f33 (fun _ h9 => h9) rfl dX6_isOfFiles_28 ?_
          refine lv_iload_n hx hb dX6_isOfFiles_31 rfl (lv_at hl 2 rfl) ?_
          refine x_iald hx hb hK hP 8 1 rfl rfl (by omega) (by decide) dX6_isOfFiles_32 ?_
          refine x_iadd hx hb dX6_isOfFiles_33 ?_
          refine x_icmp_ge (tgt := 39) hx hb dX6_isOfFiles_34 (by decide) (by omega) (by omega) (fun c34 => ?_) (fun c34 => ?_)
          · refine lv_iinc (v := nI (i + 1)) (lv' := [(2, .int (nI (i + 1))), (0, .ref (b 0)), (1, .int (nI y))]) hx hb dX6_isOfFiles_39 hl (k := 2) rfl (x_inc _) (by decide) rfl (fun ls hl => ?_)
            refine lv_goto (tgt := 2) hx hb dX6_isOfFiles_42 (by decide) ?_
            exact ih2 (i + 1) (by omega) (by omega) (by have h := i2_1; have hh : ¬ (fF i ≤ y ∧ y < fF i + fB i) := (by omega); rw [show rf - i = (rf - (i + 1)) + 1 by omega, iof, if_neg hh] at h; exact h) _ _ hP hD hS ls (lv_sub hl [1, 2, 0] rfl)
          · refine lv_iconst (v := nI 1) hx hb dX6_isOfFiles_37 (by decide) ?_
            exact hret dX6_isOfFiles_38 (by have h := i2_1; have hh : fF i ≤ y ∧ y < fF i + fB i := (by omega); rw [show rf - i = (rf - (i + 1)) + 1 by omega, iof, if_pos hh] at h; rw [← h]; rfl) hP hD hS
  exact L2 (rf - 0 + 1) 0 (by omega) (by omega) (by rfl) _ _ hP hD hS ls (lv_sub hl [1, 2, 0] rfl)

set_option maxHeartbeats 4000000 in
set_option maxRecDepth 100000 in
theorem c_M_useOf {l : Launch} {dC : Nat → ClassId} {dI : Nat → Nat → Nat} {A : Nat → Prop} {b : Nat → Nat} {cB cI cL : ClassId} {rb : Nat} {rd : Nat → Nat} {rq : Nat} {rQ rw : Nat → Nat} {ra : Nat} {ro : Bool} {rn : Nat} {rk rv : Nat → Int64} {rf : Nat} {fN fF fB fR : Nat → Nat} {rl : Nat} {lB lR : Nat → Nat} {rt rg rx rz : Nat} (hrf : rf ≤ 5) (hfF : ∀ j, fF j < 1048576) (hfB : ∀ j, fB j < 1048576) (hrl : rl ≤ 62) (hlB : ∀ j, lB j < 1048576) (y : Nat) (hy1 : y < 2 ^ 31) : Met l yX6_useOf (Cond.code yX6_useOf cX6_useOf 3 (some .int) :: TB) { frames := 1, cells := 0, slots := 0, locals := 22 } (xPre (fun _ => True) (dC, dI) A (tyS cB cI cL) (wM b cB cI cL rb rd rq rQ rw ra ro rn rk rv rf fN fF fB fR rl lB lR rt rg rx rz) [.ref (b 0), .int (nI y)]) (xQi (dC, dI) A (nI (usM rf fF fB rl lB y)) (wM b cB cI cL rb rd rq rQ rw ra ro rn rk rv rf fN fF fB fR rl lB lR rt rg rx rz)) 0 0 A := by
  refine x_ofWi (cc := cX6_useOf) (maxL := 3) (by decide) rfl (Nat.le_of_ble_eq_true rfl) ?_
  intro p e s m args below meth c Q hx hb hml hts hown hK hN hP hD hS hret ls hl
  have hl : lv_has ls 3 [(0, .ref (b 0)), (1, .int (nI y))] := hl
  have hown : s.vm.findClass RX6 = some m.cls := hown
  have f77 := hts _ (List.mem_cons_of_mem _ tw_621)
  have in_X6 := (fun q hq => List.mem_cons_of_mem _ (inX6 q hq) : ∀ q ∈ wsX60, q ∈ (Cond.code yX6_useOf cX6_useOf 3 (some .int) :: TB))
  have f39 := hts _ (List.mem_cons_of_mem _ tw_622)
  refine lv_iload_n hx hb dX6_useOf_0 rfl (lv_at hl 1 rfl) ?_
  refine lv_iconst (v := nI 2) hx hb dX6_useOf_1 (by decide) ?_
  refine x_icmp_ge (tgt := 7) hx hb dX6_useOf_2 (by decide) (by omega) (by omega) (fun c2 => ?_) (fun c2 => ?_)
  · refine lv_aload_n hx hb dX6_useOf_7 rfl (lv_at hl 0 rfl) ?_
    refine lv_iload_n hx hb dX6_useOf_8 rfl (lv_at hl 1 rfl) ?_
    refine x_calli (va_runV (As := [.int (nI y)]) (rest := []) ⟨hx, hb, hml, hown, hts⟩ (c_M_isOfFiles (by omega) hfF hfB y (by omega)) (cwV 1 hts (tbV tw_686 tw_688 tw_63 tw_91 tw_689) rfl rfl rfl (by decide +kernel) ⟨Nat.le_of_ble_eq_true rfl, Nat.le_of_ble_eq_true rfl⟩) ⟨y_blind, va_recv hK hP (ci := 6) (q0 := 0) rfl rfl, y_pre hK hP hD⟩ rfl rfl hl.1 rfl (lv_room (Nat.le_of_ble_eq_true rfl)) dX6_useOf_9 ⟨Nat.zero_le _, Nat.zero_le _⟩) hS (fun H locs hP hD hS => ?_)
    have hP : va_P (dC, dI) vwCl (wM b cB cI cL rb rd rq rQ rw ra ro rn rk rv rf fN fF fB fR rl lB lR rt rg rx rz) H := hP
    have hD : va_D A (wM b cB cI cL rb rd rq rQ rw ra ro rn rk rv rf fN fF fB fR rl lB lR rt rg rx rz) := hD
    refine x_if_eq_b (tgt := 17) hx hb dX6_useOf_12 (by decide) (fun c12 => ?_) (fun c12 => ?_)
    · refine lv_iconst (v := nI 0) hx hb dX6_useOf_17 (by decide) ?_
      refine lv_istore_n (lv' := [(2, .int (nI 0)), (0, .ref (b 0)), (1, .int (nI y))]) hx hb dX6_useOf_18 rfl hl (by decide) rfl (fun ls hl => ?_)
      have L19 : ∀ (fu19 : Nat) (i : Nat), (rl - i < fu19) → (i ≤ rl) → (qhol lB y (rl - i) i = qhol lB y rl 0) → ∀ (H : Heap) (locs : List Loc), va_P (dC, dI) vwCl (wM b cB cI cL rb rd rq rQ rw ra ro rn rk rv rf fN fF fB fR rl lB lR rt rg rx rz) H → va_D A (wM b cB cI cL rb rd rq rQ rw ra ro rn rk rv rf fN fF fB fR rl lB lR rt rg rx rz) → va_S A s.heap H locs → ∀ (ls : Array Slot), lv_has ls 3 [(0, .ref (b 0)), (1, .int (nI y)), (2, .int (nI i))] → W p l e { frames := 1, cells := 0, slots := 0, locals := 22 } s m args below meth c H locs 0 0 Q (F0 m 19 ls []) := by
        intro fu19
        induction fu19 with
        | zero => intro i hm; exact absurd hm (Nat.not_lt_zero _)
        | succ fu19 ih19 =>
          intro i hm i19_0 i19_1 H locs hP hD hS ls hl
          have q1 := hlB i
          refine lv_iload_n hx hb dX6_useOf_19 rfl (lv_at hl 2 rfl) ?_
          refine lv_aload_n hx hb dX6_useOf_20 rfl (lv_at hl 0 rfl) ?_
          refine va_get (D := (dC, dI)) (ci := 6) (v := .int (nI rl)) (C := RX6) (T := TX6) (N := 22) hx hb hts in_X6 hown hK hP 0 rfl rfl 15 (by decide) f77 (fun _ h9 => h9) rfl dX6_useOf_21 ?_
          refine x_icmp_ge (tgt := 45) hx hb dX6_useOf_24 (by decide) (by omega) (by omega) (fun c24 => ?_) (fun c24 => ?_)
          · refine lv_iconst (v := nI 0) hx hb dX6_useOf_45 (by decide) ?_
            exact hret dX6_useOf_46 (by have h := i19_1; rw [show rl - i = 0 by omega, qhol] at h; rw [usM, if_neg (Nat.not_lt.mpr c2), if_neg (by rw [c12]; decide), if_neg (by rw [← h]; decide)]) hP hD hS
          · refine lv_aload_n hx hb dX6_useOf_27 rfl (lv_at hl 0 rfl) ?_
            refine va_get (D := (dC, dI)) (ci := 6) (v := .ref (b 10)) (C := RX6) (T := TX6) (N := 22) hx hb hts in_X6 hown hK hP 0 rfl rfl 16 (by decide) f39 (fun _ h9 => h9) rfl dX6_useOf_28 ?_
            refine lv_iload_n hx hb dX6_useOf_31 rfl (lv_at hl 2 rfl) ?_
            refine x_iald hx hb hK hP 10 1 rfl rfl (by omega) (by decide) dX6_useOf_32 ?_
            refine lv_iload_n hx hb dX6_useOf_33 rfl (lv_at hl 1 rfl) ?_
            refine x_icmp_ne (tgt := 39) hx hb dX6_useOf_34 (by decide) (by omega) (by omega) (fun c34 => ?_) (fun c34 => ?_)
            · refine lv_iinc (v := nI (i + 1)) (lv' := [(2, .int (nI (i + 1))), (0, .ref (b 0)), (1, .int (nI y))]) hx hb dX6_useOf_39 hl (k := 2) rfl (x_inc _) (by decide) rfl (fun ls hl => ?_)
              refine lv_goto (tgt := 19) hx hb dX6_useOf_42 (by decide) ?_
              exact ih19 (i + 1) (by omega) (by omega) (by have h := i19_1; rw [show rl - i = (rl - (i + 1)) + 1 by omega, qhol, if_neg c34] at h; exact h) _ _ hP hD hS ls (lv_sub hl [1, 2, 0] rfl)
            · refine lv_iconst (v := nI 1) hx hb dX6_useOf_37 (by decide) ?_
              exact hret dX6_useOf_38 (by have h := i19_1; rw [show rl - i = (rl - (i + 1)) + 1 by omega, qhol, if_pos c34] at h; rw [usM, if_neg (Nat.not_lt.mpr c2), if_neg (by rw [c12]; decide), if_pos h.symm]) hP hD hS
      exact L19 (rl - 0 + 1) 0 (by omega) (by omega) (by rfl) _ _ hP hD hS ls (lv_sub hl [1, 2, 0] rfl)
    · refine lv_iconst (v := nI 2) hx hb dX6_useOf_15 (by decide) ?_
      exact hret dX6_useOf_16 (by rw [usM, if_neg (Nat.not_lt.mpr c2), if_pos c12]) hP hD hS
  · refine lv_iconst (v := nI 3) hx hb dX6_useOf_5 (by decide) ?_
    exact hret dX6_useOf_6 (by rw [usM, if_pos c2]) hP hD hS

set_option maxHeartbeats 4000000 in
set_option maxRecDepth 100000 in
theorem c_M_free {l : Launch} {dC : Nat → ClassId} {dI : Nat → Nat → Nat} {A : Nat → Prop} {b : Nat → Nat} {cB cI cL : ClassId} {rb : Nat} {rd : Nat → Nat} {rq : Nat} {rQ rw : Nat → Nat} {ra : Nat} {ro : Bool} {rn : Nat} {rk rv : Nat → Int64} {rf : Nat} {fN fF fB fR : Nat → Nat} {rl : Nat} {lB lR : Nat → Nat} {rt rg rx rz : Nat} (hrb : rb ≤ 64) (hrf : rf ≤ 5) (hfF : ∀ j, fF j < 1048576) (hfB : ∀ j, fB j < 1048576) (hrl : rl ≤ 62) (hlB : ∀ j, lB j < 1048576) (w : Nat) (hw0 : 0 < w) (hw1 : w < 2 ^ 31) : Met l yX6_free (Cond.code yX6_free cX6_free 4 (some .int) :: TB) { frames := 2, cells := 0, slots := 0, locals := 44 } (xPre (fun _ => True) (dC, dI) A (tyS cB cI cL) (wM b cB cI cL rb rd rq rQ rw ra ro rn rk rv rf fN fF fB fR rl lB lR rt rg rx rz) [.ref (b 0), .int (nI w)]) (xQi (dC, dI) A (oJ (frM (usM rf fF fB rl lB) w (rb - 2) 2 0)) (wM b cB cI cL rb rd rq rQ rw ra ro rn rk rv rf fN fF fB fR rl lB lR rt rg rx rz)) 0 0 A := by
  refine x_ofWi (cc := cX6_free) (maxL := 4) (by decide) rfl (Nat.le_of_ble_eq_true rfl) ?_
  intro p e s m args below meth c Q hx hb hml hts hown hK hN hP hD hS hret ls hl
  have hl : lv_has ls 4 [(0, .ref (b 0)), (1, .int (nI w))] := hl
  have hown : s.vm.findClass RX6 = some m.cls := hown
  have f99 := hts _ (List.mem_cons_of_mem _ tw_606)
  have in_X6 := (fun q hq => List.mem_cons_of_mem _ (inX6 q hq) : ∀ q ∈ wsX60, q ∈ (Cond.code yX6_free cX6_free 4 (some .int) :: TB))
  refine lv_iconst (v := nI 0) hx hb dX6_free_0 (by decide) ?_
  refine lv_istore_n (lv' := [(2, .int (nI 0)), (0, .ref (b 0)), (1, .int (nI w))]) hx hb dX6_free_1 rfl hl (by decide) rfl (fun ls hl => ?_)
  refine lv_iconst (v := nI 2) hx hb dX6_free_2 (by decide) ?_
  refine lv_istore_n (lv' := [(3, .int (nI 2)), (2, .int (nI 0)), (0, .ref (b 0)), (1, .int (nI w))]) hx hb dX6_free_3 rfl hl (by decide) rfl (fun ls hl => ?_)
  have L4 : ∀ (fu4 : Nat) (y : Nat) (r : Nat), (rb - y < fu4) → (2 ≤ y ∧ y ≤ 66) → (r + 2 ≤ y) → (r < w) → (frM (usM rf fF fB rl lB) w (rb - y) y r = frM (usM rf fF fB rl lB) w (rb - 2) 2 0) → ∀ (H : Heap) (locs : List Loc), va_P (dC, dI) vwCl (wM b cB cI cL rb rd rq rQ rw ra ro rn rk rv rf fN fF fB fR rl lB lR rt rg rx rz) H → va_D A (wM b cB cI cL rb rd rq rQ rw ra ro rn rk rv rf fN fF fB fR rl lB lR rt rg rx rz) → va_S A s.heap H locs → ∀ (ls : Array Slot), lv_has ls 4 [(0, .ref (b 0)), (1, .int (nI w)), (2, .int (nI r)), (3, .int (nI y))] → W p l e { frames := 2, cells := 0, slots := 0, locals := 44 } s m args below meth c H locs 0 0 Q (F0 m 4 ls []) := by
    intro fu4
    induction fu4 with
    | zero => intro y r hm; exact absurd hm (Nat.not_lt_zero _)
    | succ fu4 ih4 =>
      intro y r hm i4_0 i4_1 i4_2 i4_3 H locs hP hD hS ls hl
      refine lv_iload_n hx hb dX6_free_4 rfl (lv_at hl 3 rfl) ?_
      refine lv_aload_n hx hb dX6_free_5 rfl (lv_at hl 0 rfl) ?_
      refine va_get (D := (dC, dI)) (ci := 6) (v := .int (nI rb)) (C := RX6) (T := TX6) (N := 22) hx hb hts in_X6 hown hK hP 0 rfl rfl 0 (by decide) f99 (fun _ h9 => h9) rfl dX6_free_6 ?_
      refine x_icmp_ge (tgt := 45) hx hb dX6_free_9 (by decide) (by omega) (by omega) (fun c9 => ?_) (fun c9 => ?_)
      · refine lv_iconst (v := (-1)) hx hb dX6_free_45 (by decide) ?_
        exact hret dX6_free_46 (by have h := i4_3; rw [show rb - y = 0 by omega, frM] at h; rw [← h]; rfl) hP hD hS
      · refine lv_aload_n hx hb dX6_free_12 rfl (lv_at hl 0 rfl) ?_
        refine lv_iload_n hx hb dX6_free_13 rfl (lv_at hl 3 rfl) ?_
        refine x_calli (va_runV (As := [.int (nI y)]) (rest := []) ⟨hx, hb, hml, hown, hts⟩ (c_M_useOf (by omega) hfF hfB (by omega) hlB y (by omega)) (cwV 1 hts (tbV tw_682 tw_684 tw_62 tw_91 tw_685) rfl rfl rfl (by decide +kernel) ⟨Nat.le_of_ble_eq_true rfl, Nat.le_of_ble_eq_true rfl⟩) ⟨y_blind, va_recv hK hP (ci := 6) (q0 := 0) rfl rfl, y_pre hK hP hD⟩ rfl rfl hl.1 rfl (lv_room (Nat.le_of_ble_eq_true rfl)) dX6_free_14 ⟨Nat.zero_le _, Nat.zero_le _⟩) hS (fun H locs hP hD hS => ?_)
        have hP : va_P (dC, dI) vwCl (wM b cB cI cL rb rd rq rQ rw ra ro rn rk rv rf fN fF fB fR rl lB lR rt rg rx rz) H := hP
        have hD : va_D A (wM b cB cI cL rb rd rq rQ rw ra ro rn rk rv rf fN fF fB fR rl lB lR rt rg rx rz) := hD
        have hv14 : usM rf fF fB rl lB y < 4 := usM_lt
        refine x_if_ne (tgt := 26) hx hb dX6_free_17 (by decide) (by omega) (fun c17 => ?_) (fun c17 => ?_)
        · refine lv_iconst (v := nI 0) hx hb dX6_free_26 (by decide) ?_
          refine lv_istore_n (lv' := [(2, .int (nI 0)), (0, .ref (b 0)), (1, .int (nI w)), (3, .int (nI y))]) hx hb dX6_free_27 rfl hl (by decide) rfl (fun ls hl => ?_)
          refine lv_iload_n hx hb dX6_free_28 rfl (lv_at hl 0 rfl) ?_
          refine lv_iload_n hx hb dX6_free_29 rfl (lv_at hl 2 rfl) ?_
          refine x_icmp_ne (tgt := 39) hx hb dX6_free_30 (by decide) (by omega) (by omega) (fun c30 => ?_) (fun c30 => ?_)
          · refine lv_iinc (v := nI (y + 1)) (lv' := [(3, .int (nI (y + 1))), (2, .int (nI 0)), (0, .ref (b 0)), (1, .int (nI w))]) hx hb dX6_free_39 hl (k := 3) rfl (x_inc _) (by decide) rfl (fun ls hl => ?_)
            refine lv_goto (tgt := 4) hx hb dX6_free_42 (by decide) ?_
            exact ih4 (y + 1) 0 (by omega) (by omega) (by omega) (by omega) (by have h := i4_3; rw [show rb - y = (rb - (y + 1)) + 1 by omega, frM] at h; first | (rw [if_pos c17, if_neg c30] at h; exact h) | (rw [if_neg c17, if_neg c30] at h; exact h)) _ _ hP hD hS ls (lv_sub hl [2, 3, 1, 0] rfl)
          · refine lv_iload_n hx hb dX6_free_33 rfl (lv_at hl 3 rfl) ?_
            refine lv_iload_n hx hb dX6_free_34 rfl (lv_at hl 2 rfl) ?_
            refine lv_isub hx hb dX6_free_35 ?_
            refine lv_iconst (v := nI 1) hx hb dX6_free_36 (by decide) ?_
            refine lv_iadd hx hb dX6_free_37 ?_
            exact hret dX6_free_38 (by first | exact absurd c30 (by omega) | (have h := i4_3; rw [show rb - y = (rb - (y + 1)) + 1 by omega, frM, if_pos c17, if_pos c30] at h; rw [← h]; exact x_lr (by omega))) hP hD hS
        · refine lv_iload_n hx hb dX6_free_20 rfl (lv_at hl 2 rfl) ?_
          refine lv_iconst (v := nI 1) hx hb dX6_free_21 (by decide) ?_
          refine x_iadd hx hb dX6_free_22 ?_
          refine lv_goto (tgt := 27) hx hb dX6_free_23 (by decide) ?_
          refine lv_istore_n (lv' := [(2, .int (nI (r + 1))), (0, .ref (b 0)), (1, .int (nI w)), (3, .int (nI y))]) hx hb dX6_free_27 rfl hl (by decide) rfl (fun ls hl => ?_)
          refine lv_iload_n hx hb dX6_free_28 rfl (lv_at hl 0 rfl) ?_
          refine lv_iload_n hx hb dX6_free_29 rfl (lv_at hl 2 rfl) ?_
          refine x_icmp_ne (tgt := 39) hx hb dX6_free_30 (by decide) (by omega) (by omega) (fun c30 => ?_) (fun c30 => ?_)
          · refine lv_iinc (v := nI (y + 1)) (lv' := [(3, .int (nI (y + 1))), (2, .int (nI (r + 1))), (0, .ref (b 0)), (1, .int (nI w))]) hx hb dX6_free_39 hl (k := 3) rfl (x_inc _) (by decide) rfl (fun ls hl => ?_)
            refine lv_goto (tgt := 4) hx hb dX6_free_42 (by decide) ?_
            exact ih4 (y + 1) (r + 1) (by omega) (by omega) (by omega) (by omega) (by have h := i4_3; rw [show rb - y = (rb - (y + 1)) + 1 by omega, frM] at h; first | (rw [if_pos c17, if_neg c30] at h; exact h) | (rw [if_neg c17, if_neg c30] at h; exact h)) _ _ hP hD hS ls (lv_sub hl [2, 3, 1, 0] rfl)
          · refine lv_iload_n hx hb dX6_free_33 rfl (lv_at hl 3 rfl) ?_
            refine lv_iload_n hx hb dX6_free_34 rfl (lv_at hl 2 rfl) ?_
            refine lv_isub hx hb dX6_free_35 ?_
            refine lv_iconst (v := nI 1) hx hb dX6_free_36 (by decide) ?_
            refine lv_iadd hx hb dX6_free_37 ?_
            exact hret dX6_free_38 (by first | exact absurd c30 (by omega) | (have h := i4_3; rw [show rb - y = (rb - (y + 1)) + 1 by omega, frM, if_pos c17, if_pos c30] at h; rw [← h]; exact x_lr (by omega))) hP hD hS
  exact L4 (rb - 2 + 1) 2 0 (by omega) (by omega) (by omega) (by omega) (by rfl) _ _ hP hD hS ls (lv_sub hl [2, 3, 1, 0] rfl)

set_option maxHeartbeats 4000000 in
set_option maxRecDepth 100000 in
theorem c_M_inFiles {l : Launch} {dC : Nat → ClassId} {dI : Nat → Nat → Nat} {A : Nat → Prop} {b : Nat → Nat} {cB cI cL : ClassId} {rb : Nat} {rd : Nat → Nat} {rq : Nat} {rQ rw : Nat → Nat} {ra : Nat} {ro : Bool} {rn : Nat} {rk rv : Nat → Int64} {rf : Nat} {fN fF fB fR : Nat → Nat} {rl : Nat} {lB lR : Nat → Nat} {rt rg rx rz : Nat} (hrf : rf ≤ 5) (hfR : ∀ j, fR j < 1048576) : Met l yX6_inFiles (Cond.code yX6_inFiles cX6_inFiles 3 (some .int) :: TB) { frames := 0, cells := 0, slots := 0, locals := 0 } (xPre (fun _ => True) (dC, dI) A (tyS cB cI cL) (wM b cB cI cL rb rd rq rQ rw ra ro rn rk rv rf fN fF fB fR rl lB lR rt rg rx rz) [.ref (b 0)]) (xQi (dC, dI) A (nI (ifM fR rf 0 0)) (wM b cB cI cL rb rd rq rQ rw ra ro rn rk rv rf fN fF fB fR rl lB lR rt rg rx rz)) 0 0 A := by
  refine x_ofWi (cc := cX6_inFiles) (maxL := 3) (by decide) rfl (Nat.le_of_ble_eq_true rfl) ?_
  intro p e s m args below meth c Q hx hb hml hts hown hK hN hP hD hS hret ls hl
  have hl : lv_has ls 3 [(0, .ref (b 0))] := hl
  have hown : s.vm.findClass RX6 = some m.cls := hown
  have f74 := hts _ (List.mem_cons_of_mem _ tw_616)
  have in_X6 := (fun q hq => List.mem_cons_of_mem _ (inX6 q hq) : ∀ q ∈ wsX60, q ∈ (Cond.code yX6_inFiles cX6_inFiles 3 (some .int) :: TB))
  have f36 := hts _ (List.mem_cons_of_mem _ tw_620)
  refine lv_iconst (v := nI 0) hx hb dX6_inFiles_0 (by decide) ?_
  refine lv_istore_n (lv' := [(1, .int (nI 0)), (0, .ref (b 0))]) hx hb dX6_inFiles_1 rfl hl (by decide) rfl (fun ls hl => ?_)
  refine lv_iconst (v := nI 0) hx hb dX6_inFiles_2 (by decide) ?_
  refine lv_istore_n (lv' := [(2, .int (nI 0)), (1, .int (nI 0)), (0, .ref (b 0))]) hx hb dX6_inFiles_3 rfl hl (by decide) rfl (fun ls hl => ?_)
  have L4 : ∀ (fu4 : Nat) (i : Nat) (r : Nat), (rf - i < fu4) → (i ≤ rf) → (r ≤ i * 1048576) → (ifM fR (rf - i) i r = ifM fR rf 0 0) → ∀ (H : Heap) (locs : List Loc), va_P (dC, dI) vwCl (wM b cB cI cL rb rd rq rQ rw ra ro rn rk rv rf fN fF fB fR rl lB lR rt rg rx rz) H → va_D A (wM b cB cI cL rb rd rq rQ rw ra ro rn rk rv rf fN fF fB fR rl lB lR rt rg rx rz) → va_S A s.heap H locs → ∀ (ls : Array Slot), lv_has ls 3 [(0, .ref (b 0)), (1, .int (nI r)), (2, .int (nI i))] → W p l e { frames := 0, cells := 0, slots := 0, locals := 0 } s m args below meth c H locs 0 0 Q (F0 m 4 ls []) := by
    intro fu4
    induction fu4 with
    | zero => intro i r hm; exact absurd hm (Nat.not_lt_zero _)
    | succ fu4 ih4 =>
      intro i r hm i4_0 i4_1 i4_2 H locs hP hD hS ls hl
      have q1 := hfR i
      refine lv_iload_n hx hb dX6_inFiles_4 rfl (lv_at hl 2 rfl) ?_
      refine lv_aload_n hx hb dX6_inFiles_5 rfl (lv_at hl 0 rfl) ?_
      refine va_get (D := (dC, dI)) (ci := 6) (v := .int (nI rf)) (C := RX6) (T := TX6) (N := 22) hx hb hts in_X6 hown hK hP 0 rfl rfl 10 (by decide) f74 (fun _ h9 => h9) rfl dX6_inFiles_6 ?_
      refine x_icmp_ge (tgt := 27) hx hb dX6_inFiles_9 (by decide) (by omega) (by omega) (fun c9 => ?_) (fun c9 => ?_)
      · refine lv_iload_n hx hb dX6_inFiles_27 rfl (lv_at hl 1 rfl) ?_
        exact hret dX6_inFiles_28 (by have h := i4_2; rw [show rf - i = 0 by omega, ifM] at h; rw [h]) hP hD hS
      · refine lv_iload_n hx hb dX6_inFiles_12 rfl (lv_at hl 1 rfl) ?_
        refine lv_aload_n hx hb dX6_inFiles_13 rfl (lv_at hl 0 rfl) ?_
        refine va_get (D := (dC, dI)) (ci := 6) (v := .ref (b 9)) (C := RX6) (T := TX6) (N := 22) hx hb hts in_X6 hown hK hP 0 rfl rfl 14 (by decide) f36 (fun _ h9 => h9) rfl dX6_inFiles_14 ?_
        refine lv_iload_n hx hb dX6_inFiles_17 rfl (lv_at hl 2 rfl) ?_
        refine x_iald hx hb hK hP 9 1 rfl rfl (by omega) (by decide) dX6_inFiles_18 ?_
        refine x_iadd hx hb dX6_inFiles_19 ?_
        refine lv_istore_n (lv' := [(1, .int (nI (r + (fR i)))), (0, .ref (b 0)), (2, .int (nI i))]) hx hb dX6_inFiles_20 rfl hl (by decide) rfl (fun ls hl => ?_)
        refine lv_iinc (v := nI (i + 1)) (lv' := [(2, .int (nI (i + 1))), (1, .int (nI (r + (fR i)))), (0, .ref (b 0))]) hx hb dX6_inFiles_21 hl (k := 2) rfl (x_inc _) (by decide) rfl (fun ls hl => ?_)
        refine lv_goto (tgt := 4) hx hb dX6_inFiles_24 (by decide) ?_
        exact ih4 (i + 1) (r + (fR i)) (by omega) (by omega) (by omega) (by have h := i4_2; rw [show rf - i = (rf - (i + 1)) + 1 by omega, ifM] at h; exact h) _ _ hP hD hS ls (lv_sub hl [2, 1, 0] rfl)
  exact L4 (rf - 0 + 1) 0 0 (by omega) (by omega) (by omega) (by rfl) _ _ hP hD hS ls (lv_sub hl [2, 1, 0] rfl)

set_option maxHeartbeats 4000000 in
set_option maxRecDepth 100000 in
theorem c_M_isQueued {l : Launch} {dC : Nat → ClassId} {dI : Nat → Nat → Nat} {A : Nat → Prop} {b : Nat → Nat} {cB cI cL : ClassId} {rb : Nat} {rd : Nat → Nat} {rq : Nat} {rQ rw : Nat → Nat} {ra : Nat} {ro : Bool} {rn : Nat} {rk rv : Nat → Int64} {rf : Nat} {fN fF fB fR : Nat → Nat} {rl : Nat} {lB lR : Nat → Nat} {rt rg rx rz : Nat} (hrQ : ∀ j, rQ j < 64) (hrq : rq ≤ 128) (y : Nat) (hy1 : y < 2 ^ 31) : Met l yX6_isQueued (Cond.code yX6_isQueued cX6_isQueued 3 (some .boolean) :: TB) { frames := 0, cells := 0, slots := 0, locals := 0 } (xPre (fun _ => True) (dC, dI) A (tyS cB cI cL) (wM b cB cI cL rb rd rq rQ rw ra ro rn rk rv rf fN fF fB fR rl lB lR rt rg rx rz) [.ref (b 0), .int (nI y)]) (xQi (dC, dI) A (bI (qhol rQ y rq 0)) (wM b cB cI cL rb rd rq rQ rw ra ro rn rk rv rf fN fF fB fR rl lB lR rt rg rx rz)) 0 0 A := by
  refine x_ofWz (cc := cX6_isQueued) (maxL := 3) (by decide) rfl (Nat.le_of_ble_eq_true rfl) (x_narZ _) ?_
  intro p e s m args below meth c Q hx hb hml hts hown hK hN hP hD hS hret ls hl
  have hl : lv_has ls 3 [(0, .ref (b 0)), (1, .int (nI y))] := hl
  have hown : s.vm.findClass RX6 = some m.cls := hown
  have f58 := hts _ (List.mem_cons_of_mem _ tw_608)
  have in_X6 := (fun q hq => List.mem_cons_of_mem _ (inX6 q hq) : ∀ q ∈ wsX60, q ∈ (Cond.code yX6_isQueued cX6_isQueued 3 (some .boolean) :: TB))
  have f13 := hts _ (List.mem_cons_of_mem _ tw_609)
  refine lv_iconst (v := nI 0) hx hb dX6_isQueued_0 (by decide) ?_
  refine lv_istore_n (lv' := [(2, .int (nI 0)), (0, .ref (b 0)), (1, .int (nI y))]) hx hb dX6_isQueued_1 rfl hl (by decide) rfl (fun ls hl => ?_)
  have L2 : ∀ (fu2 : Nat) (i : Nat), (rq - i < fu2) → (i ≤ rq) → (qhol rQ y (rq - i) i = qhol rQ y rq 0) → ∀ (H : Heap) (locs : List Loc), va_P (dC, dI) vwCl (wM b cB cI cL rb rd rq rQ rw ra ro rn rk rv rf fN fF fB fR rl lB lR rt rg rx rz) H → va_D A (wM b cB cI cL rb rd rq rQ rw ra ro rn rk rv rf fN fF fB fR rl lB lR rt rg rx rz) → va_S A s.heap H locs → ∀ (ls : Array Slot), lv_has ls 3 [(0, .ref (b 0)), (1, .int (nI y)), (2, .int (nI i))] → W p l e { frames := 0, cells := 0, slots := 0, locals := 0 } s m args below meth c H locs 0 0 Q (F0 m 2 ls []) := by
    intro fu2
    induction fu2 with
    | zero => intro i hm; exact absurd hm (Nat.not_lt_zero _)
    | succ fu2 ih2 =>
      intro i hm i2_0 i2_1 H locs hP hD hS ls hl
      have q1 := hrQ i
      refine lv_iload_n hx hb dX6_isQueued_2 rfl (lv_at hl 2 rfl) ?_
      refine lv_aload_n hx hb dX6_isQueued_3 rfl (lv_at hl 0 rfl) ?_
      refine va_get (D := (dC, dI)) (ci := 6) (v := .int (nI rq)) (C := RX6) (T := TX6) (N := 22) hx hb hts in_X6 hown hK hP 0 rfl rfl 2 (by decide) f58 (fun _ h9 => h9) rfl dX6_isQueued_4 ?_
      refine x_icmp_ge (tgt := 28) hx hb dX6_isQueued_7 (by decide) (by omega) (by omega) (fun c7 => ?_) (fun c7 => ?_)
      · refine lv_iconst (v := nI 0) hx hb dX6_isQueued_28 (by decide) ?_
        exact hret dX6_isQueued_29 (by have h := i2_1; rw [show rq - i = 0 by omega, qhol] at h; rw [← h]; rfl) hP hD hS
      · refine lv_aload_n hx hb dX6_isQueued_10 rfl (lv_at hl 0 rfl) ?_
        refine va_get (D := (dC, dI)) (ci := 6) (v := .ref (b 2)) (C := RX6) (T := TX6) (N := 22) hx hb hts in_X6 hown hK hP 0 rfl rfl 3 (by decide) f13 (fun _ h9 => h9) rfl dX6_isQueued_11 ?_
        refine lv_iload_n hx hb dX6_isQueued_14 rfl (lv_at hl 2 rfl) ?_
        refine x_iald hx hb hK hP 2 1 rfl rfl (by omega) (by decide) dX6_isQueued_15 ?_
        refine lv_iload_n hx hb dX6_isQueued_16 rfl (lv_at hl 1 rfl) ?_
        refine x_icmp_ne (tgt := 22) hx hb dX6_isQueued_17 (by decide) (by omega) (by omega) (fun c17 => ?_) (fun c17 => ?_)
        · refine lv_iinc (v := nI (i + 1)) (lv' := [(2, .int (nI (i + 1))), (0, .ref (b 0)), (1, .int (nI y))]) hx hb dX6_isQueued_22 hl (k := 2) rfl (x_inc _) (by decide) rfl (fun ls hl => ?_)
          refine lv_goto (tgt := 2) hx hb dX6_isQueued_25 (by decide) ?_
          exact ih2 (i + 1) (by omega) (by omega) (by have h := i2_1; rw [show rq - i = (rq - (i + 1)) + 1 by omega, qhol, if_neg c17] at h; exact h) _ _ hP hD hS ls (lv_sub hl [1, 2, 0] rfl)
        · refine lv_iconst (v := nI 1) hx hb dX6_isQueued_20 (by decide) ?_
          exact hret dX6_isQueued_21 (by have h := i2_1; rw [show rq - i = (rq - (i + 1)) + 1 by omega, qhol, if_pos c17] at h; rw [← h]; rfl) hP hD hS
  exact L2 (rq - 0 + 1) 0 (by omega) (by omega) (by rfl) _ _ hP hD hS ls (lv_sub hl [1, 2, 0] rfl)

set_option maxHeartbeats 4000000 in
set_option maxRecDepth 100000 in
theorem c_M_pours {l : Launch} {dC : Nat → ClassId} {dI : Nat → Nat → Nat} {A : Nat → Prop} {b : Nat → Nat} {cB cI cL : ClassId} {rb : Nat} {rd : Nat → Nat} {rq : Nat} {rQ rw : Nat → Nat} {ra : Nat} {ro : Bool} {rn : Nat} {rk rv : Nat → Int64} {rf : Nat} {fN fF fB fR : Nat → Nat} {rl : Nat} {lB lR : Nat → Nat} {rt rg rx rz : Nat} (hrd : ∀ j, rd j < 256) (hrw : ∀ j, rw j < 256) (hrQ : ∀ j, rQ j < 64) (hrq : rq ≤ 128) (m1 : Nat) (hm1 : m1 < 2 ^ 31) : Met l yX6_pours (Cond.code yX6_pours cX6_pours 9 (some .int) :: TB) { frames := 0, cells := 0, slots := 0, locals := 0 } (xPre (fun _ => True) (dC, dI) A (tyS cB cI cL) (wM b cB cI cL rb rd rq rQ rw ra ro rn rk rv rf fN fF fB fR rl lB lR rt rg rx rz) [.ref (b 0), .long (lN m1)]) (xQi (dC, dI) A (nI (prO rQ rw rq 0 m1 0 rd).1) (wM b cB cI cL rb ((prO rQ rw rq 0 m1 0 rd).2) 0 rQ rw ra ro rn rk rv rf fN fF fB fR rl lB lR rt rg rx rz)) 0 0 A := by
  refine x_ofWi (cc := cX6_pours) (maxL := 9) (by decide) rfl (Nat.le_of_ble_eq_true rfl) ?_
  intro p e s m args below meth c Q hx hb hml hts hown hK hN hP hD hS hret ls hl
  have hl : lv_has ls 9 [(0, .ref (b 0)), (1, .long (lN m1))] := hl
  have hown : s.vm.findClass RX6 = some m.cls := hown
  have f58 := hts _ (List.mem_cons_of_mem _ tw_608)
  have in_X6 := (fun q hq => List.mem_cons_of_mem _ (inX6 q hq) : ∀ q ∈ wsX60, q ∈ (Cond.code yX6_pours cX6_pours 9 (some .int) :: TB))
  have f7 := hts _ (List.mem_cons_of_mem _ tw_607)
  have f13 := hts _ (List.mem_cons_of_mem _ tw_609)
  have f17 := hts _ (List.mem_cons_of_mem _ tw_610)
  refine lv_iconst (v := nI 0) hx hb dX6_pours_0 (by decide) ?_
  refine lv_istore_n (lv' := [(3, .int (nI 0)), (0, .ref (b 0)), (1, .long (lN m1))]) hx hb dX6_pours_1 rfl hl (by decide) rfl (fun ls hl => ?_)
  refine lv_lload_n hx hb dX6_pours_2 rfl (lv_at hl 2 rfl) ?_
  refine lv_lstore (lv' := [(4, .long (lN m1)), (3, .int (nI 0)), (0, .ref (b 0)), (1, .long (lN m1))]) hx hb dX6_pours_3 hl (by decide) rfl (fun ls hl => ?_)
  refine lv_iconst (v := nI 0) hx hb dX6_pours_5 (by decide) ?_
  refine lv_istore (lv' := [(6, .int (nI 0)), (4, .long (lN m1)), (3, .int (nI 0)), (0, .ref (b 0)), (1, .long (lN m1))]) hx hb dX6_pours_6 hl (by decide) rfl (fun ls hl => ?_)
  have L8 : ∀ (fu8 : Nat) (i : Nat) (left : Nat) (n : Nat) (d' : Nat → Nat), (rq - i < fu8) → (i ≤ rq) → (left < 2 ^ 31) → (n ≤ i) → (∀ q, d' q < 256) → (prO rQ rw (rq - i) i left n d' = prO rQ rw rq 0 m1 0 rd) → ∀ (H : Heap) (locs : List Loc), va_P (dC, dI) vwCl (wM b cB cI cL rb d' rq rQ rw ra ro rn rk rv rf fN fF fB fR rl lB lR rt rg rx rz) H → va_D A (wM b cB cI cL rb d' rq rQ rw ra ro rn rk rv rf fN fF fB fR rl lB lR rt rg rx rz) → va_S A s.heap H locs → ∀ (ls : Array Slot), lv_has ls 9 [(0, .ref (b 0)), (1, .long (lN m1)), (3, .int (nI n)), (4, .long (lN left)), (6, .int (nI i))] → W p l e { frames := 0, cells := 0, slots := 0, locals := 0 } s m args below meth c H locs 0 0 Q (F0 m 8 ls []) := by
    intro fu8
    induction fu8 with
    | zero => intro i left n d' hm; exact absurd hm (Nat.not_lt_zero _)
    | succ fu8 ih8 =>
      intro i left n d' hm i8_0 i8_1 i8_2 i8_3 i8_4 H locs hP hD hS ls hl
      have q1 := hrQ i
      refine lv_iload hx hb dX6_pours_8 (lv_at hl 4 rfl) ?_
      refine lv_aload_n hx hb dX6_pours_10 rfl (lv_at hl 0 rfl) ?_
      refine va_get (D := (dC, dI)) (ci := 6) (v := .int (nI rq)) (C := RX6) (T := TX6) (N := 22) hx hb hts in_X6 hown hK hP 0 rfl rfl 2 (by decide) f58 (fun _ h9 => h9) rfl dX6_pours_11 ?_
      refine x_icmp_ge (tgt := 119) hx hb dX6_pours_14 (by decide) (by omega) (by omega) (fun c14 => ?_) (fun c14 => ?_)
      · have zz : (prO rQ rw rq 0 m1 0 rd) = (n, d') := by
          have h := i8_4
          first
          | (rw [show rq - i = 0 by omega, prO] at h; exact h.symm)
          | (rcases Nat.eq_zero_or_pos (rq - i) with q | q
             · rw [q, prO] at h; exact h.symm
             · rw [show rq - i = (rq - (i + 1)) + 1 by omega, prO, if_pos c21] at h; exact h.symm)
        refine lv_aload_n hx hb dX6_pours_119 rfl (lv_at hl 0 rfl) ?_
        refine lv_iconst (v := nI 0) hx hb dX6_pours_120 (by decide) ?_
        refine va_put (D := (dC, dI)) (ci := 6) (v := .int (nI 0)) (ty := .int) (C := RX6) (T := TX6) (N := 22) hx hb hts in_X6 tyX6 tyX6_ok nmX6 hown hK hP hD hS 0 rfl rfl 2 (by decide) f58 (fun _ h9 => h9) rfl (by decide +kernel) rfl rfl (Nat.le_of_ble_eq_true rfl) dX6_pours_121 (fun H locs hP hD hS => ?_)
        have hP : va_P (dC, dI) vwCl (wM b cB cI cL rb d' 0 rQ rw ra ro rn rk rv rf fN fF fB fR rl lB lR rt rg rx rz) H := hP
        have hD : va_D A (wM b cB cI cL rb d' 0 rQ rw ra ro rn rk rv rf fN fF fB fR rl lB lR rt rg rx rz) := hD
        refine lv_iload_n hx hb dX6_pours_124 rfl (lv_at hl 2 rfl) ?_
        have e1 : d' = ((prO rQ rw rq 0 m1 0 rd).2) := by rw [zz]
        have h9 : wM b cB cI cL rb d' 0 rQ rw ra ro rn rk rv rf fN fF fB fR rl lB lR rt rg rx rz = wM b cB cI cL rb ((prO rQ rw rq 0 m1 0 rd).2) 0 rQ rw ra ro rn rk rv rf fN fF fB fR rl lB lR rt rg rx rz := by rw [← e1]
        have hP := x_wP h9 hP
        have hD := x_wD h9 hD
        exact hret dX6_pours_125 (by rw [zz]) hP hD hS
      · refine lv_lload hx hb dX6_pours_17 (lv_at hl 3 rfl) ?_
        refine lv_lconst (v := lN 0) hx hb dX6_pours_19 rfl ?_
        refine W.lcmp hx hb dX6_pours_20 ?_
        refine x_lif_le (tgt := 119) hx hb dX6_pours_21 (by decide) (fun c21 => ?_) (fun c21 => ?_)
        · have c21 : left = 0 := Nat.le_zero.mp ((pk_lLE (by omega) (by decide)).mp c21)
          have zz : (prO rQ rw rq 0 m1 0 rd) = (n, d') := by
            have h := i8_4
            first
            | (rw [show rq - i = 0 by omega, prO] at h; exact h.symm)
            | (rcases Nat.eq_zero_or_pos (rq - i) with q | q
               · rw [q, prO] at h; exact h.symm
               · rw [show rq - i = (rq - (i + 1)) + 1 by omega, prO, if_pos c21] at h; exact h.symm)
          refine lv_aload_n hx hb dX6_pours_119 rfl (lv_at hl 0 rfl) ?_
          refine lv_iconst (v := nI 0) hx hb dX6_pours_120 (by decide) ?_
          refine va_put (D := (dC, dI)) (ci := 6) (v := .int (nI 0)) (ty := .int) (C := RX6) (T := TX6) (N := 22) hx hb hts in_X6 tyX6 tyX6_ok nmX6 hown hK hP hD hS 0 rfl rfl 2 (by decide) f58 (fun _ h9 => h9) rfl (by decide +kernel) rfl rfl (Nat.le_of_ble_eq_true rfl) dX6_pours_121 (fun H locs hP hD hS => ?_)
          have hP : va_P (dC, dI) vwCl (wM b cB cI cL rb d' 0 rQ rw ra ro rn rk rv rf fN fF fB fR rl lB lR rt rg rx rz) H := hP
          have hD : va_D A (wM b cB cI cL rb d' 0 rQ rw ra ro rn rk rv rf fN fF fB fR rl lB lR rt rg rx rz) := hD
          refine lv_iload_n hx hb dX6_pours_124 rfl (lv_at hl 2 rfl) ?_
          have e2 : d' = ((prO rQ rw rq 0 m1 0 rd).2) := by rw [zz]
          have h9 : wM b cB cI cL rb d' 0 rQ rw ra ro rn rk rv rf fN fF fB fR rl lB lR rt rg rx rz = wM b cB cI cL rb ((prO rQ rw rq 0 m1 0 rd).2) 0 rQ rw ra ro rn rk rv rf fN fF fB fR rl lB lR rt rg rx rz := by rw [← e2]
          have hP := x_wP h9 hP
          have hD := x_wD h9 hD
          exact hret dX6_pours_125 (by rw [zz]) hP hD hS
        · have c21 : 0 < left := Nat.lt_of_not_le (fun q => c21 ((pk_lLE (by omega) (by decide)).mpr q))
          refine lv_lload hx hb dX6_pours_24 (lv_at hl 3 rfl) ?_
          refine lv_ldc2 (v := lN 64) hx hb hown (hts _ (List.mem_cons_of_mem _ tw_598)) dX6_pours_26 ?_
          refine W.lcmp hx hb dX6_pours_29 ?_
          have L43 : ∀ (H : Heap) (locs : List Loc), va_P (dC, dI) vwCl (wM b cB cI cL rb d' rq rQ rw ra ro rn rk rv rf fN fF fB fR rl lB lR rt rg rx rz) H → va_D A (wM b cB cI cL rb d' rq rQ rw ra ro rn rk rv rf fN fF fB fR rl lB lR rt rg rx rz) → va_S A s.heap H locs → ∀ (ls : Array Slot), lv_has ls 9 [(0, .ref (b 0)), (1, .long (lN m1)), (3, .int (nI n)), (4, .long (lN left)), (6, .int (nI i)), (7, .int (nI (min left 64)))] → W p l e { frames := 0, cells := 0, slots := 0, locals := 0 } s m args below meth c H locs 0 0 Q (F0 m 43 ls []) := by
            intro   H locs hP hD hS ls hl
            refine lv_iconst (v := nI 0) hx hb dX6_pours_43 (by decide) ?_
            refine lv_istore (lv' := [(8, .int (nI 0)), (0, .ref (b 0)), (1, .long (lN m1)), (3, .int (nI n)), (4, .long (lN left)), (6, .int (nI i)), (7, .int (nI (min left 64)))]) hx hb dX6_pours_44 hl (by decide) rfl (fun ls hl => ?_)
            have L46 : ∀ (fu46 : Nat) (j : Nat) (e' : Nat → Nat), (min left 64 - j < fu46) → (j ≤ min left 64) → (∀ q, e' q < 256) → (prI rQ rw i (min left 64 - j) j e' = prI rQ rw i (min left 64) 0 d') → ∀ (H : Heap) (locs : List Loc), va_P (dC, dI) vwCl (wM b cB cI cL rb e' rq rQ rw ra ro rn rk rv rf fN fF fB fR rl lB lR rt rg rx rz) H → va_D A (wM b cB cI cL rb e' rq rQ rw ra ro rn rk rv rf fN fF fB fR rl lB lR rt rg rx rz) → va_S A s.heap H locs → ∀ (ls : Array Slot), lv_has ls 9 [(0, .ref (b 0)), (1, .long (lN m1)), (3, .int (nI n)), (4, .long (lN left)), (6, .int (nI i)), (7, .int (nI (min left 64))), (8, .int (nI j))] → W p l e { frames := 0, cells := 0, slots := 0, locals := 0 } s m args below meth c H locs 0 0 Q (F0 m 46 ls []) := by
              intro fu46
              induction fu46 with
              | zero => intro j e' hm; exact absurd hm (Nat.not_lt_zero _)
              | succ fu46 ih46 =>
                intro j e' hm i46_0 i46_1 i46_2 H locs hP hD hS ls hl
                refine lv_iload hx hb dX6_pours_46 (lv_at hl 6 rfl) ?_
                refine lv_iload hx hb dX6_pours_48 (lv_at hl 5 rfl) ?_
                refine x_icmp_ge (tgt := 90) hx hb dX6_pours_50 (by decide) (by omega) (by omega) (fun c50 => ?_) (fun c50 => ?_)
                · refine lv_iload_n hx hb dX6_pours_90 rfl (lv_at hl 2 rfl) ?_
                  refine lv_iload hx hb dX6_pours_91 (lv_at hl 5 rfl) ?_
                  refine lv_bipush (v := nI 64) hx hb dX6_pours_93 (by decide) ?_
                  refine x_icmp_ne (tgt := 102) hx hb dX6_pours_95 (by decide) (by omega) (by omega) (fun c95 => ?_) (fun c95 => ?_)
                  · refine lv_iconst (v := nI 0) hx hb dX6_pours_102 (by decide) ?_
                    refine x_iadd hx hb dX6_pours_103 ?_
                    refine lv_istore_n (lv' := [(3, .int (nI (n + 0))), (0, .ref (b 0)), (1, .long (lN m1)), (4, .long (lN left)), (6, .int (nI i)), (7, .int (nI (min left 64))), (8, .int (nI j))]) hx hb dX6_pours_104 rfl hl (by decide) rfl (fun ls hl => ?_)
                    refine lv_lload hx hb dX6_pours_105 (lv_at hl 3 rfl) ?_
                    refine lv_iload hx hb dX6_pours_107 (lv_at hl 5 rfl) ?_
                    refine lv_i2l (v := lN (min left 64)) hx hb dX6_pours_109 (nI_l (by omega)) ?_
                    refine lv_lsub hx hb dX6_pours_110 ?_
                    refine x_topl (y := lN (left - min left 64)) (lN_sub (by omega)) ?_
                    refine lv_lstore (lv' := [(4, .long (lN (left - min left 64))), (3, .int (nI (n + 0))), (0, .ref (b 0)), (1, .long (lN m1)), (6, .int (nI i)), (7, .int (nI (min left 64))), (8, .int (nI j))]) hx hb dX6_pours_111 hl (by decide) rfl (fun ls hl => ?_)
                    refine lv_iinc (v := nI (i + 1)) (lv' := [(6, .int (nI (i + 1))), (4, .long (lN (left - min left 64))), (3, .int (nI (n + 0))), (0, .ref (b 0)), (1, .long (lN m1)), (7, .int (nI (min left 64))), (8, .int (nI j))]) hx hb dX6_pours_113 hl (k := 4) rfl (x_inc _) (by decide) rfl (fun ls hl => ?_)
                    refine lv_goto (tgt := 8) hx hb dX6_pours_116 (by decide) ?_
                    have e3 : e' = (prI rQ rw i (min left 64) 0 d') := by have h := i46_2; rw [show min left 64 - j = 0 by omega, prI] at h; exact h
                    exact ih8 (i + 1) (left - min left 64) (n + 0) (prI rQ rw i (min left 64) 0 d') (by omega) (by omega) (by omega) (by omega) (by exact prI_lt hrw i8_3) (by have h := i8_4; rw [show rq - i = (rq - (i + 1)) + 1 by omega, prO, if_neg (Nat.pos_iff_ne_zero.mp c21)] at h; first | (rw [if_pos c95] at h; exact h) | (rw [if_neg c95] at h; exact h)) _ _ (x_wP (by rw [← e3]) hP) (x_wD (by rw [← e3]) hD) hS ls (lv_sub hl [3, 4, 2, 1, 0] rfl)
                  · refine lv_iconst (v := nI 1) hx hb dX6_pours_98 (by decide) ?_
                    refine lv_goto (tgt := 103) hx hb dX6_pours_99 (by decide) ?_
                    refine x_iadd hx hb dX6_pours_103 ?_
                    refine lv_istore_n (lv' := [(3, .int (nI (n + 1))), (0, .ref (b 0)), (1, .long (lN m1)), (4, .long (lN left)), (6, .int (nI i)), (7, .int (nI (min left 64))), (8, .int (nI j))]) hx hb dX6_pours_104 rfl hl (by decide) rfl (fun ls hl => ?_)
                    refine lv_lload hx hb dX6_pours_105 (lv_at hl 3 rfl) ?_
                    refine lv_iload hx hb dX6_pours_107 (lv_at hl 5 rfl) ?_
                    refine lv_i2l (v := lN (min left 64)) hx hb dX6_pours_109 (nI_l (by omega)) ?_
                    refine lv_lsub hx hb dX6_pours_110 ?_
                    refine x_topl (y := lN (left - min left 64)) (lN_sub (by omega)) ?_
                    refine lv_lstore (lv' := [(4, .long (lN (left - min left 64))), (3, .int (nI (n + 1))), (0, .ref (b 0)), (1, .long (lN m1)), (6, .int (nI i)), (7, .int (nI (min left 64))), (8, .int (nI j))]) hx hb dX6_pours_111 hl (by decide) rfl (fun ls hl => ?_)
                    refine lv_iinc (v := nI (i + 1)) (lv' := [(6, .int (nI (i + 1))), (4, .long (lN (left - min left 64))), (3, .int (nI (n + 1))), (0, .ref (b 0)), (1, .long (lN m1)), (7, .int (nI (min left 64))), (8, .int (nI j))]) hx hb dX6_pours_113 hl (k := 4) rfl (x_inc _) (by decide) rfl (fun ls hl => ?_)
                    refine lv_goto (tgt := 8) hx hb dX6_pours_116 (by decide) ?_
                    have e4 : e' = (prI rQ rw i (min left 64) 0 d') := by have h := i46_2; rw [show min left 64 - j = 0 by omega, prI] at h; exact h
                    exact ih8 (i + 1) (left - min left 64) (n + 1) (prI rQ rw i (min left 64) 0 d') (by omega) (by omega) (by omega) (by omega) (by exact prI_lt hrw i8_3) (by have h := i8_4; rw [show rq - i = (rq - (i + 1)) + 1 by omega, prO, if_neg (Nat.pos_iff_ne_zero.mp c21)] at h; first | (rw [if_pos c95] at h; exact h) | (rw [if_neg c95] at h; exact h)) _ _ (x_wP (by rw [← e4]) hP) (x_wD (by rw [← e4]) hD) hS ls (lv_sub hl [3, 4, 2, 1, 0] rfl)
                · refine lv_aload_n hx hb dX6_pours_53 rfl (lv_at hl 0 rfl) ?_
                  refine va_get (D := (dC, dI)) (ci := 6) (v := .ref (b 1)) (C := RX6) (T := TX6) (N := 22) hx hb hts in_X6 hown hK hP 0 rfl rfl 1 (by decide) f7 (fun _ h9 => h9) rfl dX6_pours_54 ?_
                  refine lv_bipush (v := nI 64) hx hb dX6_pours_57 (by decide) ?_
                  refine lv_aload_n hx hb dX6_pours_59 rfl (lv_at hl 0 rfl) ?_
                  refine va_get (D := (dC, dI)) (ci := 6) (v := .ref (b 2)) (C := RX6) (T := TX6) (N := 22) hx hb hts in_X6 hown hK hP 0 rfl rfl 3 (by decide) f13 (fun _ h9 => h9) rfl dX6_pours_60 ?_
                  refine lv_iload hx hb dX6_pours_63 (lv_at hl 4 rfl) ?_
                  refine x_iald hx hb hK hP 2 1 rfl rfl (by omega) (by decide) dX6_pours_65 ?_
                  refine x_imul hx hb dX6_pours_66 ?_
                  refine lv_iload hx hb dX6_pours_67 (lv_at hl 6 rfl) ?_
                  refine x_iadd hx hb dX6_pours_69 ?_
                  refine lv_aload_n hx hb dX6_pours_70 rfl (lv_at hl 0 rfl) ?_
                  refine va_get (D := (dC, dI)) (ci := 6) (v := .ref (b 3)) (C := RX6) (T := TX6) (N := 22) hx hb hts in_X6 hown hK hP 0 rfl rfl 4 (by decide) f17 (fun _ h9 => h9) rfl dX6_pours_71 ?_
                  refine lv_bipush (v := nI 64) hx hb dX6_pours_74 (by decide) ?_
                  refine lv_iload hx hb dX6_pours_76 (lv_at hl 4 rfl) ?_
                  refine x_imul hx hb dX6_pours_78 ?_
                  refine lv_iload hx hb dX6_pours_79 (lv_at hl 6 rfl) ?_
                  refine x_iadd hx hb dX6_pours_81 ?_
                  refine x_bald hx hb hK hP 3 0 rfl rfl (by omega) (by decide) dX6_pours_82 ?_
                  refine x_bast hx hb hK hP hD hS 1 0 rfl rfl (by omega) (by decide) dX6_pours_83 (fun H locs hP hD hS => ?_)
                  have hP : va_P (dC, dI) vwCl (wM b cB cI cL rb (va_up e' ((64 * (rQ i)) + j) (rw ((64 * i) + j))) rq rQ rw ra ro rn rk rv rf fN fF fB fR rl lB lR rt rg rx rz) H := hP
                  have hD : va_D A (wM b cB cI cL rb (va_up e' ((64 * (rQ i)) + j) (rw ((64 * i) + j))) rq rQ rw ra ro rn rk rv rf fN fF fB fR rl lB lR rt rg rx rz) := hD
                  refine lv_iinc (v := nI (j + 1)) (lv' := [(8, .int (nI (j + 1))), (0, .ref (b 0)), (1, .long (lN m1)), (3, .int (nI n)), (4, .long (lN left)), (6, .int (nI i)), (7, .int (nI (min left 64)))]) hx hb dX6_pours_84 hl (k := 6) rfl (x_inc _) (by decide) rfl (fun ls hl => ?_)
                  refine lv_goto (tgt := 46) hx hb dX6_pours_87 (by decide) ?_
                  exact ih46 (j + 1) (va_up e' ((64 * (rQ i)) + j) (rw ((64 * i) + j))) (by omega) (by omega) (by exact va_up_lt i46_1 (hrw _)) (by have h := i46_2; rw [show min left 64 - j = (min left 64 - (j + 1)) + 1 by omega, prI] at h; exact h) _ _ hP hD hS ls (lv_sub hl [1, 2, 3, 4, 5, 6, 0] rfl)
            exact L46 (min left 64 - 0 + 1) 0 d' (by omega) (by omega) (by exact i8_3) (by rfl) _ _ hP hD hS ls (lv_sub hl [1, 2, 3, 4, 5, 6, 0] rfl)
          refine x_lif_ge (tgt := 39) hx hb dX6_pours_30 (by decide) (fun c30 => ?_) (fun c30 => ?_)
          · have c30 : 64 ≤ left := (pk_lLE (by decide) (by omega)).mp c30
            refine lv_bipush (v := nI 64) hx hb dX6_pours_39 (by decide) ?_
            refine lv_istore (lv' := [(7, .int (nI 64)), (0, .ref (b 0)), (1, .long (lN m1)), (3, .int (nI n)), (4, .long (lN left)), (6, .int (nI i))]) hx hb dX6_pours_41 hl (by decide) rfl (fun ls hl => ?_)
            have e5 : 64 = (min left 64) := by omega
            exact L43  _ _ hP hD hS ls (x_lvc (l1 := [(0, .ref (b 0)), (1, .long (lN m1)), (3, .int (nI n)), (4, .long (lN left)), (6, .int (nI i)), (7, .int (nI 64))]) (by rw [← e5]) (lv_sub hl [1, 2, 3, 4, 5, 0] rfl))
          · have c30 : left < 64 := Nat.lt_of_not_le (fun q => c30 ((pk_lLE (by decide) (by omega)).mpr q))
            refine lv_lload hx hb dX6_pours_33 (lv_at hl 3 rfl) ?_
            refine lv_l2i (v := nI left) hx hb dX6_pours_35 (lN_i _) ?_
            refine lv_goto (tgt := 41) hx hb dX6_pours_36 (by decide) ?_
            refine lv_istore (lv' := [(7, .int (nI left)), (0, .ref (b 0)), (1, .long (lN m1)), (3, .int (nI n)), (4, .long (lN left)), (6, .int (nI i))]) hx hb dX6_pours_41 hl (by decide) rfl (fun ls hl => ?_)
            have e6 : left = (min left 64) := by omega
            exact L43  _ _ hP hD hS ls (x_lvc (l1 := [(0, .ref (b 0)), (1, .long (lN m1)), (3, .int (nI n)), (4, .long (lN left)), (6, .int (nI i)), (7, .int (nI left))]) (by rw [← e6]) (lv_sub hl [1, 2, 3, 4, 5, 0] rfl))
  exact L8 (rq - 0 + 1) 0 m1 0 rd (by omega) (by omega) (by omega) (by omega) (by exact hrd) (by rfl) _ _ hP hD hS ls (lv_sub hl [3, 4, 2, 1, 0] rfl)
