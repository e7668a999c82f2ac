set_option maxHeartbeats 4000000 in
set_option maxRecDepth 100000 in
theorem c_Bl_has {l : Launch} {dC : Nat → ClassId} {dI : Nat → Nat → Nat} {A : Nat → Prop} {tys : List (ClassId × FieldType)} {Wf : (Nat → Nat) → va_W} {k0 k1 t1 a0 a1 : Nat} {cB : ClassId} {n : Nat} (hW : okB Wf k0 k1 a0 a1 cB n) (ht : tys[t1]? = some (cB, .byte)) (hn : n ≤ 64) (g : Nat → Nat) (x y : Int32) : Met l yX0_has (Cond.code yX0_has cX0_has 3 (some .boolean) :: TB) { frames := 0, cells := 0, slots := 0, locals := 0 } (xPre Nst (dC, dI) A tys (Wf g) [.ref a0, .int (x), .int (y)]) (xQi (dC, dI) A (bI (xhas n x y)) (Wf g)) 0 0 A := by
  refine x_ofWz (cc := cX0_has) (maxL := 3) (by decide) rfl (Nat.le_of_ble_eq_true rfl) (x_narZ _) ?_
  intro p e s m args below meth c Q hx hb hml hts hown hK hN hP hD hS hret ls hl
  have hl : lv_has ls 3 [(0, .ref a0), (1, .int (x)), (2, .int (y))] := hl
  have hown : s.vm.findClass RX0 = some m.cls := hown
  have f15 := hts _ (List.mem_cons_of_mem _ tw_107)
  have in_X0 := (fun q hq => List.mem_cons_of_mem _ (inX0 q hq) : ∀ q ∈ wsX00, q ∈ (Cond.code yX0_has cX0_has 3 (some .boolean) :: TB))
  refine lv_iload_n hx hb dX0_has_0 rfl (lv_at hl 1 rfl) ?_
  refine lv_if_lt (tgt := 32) hx hb dX0_has_1 (by decide) (fun c1 => ?_) (fun c1 => ?_)
  · refine lv_iconst (v := nI 0) hx hb dX0_has_32 (by decide) ?_
    exact hret dX0_has_33 (by first | exact xhas_t hn c1 c9 c15 c19 c25 | exact xhas_f (by first | exact Or.inl c1 | exact Or.inr (Or.inl c9) | exact Or.inr (Or.inr (Or.inl c15)) | exact Or.inr (Or.inr (Or.inr (Or.inl c19))) | exact Or.inr (Or.inr (Or.inr (Or.inr c25)))) hn) hP hD hS
  · refine lv_iload_n hx hb dX0_has_4 rfl (lv_at hl 1 rfl) ?_
    refine lv_aload_n hx hb dX0_has_5 rfl (lv_at hl 0 rfl) ?_
    refine va_get (D := (dC, dI)) (ci := 0) (v := .int (nI n)) (C := RX0) (T := TX0) (N := 2) hx hb hts in_X0 hown hK hP k0 (hW.1 _) rfl 1 (by decide) f15 (fun _ h9 => h9) rfl dX0_has_6 ?_
    refine lv_icmp_ge (tgt := 32) hx hb dX0_has_9 (by decide) (fun c9 => ?_) (fun c9 => ?_)
    · refine lv_iconst (v := nI 0) hx hb dX0_has_32 (by decide) ?_
      exact hret dX0_has_33 (by first | exact xhas_t hn c1 c9 c15 c19 c25 | exact xhas_f (by first | exact Or.inl c1 | exact Or.inr (Or.inl c9) | exact Or.inr (Or.inr (Or.inl c15)) | exact Or.inr (Or.inr (Or.inr (Or.inl c19))) | exact Or.inr (Or.inr (Or.inr (Or.inr c25)))) hn) hP hD hS
    · refine lv_iload_n hx hb dX0_has_12 rfl (lv_at hl 1 rfl) ?_
      refine lv_bipush (v := nI 64) hx hb dX0_has_13 (by decide) ?_
      refine lv_icmp_ge (tgt := 32) hx hb dX0_has_15 (by decide) (fun c15 => ?_) (fun c15 => ?_)
      · refine lv_iconst (v := nI 0) hx hb dX0_has_32 (by decide) ?_
        exact hret dX0_has_33 (by first | exact xhas_t hn c1 c9 c15 c19 c25 | exact xhas_f (by first | exact Or.inl c1 | exact Or.inr (Or.inl c9) | exact Or.inr (Or.inr (Or.inl c15)) | exact Or.inr (Or.inr (Or.inr (Or.inl c19))) | exact Or.inr (Or.inr (Or.inr (Or.inr c25)))) hn) hP hD hS
      · refine lv_iload_n hx hb dX0_has_18 rfl (lv_at hl 2 rfl) ?_
        refine lv_if_lt (tgt := 32) hx hb dX0_has_19 (by decide) (fun c19 => ?_) (fun c19 => ?_)
        · refine lv_iconst (v := nI 0) hx hb dX0_has_32 (by decide) ?_
          exact hret dX0_has_33 (by first | exact xhas_t hn c1 c9 c15 c19 c25 | exact xhas_f (by first | exact Or.inl c1 | exact Or.inr (Or.inl c9) | exact Or.inr (Or.inr (Or.inl c15)) | exact Or.inr (Or.inr (Or.inr (Or.inl c19))) | exact Or.inr (Or.inr (Or.inr (Or.inr c25)))) hn) hP hD hS
        · refine lv_iload_n hx hb dX0_has_22 rfl (lv_at hl 2 rfl) ?_
          refine lv_bipush (v := nI 64) hx hb dX0_has_23 (by decide) ?_
          refine lv_icmp_ge (tgt := 32) hx hb dX0_has_25 (by decide) (fun c25 => ?_) (fun c25 => ?_)
          · refine lv_iconst (v := nI 0) hx hb dX0_has_32 (by decide) ?_
            exact hret dX0_has_33 (by first | exact xhas_t hn c1 c9 c15 c19 c25 | exact xhas_f (by first | exact Or.inl c1 | exact Or.inr (Or.inl c9) | exact Or.inr (Or.inr (Or.inl c15)) | exact Or.inr (Or.inr (Or.inr (Or.inl c19))) | exact Or.inr (Or.inr (Or.inr (Or.inr c25)))) hn) hP hD hS
          · refine lv_iconst (v := nI 1) hx hb dX0_has_28 (by decide) ?_
            refine lv_goto (tgt := 33) hx hb dX0_has_29 (by decide) ?_
            exact hret dX0_has_33 (by first | exact xhas_t hn c1 c9 c15 c19 c25 | exact xhas_f (by first | exact Or.inl c1 | exact Or.inr (Or.inl c9) | exact Or.inr (Or.inr (Or.inl c15)) | exact Or.inr (Or.inr (Or.inr (Or.inl c19))) | exact Or.inr (Or.inr (Or.inr (Or.inr c25)))) hn) hP hD hS

set_option maxHeartbeats 4000000 in
set_option maxRecDepth 100000 in
theorem c_Bl_hasN {l : Launch} {dC : Nat → ClassId} {dI : Nat → Nat → Nat} {A : Nat → Prop} {tys : List (ClassId × FieldType)} {Wf : (Nat → Nat) → va_W} {k0 k1 t1 a0 a1 : Nat} {cB : ClassId} {n : Nat} (hW : okB Wf k0 k1 a0 a1 cB n) (ht : tys[t1]? = some (cB, .byte)) (hn : n ≤ 64) (g : Nat → Nat) (b i : Nat) (hb1 : b < 2 ^ 31) (hi1 : i < 2 ^ 31) : Met l yX0_has (Cond.code yX0_has cX0_has 3 (some .boolean) :: TB) { frames := 0, cells := 0, slots := 0, locals := 0 } (xPre Nst (dC, dI) A tys (Wf g) [.ref a0, .int (nI b), .int (nI i)]) (xQi (dC, dI) A (bI (decide (b < n ∧ i < 64))) (Wf g)) 0 0 A := by
  have h := c_Bl_has (l := l) (dC := dC) (dI := dI) (A := A) hW ht hn g (nI b) (nI i)
  rw [xhas_nI hn hb1 hi1] at h
  exact h

set_option maxHeartbeats 4000000 in
set_option maxRecDepth 100000 in
theorem c_Bl_value {l : Launch} {dC : Nat → ClassId} {dI : Nat → Nat → Nat} {A : Nat → Prop} {tys : List (ClassId × FieldType)} {Wf : (Nat → Nat) → va_W} {k0 k1 t1 a0 a1 : Nat} {cB : ClassId} {n : Nat} (hW : okB Wf k0 k1 a0 a1 cB n) (ht : tys[t1]? = some (cB, .byte)) (hn : n ≤ 64) (g : Nat → Nat) (hg : ∀ j, g j < 256) (b i : Nat) (hb1 : b < 2 ^ 31) (hi1 : i < 2 ^ 31) : Met l yX0_value (Cond.code yX0_value cX0_value 3 (some .int) :: TB) { frames := 1, cells := 0, slots := 0, locals := 22 } (xPre Nst (dC, dI) A tys (Wf g) [.ref a0, .int (nI b), .int (nI i)]) (xQi (dC, dI) A (nI (bv n g b i)) (Wf g)) 0 0 A := by
  refine x_ofWi (cc := cX0_value) (maxL := 3) (by decide) rfl (Nat.le_of_ble_eq_true rfl) ?_
  intro p e s m args below meth c Q hx hb hml hts hown hK hN hP hD hS hret ls hl
  have hl : lv_has ls 3 [(0, .ref a0), (1, .int (nI b)), (2, .int (nI i))] := hl
  have hown : s.vm.findClass RX0 = some m.cls := hown
  have f9 := hts _ (List.mem_cons_of_mem _ tw_106)
  have in_X0 := (fun q hq => List.mem_cons_of_mem _ (inX0 q hq) : ∀ q ∈ wsX00, q ∈ (Cond.code yX0_value cX0_value 3 (some .int) :: TB))
  refine lv_aload_n hx hb dX0_value_0 rfl (lv_at hl 0 rfl) ?_
  refine lv_iload_n hx hb dX0_value_1 rfl (lv_at hl 1 rfl) ?_
  refine lv_iload_n hx hb dX0_value_2 rfl (lv_at hl 2 rfl) ?_
  refine x_calli (va_runV (As := [.int (nI b), .int (nI i)]) (rest := []) ⟨hx, hb, hml, hown, hts⟩ (c_Bl_hasN hW ht hn g b i (by omega) (by omega)) (cwV 2 hts (tbV tw_257 tw_259 tw_6 tw_85 tw_260) rfl rfl rfl (by decide +kernel) ⟨Nat.le_of_ble_eq_true rfl, Nat.le_of_ble_eq_true rfl⟩) ⟨x_blind, va_recv hK hP (ci := 0) (q0 := k0) rfl (hW.1 _), x_pre hK hP hD hN⟩ rfl rfl hl.1 rfl (lv_room (Nat.le_of_ble_eq_true rfl)) dX0_value_3 ⟨Nat.zero_le _, Nat.zero_le _⟩) hS (fun H locs hP hD hS => ?_)
  have hP : va_P (dC, dI) vwCl (Wf g) H := hP
  have hD : va_D A (Wf g) := hD
  refine x_if_eq_b (tgt := 27) hx hb dX0_value_6 (by decide) (fun c6 => ?_) (fun c6 => ?_)
  · have c6 := of_decide_eq_false c6
    refine lv_iconst (v := nI 0) hx hb dX0_value_27 (by decide) ?_
    exact hret dX0_value_28 (by simp [bv, c6]) hP hD hS
  · have c6 := of_decide_eq_true c6
    refine lv_aload_n hx hb dX0_value_9 rfl (lv_at hl 0 rfl) ?_
    refine va_get (D := (dC, dI)) (ci := 0) (v := .ref a1) (C := RX0) (T := TX0) (N := 2) hx hb hts in_X0 hown hK hP k0 (hW.1 _) rfl 0 (by decide) f9 (fun _ h9 => h9) rfl dX0_value_10 ?_
    refine lv_iload_n hx hb dX0_value_13 rfl (lv_at hl 1 rfl) ?_
    refine lv_bipush (v := nI 64) hx hb dX0_value_14 (by decide) ?_
    refine x_imul hx hb dX0_value_16 ?_
    refine lv_iload_n hx hb dX0_value_17 rfl (lv_at hl 2 rfl) ?_
    refine x_iadd hx hb dX0_value_18 ?_
    refine x_bald hx hb hK hP k1 t1 (hW.2.1 _) ht (by omega) (by decide) dX0_value_19 ?_
    refine lv_sipush (v := nI 255) hx hb dX0_value_20 (by decide) ?_
    refine lv_iand hx hb dX0_value_23 ?_
    refine x_top (y := nI (g (b * 64 + i))) (x_b255 (hg _)) ?_
    refine lv_goto (tgt := 28) hx hb dX0_value_24 (by decide) ?_
    exact hret dX0_value_28 (by simp [bv, c6]) hP hD hS

set_option maxHeartbeats 4000000 in
set_option maxRecDepth 100000 in
theorem c_Bl_put {l : Launch} {dC : Nat → ClassId} {dI : Nat → Nat → Nat} {A : Nat → Prop} {tys : List (ClassId × FieldType)} {Wf : (Nat → Nat) → va_W} {k0 k1 t1 a0 a1 : Nat} {cB : ClassId} {n : Nat} (hW : okB Wf k0 k1 a0 a1 cB n) (ht : tys[t1]? = some (cB, .byte)) (hn : n ≤ 64) (g : Nat → Nat) (b i v : Nat) (hb1 : b < 2 ^ 31) (hi1 : i < 2 ^ 31) (hv1 : v < 2 ^ 31) : Met l yX0_put (Cond.code yX0_put cX0_put 4 none :: TB) { frames := 1, cells := 0, slots := 0, locals := 22 } (xPre Nst (dC, dI) A tys (Wf g) [.ref a0, .int (nI b), .int (nI i), .int (nI v)]) (xQv (dC, dI) A (Wf (bput n g b i v))) 0 0 A := by
  refine x_ofWv (cc := cX0_put) (maxL := 4) (by decide) rfl (Nat.le_of_ble_eq_true rfl) ?_
  intro p e s m args below meth c Q hx hb hml hts hown hK hN hP hD hS hret ls hl
  have hl : lv_has ls 4 [(0, .ref a0), (1, .int (nI b)), (2, .int (nI i)), (3, .int (nI v))] := hl
  have hown : s.vm.findClass RX0 = some m.cls := hown
  have f9 := hts _ (List.mem_cons_of_mem _ tw_106)
  have in_X0 := (fun q hq => List.mem_cons_of_mem _ (inX0 q hq) : ∀ q ∈ wsX00, q ∈ (Cond.code yX0_put cX0_put 4 none :: TB))
  refine lv_aload_n hx hb dX0_put_0 rfl (lv_at hl 0 rfl) ?_
  refine lv_iload_n hx hb dX0_put_1 rfl (lv_at hl 1 rfl) ?_
  refine lv_iload_n hx hb dX0_put_2 rfl (lv_at hl 2 rfl) ?_
  refine x_calli (va_runV (As := [.int (nI b), .int (nI i)]) (rest := []) ⟨hx, hb, hml, hown, hts⟩ (c_Bl_hasN hW ht hn g b i (by omega) (by omega)) (cwV 2 hts (tbV tw_257 tw_259 tw_6 tw_85 tw_260) rfl rfl rfl (by decide +kernel) ⟨Nat.le_of_ble_eq_true rfl, Nat.le_of_ble_eq_true rfl⟩) ⟨x_blind, va_recv hK hP (ci := 0) (q0 := k0) rfl (hW.1 _), x_pre hK hP hD hN⟩ rfl rfl hl.1 rfl (lv_room (Nat.le_of_ble_eq_true rfl)) dX0_put_3 ⟨Nat.zero_le _, Nat.zero_le _⟩) hS (fun H locs hP hD hS => ?_)
  have hP : va_P (dC, dI) vwCl (Wf g) H := hP
  have hD : va_D A (Wf g) := hD
  refine x_if_eq_b (tgt := 22) hx hb dX0_put_6 (by decide) (fun c6 => ?_) (fun c6 => ?_)
  · have c6 := of_decide_eq_false c6
    have e1 : g = (bput n g b i v) := by simp [bput, c6]
    have h9 : Wf g = Wf (bput n g b i v) := by rw [← e1]
    have hP := x_wP h9 hP
    have hD := x_wD h9 hD
    exact hret dX0_put_22 hP hD hS
  · have c6 := of_decide_eq_true c6
    refine lv_aload_n hx hb dX0_put_9 rfl (lv_at hl 0 rfl) ?_
    refine va_get (D := (dC, dI)) (ci := 0) (v := .ref a1) (C := RX0) (T := TX0) (N := 2) hx hb hts in_X0 hown hK hP k0 (hW.1 _) rfl 0 (by decide) f9 (fun _ h9 => h9) rfl dX0_put_10 ?_
    refine lv_iload_n hx hb dX0_put_13 rfl (lv_at hl 1 rfl) ?_
    refine lv_bipush (v := nI 64) hx hb dX0_put_14 (by decide) ?_
    refine x_imul hx hb dX0_put_16 ?_
    refine lv_iload_n hx hb dX0_put_17 rfl (lv_at hl 2 rfl) ?_
    refine x_iadd hx hb dX0_put_18 ?_
    refine lv_iload_n hx hb dX0_put_19 rfl (lv_at hl 3 rfl) ?_
    refine lv_i2b (v := sb_b v) hx hb dX0_put_20 rfl ?_
    refine x_top (y := sb_b (v % 256)) (x_b256 v) ?_
    refine x_bast hx hb hK hP hD hS k1 t1 (hW.2.1 _) ht (by omega) (by decide) dX0_put_21 (fun H locs hP hD hS => ?_)
    have hP := x_wP (hW.2.2 _ (va_up g ((b * 64) + i) (v % 256))) hP
    have hD := x_wD (hW.2.2 _ (va_up g ((b * 64) + i) (v % 256))) hD
    have hP : va_P (dC, dI) vwCl (Wf (va_up g ((b * 64) + i) (v % 256))) H := hP
    have hD : va_D A (Wf (va_up g ((b * 64) + i) (v % 256))) := hD
    have e2 : (va_up g ((b * 64) + i) (v % 256)) = (bput n g b i v) := by simp [bput, c6]
    have h9 : Wf (va_up g ((b * 64) + i) (v % 256)) = Wf (bput n g b i v) := by rw [e2]
    have hP := x_wP h9 hP
    have hD := x_wD h9 hD
    exact hret dX0_put_22 hP hD hS

set_option maxHeartbeats 4000000 in
set_option maxRecDepth 100000 in
theorem c_Bl_number {l : Launch} {dC : Nat → ClassId} {dI : Nat → Nat → Nat} {A : Nat → Prop} {tys : List (ClassId × FieldType)} {Wf : (Nat → Nat) → va_W} {k0 k1 t1 a0 a1 : Nat} {cB : ClassId} {n : Nat} (hW : okB Wf k0 k1 a0 a1 cB n) (ht : tys[t1]? = some (cB, .byte)) (hn : n ≤ 64) (g : Nat → Nat) (hg : ∀ j, g j < 256) (b i k : Nat) (hb1 : b < 2 ^ 31) (hi1 : i + k < 2 ^ 31) (hk1 : k ≤ 8) : Met l yX0_number (Cond.code yX0_number cX0_number 7 (some .long) :: TB) { frames := 2, cells := 0, slots := 0, locals := 44 } (xPre Nst (dC, dI) A tys (Wf g) [.ref a0, .int (nI b), .int (nI i), .int (nI k)]) (xQl (dC, dI) A (lN (num n g b k i)) (Wf g)) 0 0 A := by
  refine x_ofWl (cc := cX0_number) (maxL := 7) (by decide) rfl (Nat.le_of_ble_eq_true rfl) ?_
  intro p e s m args below meth c Q hx hb hml hts hown hK hN hP hD hS hret ls hl
  have hl : lv_has ls 7 [(0, .ref a0), (1, .int (nI b)), (2, .int (nI i)), (3, .int (nI k))] := hl
  have hown : s.vm.findClass RX0 = some m.cls := hown
  refine lv_lconst (v := lN 0) hx hb dX0_number_0 rfl ?_
  refine lv_lstore (lv' := [(4, .long (lN 0)), (0, .ref a0), (1, .int (nI b)), (2, .int (nI i)), (3, .int (nI k))]) hx hb dX0_number_1 hl (by decide) rfl (fun ls hl => ?_)
  refine lv_iload_n hx hb dX0_number_3 rfl (lv_at hl 4 rfl) ?_
  refine lv_iconst (v := nI 1) hx hb dX0_number_4 (by decide) ?_
  refine lv_isub hx hb dX0_number_5 ?_
  refine lv_istore (lv' := [(6, .int ((nI k - nI 1))), (4, .long (lN 0)), (0, .ref a0), (1, .int (nI b)), (2, .int (nI i)), (3, .int (nI k))]) hx hb dX0_number_6 hl (by decide) rfl (fun ls hl => ?_)
  have L8 : ∀ (fu8 : Nat) (j : Nat), (j < fu8) → (j ≤ k) → ∀ (H : Heap) (locs : List Loc), va_P (dC, dI) vwCl (Wf g) H → va_D A (Wf g) → va_S A s.heap H locs → ∀ (ls : Array Slot), lv_has ls 7 [(0, .ref a0), (1, .int (nI b)), (2, .int (nI i)), (3, .int (nI k)), (4, .long (lN (num n g b (k - j) (i + j)))), (6, .int ((nI j - nI 1)))] → W p l e { frames := 2, cells := 0, slots := 0, locals := 44 } s m args below meth c H locs 0 0 Q (F0 m 8 ls []) := by
    intro fu8
    induction fu8 with
    | zero => intro j hm; exact absurd hm (Nat.not_lt_zero _)
    | succ fu8 ih8 =>
      intro j hm i8_0 H locs hP hD hS ls hl
      refine lv_iload hx hb dX0_number_8 (lv_at hl 5 rfl) ?_
      refine lv_if_lt (tgt := 37) hx hb dX0_number_10 (by decide) (fun c10 => ?_) (fun c10 => ?_)
      · have c10 : j = 0 := x_pred0 (by omega) c10
        subst c10
        refine lv_lload hx hb dX0_number_37 (lv_at hl 4 rfl) ?_
        exact hret dX0_number_39 (by simp) hP hD hS
      · have c10 : 0 < j := x_predP (by omega) c10
        have e6 : nI j - nI 1 = nI (j - 1) := pk_sub (by omega)
        rw [e6] at hl
        have hM := num_lt (n := n) (g := g) (b := b) hg (k - j) (i + j)
        refine lv_lload hx hb dX0_number_13 (lv_at hl 4 rfl) ?_
        refine lv_bipush (v := nI 8) hx hb dX0_number_15 (by decide) ?_
        refine lv_lshl hx hb dX0_number_17 rfl ?_
        refine lv_aload_n hx hb dX0_number_18 rfl (lv_at hl 0 rfl) ?_
        refine lv_iload_n hx hb dX0_number_19 rfl (lv_at hl 1 rfl) ?_
        refine lv_iload_n hx hb dX0_number_20 rfl (lv_at hl 2 rfl) ?_
        refine lv_iload hx hb dX0_number_21 (lv_at hl 5 rfl) ?_
        refine x_iadd hx hb dX0_number_23 ?_
        refine x_calli (va_runV (As := [.int (nI b), .int (nI (i + (j - 1)))]) (rest := [.long (((lN (num n g b (k - j) (i + j))) <<< ((nI 8).toInt64 &&& 63)))]) ⟨hx, hb, hml, hown, hts⟩ (c_Bl_value hW ht hn g hg b (i + (j - 1)) (by omega) (by omega)) (cwV 2 hts (tbV tw_342 tw_344 tw_25 tw_85 tw_345) rfl rfl rfl (by decide +kernel) ⟨Nat.le_of_ble_eq_true rfl, Nat.le_of_ble_eq_true rfl⟩) ⟨x_blind, va_recv hK hP (ci := 0) (q0 := k0) rfl (hW.1 _), x_pre hK hP hD hN⟩ rfl rfl hl.1 rfl (lv_room (Nat.le_of_ble_eq_true rfl)) dX0_number_24 ⟨Nat.zero_le _, Nat.zero_le _⟩) hS (fun H locs hP hD hS => ?_)
        have hP : va_P (dC, dI) vwCl (Wf g) H := hP
        have hD : va_D A (Wf g) := hD
        have hv24 : bv n g b (i + (j - 1)) < 256 := bv_lt hg
        refine lv_i2l (v := lN (bv n g b (i + (j - 1)))) hx hb dX0_number_27 (nI_l (by omega)) ?_
        refine lv_lor hx hb dX0_number_28 ?_
        refine x_topl (y := lN (bv n g b (i + (j - 1)) + 256 * num n g b (k - j) (i + j))) (x_numstep (num_56 hM (by omega)) hv24) ?_
        refine lv_lstore (lv' := [(4, .long (lN (bv n g b (i + (j - 1)) + 256 * num n g b (k - j) (i + j)))), (0, .ref a0), (1, .int (nI b)), (2, .int (nI i)), (3, .int (nI k)), (6, .int (nI (j - 1)))]) hx hb dX0_number_29 hl (by decide) rfl (fun ls hl => ?_)
        refine lv_iinc (v := (nI (j - 1) - nI 1)) (lv' := [(6, .int ((nI (j - 1) - nI 1))), (4, .long (lN (bv n g b (i + (j - 1)) + 256 * num n g b (k - j) (i + j)))), (0, .ref a0), (1, .int (nI b)), (2, .int (nI i)), (3, .int (nI k))]) hx hb dX0_number_31 hl (k := 5) rfl (x_decm _) (by decide) rfl (fun ls hl => ?_)
        refine lv_goto (tgt := 8) hx hb dX0_number_34 (by decide) ?_
        have e1 : (bv n g b (i + (j - 1)) + 256 * num n g b (k - j) (i + j)) = (num n g b (k - (j - 1)) (i + (j - 1))) := by rw [show k - (j - 1) = (k - j) + 1 by omega, num, show i + (j - 1) + 1 = i + j by omega]
        exact ih8 (j - 1) (by omega) (by omega) _ _ hP hD hS ls (x_lvc (l1 := [(0, .ref a0), (1, .int (nI b)), (2, .int (nI i)), (3, .int (nI k)), (4, .long (lN (bv n g b (i + (j - 1)) + 256 * num n g b (k - j) (i + j)))), (6, .int ((nI (j - 1) - nI 1)))]) (by rw [e1]) (lv_sub hl [2, 3, 4, 5, 1, 0] rfl))
  have e2 : 0 = (num n g b (k - k) (i + k)) := by rw [show k - k = 0 by omega]; rfl
  exact L8 (k + 1) k (by omega) (by omega) _ _ hP hD hS ls (x_lvc (l1 := [(0, .ref a0), (1, .int (nI b)), (2, .int (nI i)), (3, .int (nI k)), (4, .long (lN 0)), (6, .int ((nI k - nI 1)))]) (by rw [← e2]) (lv_sub hl [2, 3, 4, 5, 1, 0] rfl))

set_option maxHeartbeats 4000000 in
set_option maxRecDepth 100000 in
theorem c_Bl_putNumber {l : Launch} {dC : Nat → ClassId} {dI : Nat → Nat → Nat} {A : Nat → Prop} {tys : List (ClassId × FieldType)} {Wf : (Nat → Nat) → va_W} {k0 k1 t1 a0 a1 : Nat} {cB : ClassId} {n : Nat} (hW : okB Wf k0 k1 a0 a1 cB n) (ht : tys[t1]? = some (cB, .byte)) (hn : n ≤ 64) (g : Nat → Nat) (hg : ∀ j, g j < 256) (b i k v : Nat) (hb1 : b < 2 ^ 31) (hi1 : i + k < 2 ^ 31) (hv1 : v < 2 ^ 64) : Met l yX0_putNumber (Cond.code yX0_putNumber cX0_putNumber 9 none :: TB) { frames := 2, cells := 0, slots := 0, locals := 45 } (xPre Nst (dC, dI) A tys (Wf g) [.ref a0, .int (nI b), .int (nI i), .int (nI k), .long (lN v)]) (xQv (dC, dI) A (Wf (pnum n b k g i v))) 0 0 A := by
  refine x_ofWv (cc := cX0_putNumber) (maxL := 9) (by decide) rfl (Nat.le_of_ble_eq_true rfl) ?_
  intro p e s m args below meth c Q hx hb hml hts hown hK hN hP hD hS hret ls hl
  have hl : lv_has ls 9 [(0, .ref a0), (1, .int (nI b)), (2, .int (nI i)), (3, .int (nI k)), (4, .long (lN v))] := hl
  have hown : s.vm.findClass RX0 = some m.cls := hown
  refine lv_lload hx hb dX0_putNumber_0 (lv_at hl 4 rfl) ?_
  refine lv_lstore (lv' := [(6, .long (lN v)), (0, .ref a0), (1, .int (nI b)), (2, .int (nI i)), (3, .int (nI k)), (4, .long (lN v))]) hx hb dX0_putNumber_2 hl (by decide) rfl (fun ls hl => ?_)
  refine lv_iconst (v := nI 0) hx hb dX0_putNumber_4 (by decide) ?_
  refine lv_istore (lv' := [(8, .int (nI 0)), (6, .long (lN v)), (0, .ref a0), (1, .int (nI b)), (2, .int (nI i)), (3, .int (nI k)), (4, .long (lN v))]) hx hb dX0_putNumber_5 hl (by decide) rfl (fun ls hl => ?_)
  have L7 : ∀ (fu7 : Nat) (j : Nat) (g' : Nat → Nat) (v' : Nat), (k - j < fu7) → (j ≤ k) → (v' < 2 ^ 64) → (∀ q, g' q < 256) → (pnum n b (k - j) g' (i + j) v' = pnum n b k g i v) → ∀ (H : Heap) (locs : List Loc), va_P (dC, dI) vwCl (Wf g') H → va_D A (Wf g') → va_S A s.heap H locs → ∀ (ls : Array Slot), lv_has ls 9 [(0, .ref a0), (1, .int (nI b)), (2, .int (nI i)), (3, .int (nI k)), (4, .long (lN v)), (6, .long (lN v')), (8, .int (nI j))] → W p l e { frames := 2, cells := 0, slots := 0, locals := 45 } s m args below meth c H locs 0 0 Q (F0 m 7 ls []) := by
    intro fu7
    induction fu7 with
    | zero => intro j g' v' hm; exact absurd hm (Nat.not_lt_zero _)
    | succ fu7 ih7 =>
      intro j g' v' hm i7_0 i7_1 i7_2 i7_3 H locs hP hD hS ls hl
      refine lv_iload hx hb dX0_putNumber_7 (lv_at hl 6 rfl) ?_
      refine lv_iload_n hx hb dX0_putNumber_9 rfl (lv_at hl 3 rfl) ?_
      refine x_icmp_ge (tgt := 42) hx hb dX0_putNumber_10 (by decide) (by omega) (by omega) (fun c10 => ?_) (fun c10 => ?_)
      · have e1 : g' = (pnum n b k g i v) := by have h := i7_3; rw [show k - j = 0 by omega] at h; exact h
        have h9 : Wf g' = Wf (pnum n b k g i v) := by rw [← e1]
        have hP := x_wP h9 hP
        have hD := x_wD h9 hD
        exact hret dX0_putNumber_42 hP hD hS
      · refine lv_aload_n hx hb dX0_putNumber_13 rfl (lv_at hl 0 rfl) ?_
        refine lv_iload_n hx hb dX0_putNumber_14 rfl (lv_at hl 1 rfl) ?_
        refine lv_iload_n hx hb dX0_putNumber_15 rfl (lv_at hl 2 rfl) ?_
        refine lv_iload hx hb dX0_putNumber_16 (lv_at hl 6 rfl) ?_
        refine x_iadd hx hb dX0_putNumber_18 ?_
        refine lv_lload hx hb dX0_putNumber_19 (lv_at hl 5 rfl) ?_
        refine lv_ldc2 (v := lN 255) hx hb hown (hts _ (List.mem_cons_of_mem _ tw_309)) dX0_putNumber_21 ?_
        refine lv_land hx hb dX0_putNumber_24 ?_
        refine x_topl (y := lN (v' % 256)) (x_and255 i7_1) ?_
        refine lv_l2i (v := nI (v' % 256)) hx hb dX0_putNumber_25 (lN_i _) ?_
        refine x_callv (va_runV (As := [.int (nI b), .int (nI (i + j)), .int (nI (v' % 256))]) (rest := []) ⟨hx, hb, hml, hown, hts⟩ (c_Bl_put hW ht hn g' b (i + j) (v' % 256) (by omega) (by omega) (by omega)) (cwV 3 hts (tbV tw_253 tw_255 tw_5 tw_85 tw_256) rfl rfl rfl (by decide +kernel) ⟨Nat.le_of_ble_eq_true rfl, Nat.le_of_ble_eq_true rfl⟩) ⟨x_blind, va_recv hK hP (ci := 0) (q0 := k0) rfl (hW.1 _), x_pre hK hP hD hN⟩ rfl rfl hl.1 rfl (lv_room (Nat.le_of_ble_eq_true rfl)) dX0_putNumber_26 ⟨Nat.zero_le _, Nat.zero_le _⟩) hS (fun H locs hP hD hS => ?_)
        have hP : va_P (dC, dI) vwCl (Wf (bput n g' b (i + j) (v' % 256))) H := hP
        have hD : va_D A (Wf (bput n g' b (i + j) (v' % 256))) := hD
        refine lv_lload hx hb dX0_putNumber_29 (lv_at hl 5 rfl) ?_
        refine lv_bipush (v := nI 8) hx hb dX0_putNumber_31 (by decide) ?_
        refine lv_lushr hx hb dX0_putNumber_33 rfl ?_
        refine x_topl (y := lN (v' / 256)) (x_shr8 i7_1) ?_
        refine lv_lstore (lv' := [(6, .long (lN (v' / 256))), (0, .ref a0), (1, .int (nI b)), (2, .int (nI i)), (3, .int (nI k)), (4, .long (lN v)), (8, .int (nI j))]) hx hb dX0_putNumber_34 hl (by decide) rfl (fun ls hl => ?_)
        refine lv_iinc (v := nI (j + 1)) (lv' := [(8, .int (nI (j + 1))), (6, .long (lN (v' / 256))), (0, .ref a0), (1, .int (nI b)), (2, .int (nI i)), (3, .int (nI k)), (4, .long (lN v))]) hx hb dX0_putNumber_36 hl (k := 6) rfl (x_inc _) (by decide) rfl (fun ls hl => ?_)
        refine lv_goto (tgt := 7) hx hb dX0_putNumber_39 (by decide) ?_
        exact ih7 (j + 1) (bput n g' b (i + j) (v' % 256)) (v' / 256) (by omega) (by omega) (by omega) (by exact bput_lt i7_2) (by have h := i7_3; rw [show k - j = (k - (j + 1)) + 1 by omega, pnum] at h; rw [show i + (j + 1) = i + j + 1 by omega]; exact h) _ _ hP hD hS ls (lv_sub hl [2, 3, 4, 5, 6, 1, 0] rfl)
  exact L7 (k - 0 + 1) 0 g v (by omega) (by omega) (by omega) (by exact hg) (by rfl) _ _ hP hD hS ls (lv_sub hl [2, 3, 4, 5, 6, 1, 0] rfl)

set_option maxHeartbeats 4000000 in
set_option maxRecDepth 100000 in
theorem c_Bl_putLong {l : Launch} {dC : Nat → ClassId} {dI : Nat → Nat → Nat} {A : Nat → Prop} {tys : List (ClassId × FieldType)} {Wf : (Nat → Nat) → va_W} {k0 k1 t1 a0 a1 : Nat} {cB : ClassId} {n : Nat} (hW : okB Wf k0 k1 a0 a1 cB n) (ht : tys[t1]? = some (cB, .byte)) (hn : n ≤ 64) (g : Nat → Nat) (hg : ∀ j, g j < 256) (b i k : Nat) (x : Int64) (hb1 : b < 2 ^ 31) (hi1 : i + k < 2 ^ 31) : Met l yX0_putNumber (Cond.code yX0_putNumber cX0_putNumber 9 none :: TB) { frames := 2, cells := 0, slots := 0, locals := 45 } (xPre Nst (dC, dI) A tys (Wf g) [.ref a0, .int (nI b), .int (nI i), .int (nI k), .long x]) (xQv (dC, dI) A (Wf (pnum n b k g i (uL x)))) 0 0 A := by
  have h := c_Bl_putNumber (l := l) (dC := dC) (dI := dI) (A := A) hW ht hn g hg b i k (uL x) hb1 hi1 (uL_lt x)
  rw [lN_uL] at h
  exact h

set_option maxHeartbeats 4000000 in
set_option maxRecDepth 100000 in
theorem c_Bl_wipe {l : Launch} {dC : Nat → ClassId} {dI : Nat → Nat → Nat} {A : Nat → Prop} {tys : List (ClassId × FieldType)} {Wf : (Nat → Nat) → va_W} {k0 k1 t1 a0 a1 : Nat} {cB : ClassId} {n : Nat} (hW : okB Wf k0 k1 a0 a1 cB n) (ht : tys[t1]? = some (cB, .byte)) (hn : n ≤ 64) (g : Nat → Nat) (hg : ∀ j, g j < 256) (b : Nat) (hb1 : b < 2 ^ 31) : Met l yX0_wipe (Cond.code yX0_wipe cX0_wipe 3 none :: TB) { frames := 2, cells := 0, slots := 0, locals := 45 } (xPre Nst (dC, dI) A tys (Wf g) [.ref a0, .int (nI b)]) (xQv (dC, dI) A (Wf (wipG n b g))) 0 0 A := by
  refine x_ofWv (cc := cX0_wipe) (maxL := 3) (by decide) rfl (Nat.le_of_ble_eq_true rfl) ?_
  intro p e s m args below meth c Q hx hb hml hts hown hK hN hP hD hS hret ls hl
  have hl : lv_has ls 3 [(0, .ref a0), (1, .int (nI b))] := hl
  have hown : s.vm.findClass RX0 = some m.cls := hown
  refine lv_iconst (v := nI 0) hx hb dX0_wipe_0 (by decide) ?_
  refine lv_istore_n (lv' := [(2, .int (nI 0)), (0, .ref a0), (1, .int (nI b))]) hx hb dX0_wipe_1 rfl hl (by decide) rfl (fun ls hl => ?_)
  have L2 : ∀ (fu2 : Nat) (j : Nat) (g' : Nat → Nat), (64 - j < fu2) → (j ≤ 64) → (∀ q, g' q < 256) → (wip n b (64 - j) g' j = wip n b 64 g 0) → ∀ (H : Heap) (locs : List Loc), va_P (dC, dI) vwCl (Wf g') H → va_D A (Wf g') → va_S A s.heap H locs → ∀ (ls : Array Slot), lv_has ls 3 [(0, .ref a0), (1, .int (nI b)), (2, .int (nI j))] → W p l e { frames := 2, cells := 0, slots := 0, locals := 45 } s m args below meth c H locs 0 0 Q (F0 m 2 ls []) := by
    intro fu2
    induction fu2 with
    | zero => intro j g' hm; exact absurd hm (Nat.not_lt_zero _)
    | succ fu2 ih2 =>
      intro j g' hm i2_0 i2_1 i2_2 H locs hP hD hS ls hl
      refine lv_iload_n hx hb dX0_wipe_2 rfl (lv_at hl 2 rfl) ?_
      refine lv_bipush (v := nI 64) hx hb dX0_wipe_3 (by decide) ?_
      refine x_icmp_ge (tgt := 21) hx hb dX0_wipe_5 (by decide) (by omega) (by omega) (fun c5 => ?_) (fun c5 => ?_)
      · have e1 : g' = (wipG n b g) := by have h := i2_2; rw [show 64 - j = 0 by omega] at h; exact h
        have h9 : Wf g' = Wf (wipG n b g) := by rw [← e1]
        have hP := x_wP h9 hP
        have hD := x_wD h9 hD
        exact hret dX0_wipe_21 hP hD hS
      · refine lv_aload_n hx hb dX0_wipe_8 rfl (lv_at hl 0 rfl) ?_
        refine lv_iload_n hx hb dX0_wipe_9 rfl (lv_at hl 1 rfl) ?_
        refine lv_iload_n hx hb dX0_wipe_10 rfl (lv_at hl 2 rfl) ?_
        refine lv_iconst (v := nI 0) hx hb dX0_wipe_11 (by decide) ?_
        refine x_callv (va_runV (As := [.int (nI b), .int (nI j), .int (nI 0)]) (rest := []) ⟨hx, hb, hml, hown, hts⟩ (c_Bl_put hW ht hn g' b j 0 (by omega) (by omega) (by omega)) (cwV 3 hts (tbV tw_253 tw_255 tw_5 tw_85 tw_256) rfl rfl rfl (by decide +kernel) ⟨Nat.le_of_ble_eq_true rfl, Nat.le_of_ble_eq_true rfl⟩) ⟨x_blind, va_recv hK hP (ci := 0) (q0 := k0) rfl (hW.1 _), x_pre hK hP hD hN⟩ rfl rfl hl.1 rfl (lv_room (Nat.le_of_ble_eq_true rfl)) dX0_wipe_12 ⟨Nat.zero_le _, Nat.zero_le _⟩) hS (fun H locs hP hD hS => ?_)
        have hP : va_P (dC, dI) vwCl (Wf (bput n g' b j 0)) H := hP
        have hD : va_D A (Wf (bput n g' b j 0)) := hD
        refine lv_iinc (v := nI (j + 1)) (lv' := [(2, .int (nI (j + 1))), (0, .ref a0), (1, .int (nI b))]) hx hb dX0_wipe_15 hl (k := 2) rfl (x_inc _) (by decide) rfl (fun ls hl => ?_)
        refine lv_goto (tgt := 2) hx hb dX0_wipe_18 (by decide) ?_
        exact ih2 (j + 1) (bput n g' b j 0) (by omega) (by omega) (by exact bput_lt i2_1) (by have h := i2_2; rw [show 64 - j = (64 - (j + 1)) + 1 by omega, wip] at h; exact h) _ _ hP hD hS ls (lv_sub hl [1, 2, 0] rfl)
  exact L2 (64 - 0 + 1) 0 g (by omega) (by omega) (by exact hg) (by rfl) _ _ hP hD hS ls (lv_sub hl [1, 2, 0] rfl)

set_option maxHeartbeats 4000000 in
set_option maxRecDepth 100000 in
theorem c_Bl_sum {l : Launch} {dC : Nat → ClassId} {dI : Nat → Nat → Nat} {A : Nat → Prop} {tys : List (ClassId × FieldType)} {Wf : (Nat → Nat) → va_W} {k0 k1 t1 a0 a1 : Nat} {cB : ClassId} {n : Nat} (hW : okB Wf k0 k1 a0 a1 cB n) (ht : tys[t1]? = some (cB, .byte)) (hn : n ≤ 64) (g : Nat → Nat) (hg : ∀ j, g j < 256) (b d : Nat) (hb1 : b < 2 ^ 31) (hd1 : d < 2 ^ 31) : Met l yX0_sum (Cond.code yX0_sum cX0_sum 8 (some .long) :: TB) { frames := 2, cells := 0, slots := 0, locals := 44 } (xPre Nst (dC, dI) A tys (Wf g) [.ref a0, .int (nI b), .int (nI d)]) (xQl (dC, dI) A (smG n g b d) (Wf g)) 0 0 A := by
  refine x_ofWl (cc := cX0_sum) (maxL := 8) (by decide) rfl (Nat.le_of_ble_eq_true rfl) ?_
  intro p e s m args below meth c Q hx hb hml hts hown hK hN hP hD hS hret ls hl
  have hl : lv_has ls 8 [(0, .ref a0), (1, .int (nI b)), (2, .int (nI d))] := hl
  have hown : s.vm.findClass RX0 = some m.cls := hown
  obtain ⟨Rz, hRz⟩ : ∃ z, z = smG n g b d := ⟨_, rfl⟩
  refine lv_iload_n hx hb dX0_sum_0 rfl (lv_at hl 2 rfl) ?_
  refine lv_i2l (v := lN d) hx hb dX0_sum_1 (nI_l (by omega)) ?_
  refine lv_lstore_n (lv' := [(3, .long (lN d)), (0, .ref a0), (1, .int (nI b)), (2, .int (nI d))]) hx hb dX0_sum_2 rfl hl (by decide) rfl (fun ls hl => ?_)
  refine lv_iconst (v := nI 0) hx hb dX0_sum_3 (by decide) ?_
  refine lv_istore (lv' := [(5, .int (nI 0)), (3, .long (lN d)), (0, .ref a0), (1, .int (nI b)), (2, .int (nI d))]) hx hb dX0_sum_4 hl (by decide) rfl (fun ls hl => ?_)
  have L6 : ∀ (fu6 : Nat) (j : Nat) (sv : Int64), (56 - j < fu6) → (j ≤ 56) → (smF n g b (56 - j) j sv = Rz) → ∀ (H : Heap) (locs : List Loc), va_P (dC, dI) vwCl (Wf g) H → va_D A (Wf g) → va_S A s.heap H locs → ∀ (ls : Array Slot), lv_has ls 8 [(0, .ref a0), (1, .int (nI b)), (2, .int (nI d)), (3, .long (sv)), (5, .int (nI j))] → W p l e { frames := 2, cells := 0, slots := 0, locals := 44 } s m args below meth c H locs 0 0 Q (F0 m 6 ls []) := by
    intro fu6
    induction fu6 with
    | zero => intro j sv hm; exact absurd hm (Nat.not_lt_zero _)
    | succ fu6 ih6 =>
      intro j sv hm i6_0 i6_1 H locs hP hD hS ls hl
      refine lv_iload hx hb dX0_sum_6 (lv_at hl 4 rfl) ?_
      refine lv_bipush (v := nI 56) hx hb dX0_sum_8 (by decide) ?_
      refine x_icmp_ge (tgt := 47) hx hb dX0_sum_10 (by decide) (by omega) (by omega) (fun c10 => ?_) (fun c10 => ?_)
      · refine lv_lload_n hx hb dX0_sum_47 rfl (lv_at hl 3 rfl) ?_
        exact hret dX0_sum_48 (by have h := i6_1; rw [show 56 - j = 0 by omega, smF_0] at h; rw [h, hRz]) hP hD hS
      · refine lv_lload_n hx hb dX0_sum_13 rfl (lv_at hl 3 rfl) ?_
        refine lv_aload_n hx hb dX0_sum_14 rfl (lv_at hl 0 rfl) ?_
        refine lv_iload_n hx hb dX0_sum_15 rfl (lv_at hl 1 rfl) ?_
        refine lv_iload hx hb dX0_sum_16 (lv_at hl 4 rfl) ?_
        refine x_calli (va_runV (As := [.int (nI b), .int (nI j)]) (rest := [.long (sv)]) ⟨hx, hb, hml, hown, hts⟩ (c_Bl_value hW ht hn g hg b j (by omega) (by omega)) (cwV 2 hts (tbV tw_342 tw_344 tw_25 tw_85 tw_345) rfl rfl rfl (by decide +kernel) ⟨Nat.le_of_ble_eq_true rfl, Nat.le_of_ble_eq_true rfl⟩) ⟨x_blind, va_recv hK hP (ci := 0) (q0 := k0) rfl (hW.1 _), x_pre hK hP hD hN⟩ rfl rfl hl.1 rfl (lv_room (Nat.le_of_ble_eq_true rfl)) dX0_sum_18 ⟨Nat.zero_le _, Nat.zero_le _⟩) hS (fun H locs hP hD hS => ?_)
        have hP : va_P (dC, dI) vwCl (Wf g) H := hP
        have hD : va_D A (Wf g) := hD
        have hv18 : bv n g b j < 256 := bv_lt hg
        refine lv_i2l (v := lN (bv n g b j)) hx hb dX0_sum_21 (nI_l (by omega)) ?_
        refine lv_lxor hx hb dX0_sum_22 ?_
        refine lv_lstore (lv' := [(6, .long ((sv ^^^ lN (bv n g b j)))), (0, .ref a0), (1, .int (nI b)), (2, .int (nI d)), (3, .long (sv)), (5, .int (nI j))]) hx hb dX0_sum_23 hl (by decide) rfl (fun ls hl => ?_)
        refine lv_lload hx hb dX0_sum_25 (lv_at hl 0 rfl) ?_
        refine lv_bipush (v := nI 11) hx hb dX0_sum_27 (by decide) ?_
        refine lv_lshl hx hb dX0_sum_29 rfl ?_
        refine lv_lload hx hb dX0_sum_30 (lv_at hl 0 rfl) ?_
        refine lv_bipush (v := nI 53) hx hb dX0_sum_32 (by decide) ?_
        refine lv_lushr hx hb dX0_sum_34 rfl ?_
        refine lv_lor hx hb dX0_sum_35 ?_
        refine lv_ldc2 (v := (-7046029254386353131)) hx hb hown (hts _ (List.mem_cons_of_mem _ tw_346)) dX0_sum_36 ?_
        refine lv_lmul hx hb dX0_sum_39 ?_
        refine x_topl (y := sStep sv (bv n g b j)) (rfl) ?_
        refine lv_lstore_n (lv' := [(3, .long (sStep sv (bv n g b j))), (6, .long ((sv ^^^ lN (bv n g b j)))), (0, .ref a0), (1, .int (nI b)), (2, .int (nI d)), (5, .int (nI j))]) hx hb dX0_sum_40 rfl hl (by decide) rfl (fun ls hl => ?_)
        refine lv_iinc (v := nI (j + 1)) (lv' := [(5, .int (nI (j + 1))), (3, .long (sStep sv (bv n g b j))), (6, .long ((sv ^^^ lN (bv n g b j)))), (0, .ref a0), (1, .int (nI b)), (2, .int (nI d))]) hx hb dX0_sum_41 hl (k := 5) rfl (x_inc _) (by decide) rfl (fun ls hl => ?_)
        refine lv_goto (tgt := 6) hx hb dX0_sum_44 (by decide) ?_
        exact ih6 (j + 1) (sStep sv (bv n g b j)) (by omega) (by omega) (by have h := i6_1; rw [show 56 - j = (56 - (j + 1)) + 1 by omega, smF_s] at h; exact h) _ _ hP hD hS ls (lv_sub hl [3, 4, 5, 1, 0] rfl)
  exact L6 (56 - 0 + 1) 0 (lN d) (by omega) (by omega) (by rw [hRz, smG, Nat.sub_zero]) _ _ hP hD hS ls (lv_sub hl [2, 3, 4, 1, 0] rfl)

set_option maxHeartbeats 4000000 in
set_option maxRecDepth 100000 in
theorem c_Bl_isWhole {l : Launch} {dC : Nat → ClassId} {dI : Nat → Nat → Nat} {A : Nat → Prop} {tys : List (ClassId × FieldType)} {Wf : (Nat → Nat) → va_W} {k0 k1 t1 a0 a1 : Nat} {cB : ClassId} {n : Nat} (hW : okB Wf k0 k1 a0 a1 cB n) (ht : tys[t1]? = some (cB, .byte)) (hn : n ≤ 64) (g : Nat → Nat) (hg : ∀ j, g j < 256) (b : Nat) (hb1 : b < 2 ^ 31) : Met l yX0_isWhole (Cond.code yX0_isWhole cX0_isWhole 2 (some .boolean) :: TB) { frames := 3, cells := 0, slots := 0, locals := 71 } (xPre Nst (dC, dI) A tys (Wf g) [.ref a0, .int (nI b)]) (xQi (dC, dI) A (bI (whole n g b)) (Wf g)) 0 0 A := by
  refine x_ofWz (cc := cX0_isWhole) (maxL := 2) (by decide) rfl (Nat.le_of_ble_eq_true rfl) (x_narZ _) ?_
  intro p e s m args below meth c Q hx hb hml hts hown hK hN hP hD hS hret ls hl
  have hl : lv_has ls 2 [(0, .ref a0), (1, .int (nI b))] := hl
  have hown : s.vm.findClass RX0 = some m.cls := hown
  refine lv_aload_n hx hb dX0_isWhole_0 rfl (lv_at hl 0 rfl) ?_
  refine lv_iload_n hx hb dX0_isWhole_1 rfl (lv_at hl 1 rfl) ?_
  refine lv_bipush (v := nI 56) hx hb dX0_isWhole_2 (by decide) ?_
  refine lv_bipush (v := nI 8) hx hb dX0_isWhole_4 (by decide) ?_
  refine x_calll (va_runV (As := [.int (nI b), .int (nI 56), .int (nI 8)]) (rest := []) ⟨hx, hb, hml, hown, hts⟩ (c_Bl_number hW ht hn g hg b 56 8 (by omega) (by omega) (by omega)) (cwV 3 hts (tbV tw_449 tw_451 tw_42 tw_85 tw_452) rfl rfl rfl (by decide +kernel) ⟨Nat.le_of_ble_eq_true rfl, Nat.le_of_ble_eq_true rfl⟩) ⟨x_blind, va_recv hK hP (ci := 0) (q0 := k0) rfl (hW.1 _), x_pre hK hP hD hN⟩ rfl rfl hl.1 rfl (lv_room (Nat.le_of_ble_eq_true rfl)) dX0_isWhole_6 ⟨Nat.zero_le _, Nat.zero_le _⟩) hS (fun H locs hP hD hS => ?_)
  have hP : va_P (dC, dI) vwCl (Wf g) H := hP
  have hD : va_D A (Wf g) := hD
  refine lv_aload_n hx hb dX0_isWhole_9 rfl (lv_at hl 0 rfl) ?_
  refine lv_iload_n hx hb dX0_isWhole_10 rfl (lv_at hl 1 rfl) ?_
  refine lv_iload_n hx hb dX0_isWhole_11 rfl (lv_at hl 1 rfl) ?_
  refine x_calll (va_runV (As := [.int (nI b), .int (nI b)]) (rest := [.long (lN (num n g b 8 56))]) ⟨hx, hb, hml, hown, hts⟩ (c_Bl_sum hW ht hn g hg b b (by omega) (by omega)) (cwV 2 hts (tbV tw_453 tw_340 tw_24 tw_85 tw_341) rfl rfl rfl (by decide +kernel) ⟨Nat.le_of_ble_eq_true rfl, Nat.le_of_ble_eq_true rfl⟩) ⟨x_blind, va_recv hK hP (ci := 0) (q0 := k0) rfl (hW.1 _), x_pre hK hP hD hN⟩ rfl rfl hl.1 rfl (lv_room (Nat.le_of_ble_eq_true rfl)) dX0_isWhole_12 ⟨Nat.zero_le _, Nat.zero_le _⟩) hS (fun H locs hP hD hS => ?_)
  have hP : va_P (dC, dI) vwCl (Wf g) H := hP
  have hD : va_D A (Wf g) := hD
  refine W.lcmp hx hb dX0_isWhole_15 ?_
  refine x_lif_ne (tgt := 23) hx hb dX0_isWhole_16 (by decide) (fun c16 => ?_) (fun c16 => ?_)
  · refine lv_iconst (v := nI 0) hx hb dX0_isWhole_23 (by decide) ?_
    exact hret dX0_isWhole_24 (by simp [whole, c16, bI]; try rfl) hP hD hS
  · refine lv_iconst (v := nI 1) hx hb dX0_isWhole_19 (by decide) ?_
    refine lv_goto (tgt := 24) hx hb dX0_isWhole_20 (by decide) ?_
    exact hret dX0_isWhole_24 (by simp [whole, c16, bI]; try rfl) hP hD hS
