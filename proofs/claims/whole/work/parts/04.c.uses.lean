set_option maxHeartbeats 4000000 in
set_option maxRecDepth 100000 in
theorem c_Us_of {l : Launch} {dC : Nat → ClassId} {dI : Nat → Nat → Nat} {A : Nat → Prop} {tys : List (ClassId × FieldType)} {Wf : (Nat → Nat) → va_W} {k0 k1 t1 a0 a1 : Nat} {cI : ClassId} {n : Nat} (hW : okU Wf k0 k1 a0 a1 cI n) (ht : tys[t1]? = some (cI, .int)) (hn : n ≤ 64) (u : Nat → Nat) (hu : ∀ j, u j < 8) (b : Nat) (hb1 : b < 2 ^ 31) : Met l yX4_of (Cond.code yX4_of cX4_of 2 (some .int) :: TB) { frames := 0, cells := 0, slots := 0, locals := 0 } (xPre Nst (dC, dI) A tys (Wf u) [.ref a0, .int (nI b)]) (xQi (dC, dI) A (nI (uof n u b)) (Wf u)) 0 0 A := by
  refine x_ofWi (cc := cX4_of) (maxL := 2) (by decide) rfl (Nat.le_of_ble_eq_true rfl) ?_
  intro p e s m args below meth c Q hx hb hml hts hown hK hN hP hD hS hret ls hl
  have hl : lv_has ls 2 [(0, .ref a0), (1, .int (nI b))] := hl
  have hown : s.vm.findClass RX4 = some m.cls := hown
  have f25 := hts _ (List.mem_cons_of_mem _ tw_133)
  have in_X4 := (fun q hq => List.mem_cons_of_mem _ (inX4 q hq) : ∀ q ∈ wsX40, q ∈ (Cond.code yX4_of cX4_of 2 (some .int) :: TB))
  have f9 := hts _ (List.mem_cons_of_mem _ tw_132)
  refine lv_iload_n hx hb dX4_of_0 rfl (lv_at hl 1 rfl) ?_
  refine x_if_lt (tgt := 21) hx hb dX4_of_1 (by decide) (by omega) ?_
  refine lv_iload_n hx hb dX4_of_4 rfl (lv_at hl 1 rfl) ?_
  refine lv_aload_n hx hb dX4_of_5 rfl (lv_at hl 0 rfl) ?_
  refine va_get (D := (dC, dI)) (ci := 4) (v := .int (nI n)) (C := RX4) (T := TX4) (N := 2) hx hb hts in_X4 hown hK hP k0 (hW.1 _) rfl 1 (by decide) f25 (fun _ h9 => h9) rfl dX4_of_6 ?_
  refine x_icmp_ge (tgt := 21) hx hb dX4_of_9 (by decide) (by omega) (by omega) (fun c9 => ?_) (fun c9 => ?_)
  · refine lv_iconst (v := nI 0) hx hb dX4_of_21 (by decide) ?_
    exact hret dX4_of_22 (by first | rw [uof, if_pos c9] | rw [uof, if_neg (Nat.not_lt.mpr c9)]) hP hD hS
  · refine lv_aload_n hx hb dX4_of_12 rfl (lv_at hl 0 rfl) ?_
    refine va_get (D := (dC, dI)) (ci := 4) (v := .ref a1) (C := RX4) (T := TX4) (N := 2) hx hb hts in_X4 hown hK hP k0 (hW.1 _) rfl 0 (by decide) f9 (fun _ h9 => h9) rfl dX4_of_13 ?_
    refine lv_iload_n hx hb dX4_of_16 rfl (lv_at hl 1 rfl) ?_
    refine x_iald hx hb hK hP k1 t1 (hW.2.1 _) ht (by omega) (by decide) dX4_of_17 ?_
    refine lv_goto (tgt := 22) hx hb dX4_of_18 (by decide) ?_
    exact hret dX4_of_22 (by first | rw [uof, if_pos c9] | rw [uof, if_neg (Nat.not_lt.mpr c9)]) hP hD hS

set_option maxHeartbeats 4000000 in
set_option maxRecDepth 100000 in
theorem c_Us_mark {l : Launch} {dC : Nat → ClassId} {dI : Nat → Nat → Nat} {A : Nat → Prop} {tys : List (ClassId × FieldType)} {Wf : (Nat → Nat) → va_W} {k0 k1 t1 a0 a1 : Nat} {cI : ClassId} {n : Nat} (hW : okU Wf k0 k1 a0 a1 cI n) (ht : tys[t1]? = some (cI, .int)) (hn : n ≤ 64) (u : Nat → Nat) (hu : ∀ j, u j < 8) (f k v : Nat) (hf1 : f + k < 2 ^ 31) (hv1 : v < 8) : Met l yX4_mark (Cond.code yX4_mark cX4_mark 6 none :: TB) { frames := 0, cells := 0, slots := 0, locals := 0 } (xPre Nst (dC, dI) A tys (Wf u) [.ref a0, .int (nI f), .int (nI k), .int (nI v)]) (xQv (dC, dI) A (Wf (umk n f v k u 0))) 0 0 A := by
  refine x_ofWv (cc := cX4_mark) (maxL := 6) (by decide) rfl (Nat.le_of_ble_eq_true rfl) ?_
  intro p e s m args below meth c Q hx hb hml hts hown hK hN hP hD hS hret ls hl
  have hl : lv_has ls 6 [(0, .ref a0), (1, .int (nI f)), (2, .int (nI k)), (3, .int (nI v))] := hl
  have hown : s.vm.findClass RX4 = some m.cls := hown
  have f25 := hts _ (List.mem_cons_of_mem _ tw_133)
  have in_X4 := (fun q hq => List.mem_cons_of_mem _ (inX4 q hq) : ∀ q ∈ wsX40, q ∈ (Cond.code yX4_mark cX4_mark 6 none :: TB))
  have f9 := hts _ (List.mem_cons_of_mem _ tw_132)
  refine lv_iconst (v := nI 0) hx hb dX4_mark_0 (by decide) ?_
  refine lv_istore (lv' := [(4, .int (nI 0)), (0, .ref a0), (1, .int (nI f)), (2, .int (nI k)), (3, .int (nI v))]) hx hb dX4_mark_1 hl (by decide) rfl (fun ls hl => ?_)
  have L3 : ∀ (fu3 : Nat) (j : Nat) (u' : Nat → Nat), (k - j < fu3) → (j ≤ k) → (∀ q, u' q < 8) → (umk n f v (k - j) u' j = umk n f v k u 0) → ∀ (H : Heap) (locs : List Loc), va_P (dC, dI) vwCl (Wf u') H → va_D A (Wf u') → va_S A s.heap H locs → ∀ (ls : Array Slot), lv_has ls 6 [(0, .ref a0), (1, .int (nI f)), (2, .int (nI k)), (3, .int (nI v)), (4, .int (nI j))] → W p l e { frames := 0, cells := 0, slots := 0, locals := 0 } s m args below meth c H locs 0 0 Q (F0 m 3 ls []) := by
    intro fu3
    induction fu3 with
    | zero => intro j u' hm; exact absurd hm (Nat.not_lt_zero _)
    | succ fu3 ih3 =>
      intro j u' hm i3_0 i3_1 i3_2 H locs hP hD hS ls hl
      refine lv_iload hx hb dX4_mark_3 (lv_at hl 4 rfl) ?_
      refine lv_iload_n hx hb dX4_mark_5 rfl (lv_at hl 2 rfl) ?_
      refine x_icmp_ge (tgt := 43) hx hb dX4_mark_6 (by decide) (by omega) (by omega) (fun c6 => ?_) (fun c6 => ?_)
      · have e1 : u' = (umk n f v k u 0) := by have h := i3_2; rw [show k - j = 0 by omega] at h; exact h
        have h9 : Wf u' = Wf (umk n f v k u 0) := by rw [← e1]
        have hP := x_wP h9 hP
        have hD := x_wD h9 hD
        exact hret dX4_mark_43 hP hD hS
      · refine lv_iload_n hx hb dX4_mark_9 rfl (lv_at hl 1 rfl) ?_
        refine lv_iload hx hb dX4_mark_10 (lv_at hl 4 rfl) ?_
        refine x_iadd hx hb dX4_mark_12 ?_
        refine lv_istore (lv' := [(5, .int (nI (f + j))), (0, .ref a0), (1, .int (nI f)), (2, .int (nI k)), (3, .int (nI v)), (4, .int (nI j))]) hx hb dX4_mark_13 hl (by decide) rfl (fun ls hl => ?_)
        refine lv_iload hx hb dX4_mark_15 (lv_at hl 0 rfl) ?_
        refine x_if_lt (tgt := 37) hx hb dX4_mark_17 (by decide) (by omega) ?_
        refine lv_iload hx hb dX4_mark_20 (lv_at hl 0 rfl) ?_
        refine lv_aload_n hx hb dX4_mark_22 rfl (lv_at hl 1 rfl) ?_
        refine va_get (D := (dC, dI)) (ci := 4) (v := .int (nI n)) (C := RX4) (T := TX4) (N := 2) hx hb hts in_X4 hown hK hP k0 (hW.1 _) rfl 1 (by decide) f25 (fun _ h9 => h9) rfl dX4_mark_23 ?_
        refine x_icmp_ge (tgt := 37) hx hb dX4_mark_26 (by decide) (by omega) (by omega) (fun c26 => ?_) (fun c26 => ?_)
        · refine lv_iinc (v := nI (j + 1)) (lv' := [(4, .int (nI (j + 1))), (5, .int (nI (f + j))), (0, .ref a0), (1, .int (nI f)), (2, .int (nI k)), (3, .int (nI v))]) hx hb dX4_mark_37 hl (k := 5) rfl (x_inc _) (by decide) rfl (fun ls hl => ?_)
          refine lv_goto (tgt := 3) hx hb dX4_mark_40 (by decide) ?_
          exact ih3 (j + 1) u' (by omega) (by omega) (by first | exact i3_1 | exact va_up_lt i3_1 hv1) (by have h := i3_2; rw [show k - j = (k - (j + 1)) + 1 by omega, umk] at h; first | (rw [if_pos c26] at h; exact h) | (rw [if_neg (Nat.not_lt.mpr c26)] at h; exact h)) _ _ hP hD hS ls (lv_sub hl [2, 3, 4, 5, 0] rfl)
        · refine lv_aload_n hx hb dX4_mark_29 rfl (lv_at hl 1 rfl) ?_
          refine va_get (D := (dC, dI)) (ci := 4) (v := .ref a1) (C := RX4) (T := TX4) (N := 2) hx hb hts in_X4 hown hK hP k0 (hW.1 _) rfl 0 (by decide) f9 (fun _ h9 => h9) rfl dX4_mark_30 ?_
          refine lv_iload hx hb dX4_mark_33 (lv_at hl 0 rfl) ?_
          refine lv_iload_n hx hb dX4_mark_35 rfl (lv_at hl 4 rfl) ?_
          refine x_iast hx hb hK hP hD hS k1 t1 (hW.2.1 _) ht (by omega) (by decide) dX4_mark_36 (fun H locs hP hD hS => ?_)
          have hP := x_wP (hW.2.2 _ (va_up u' (f + j) v)) hP
          have hD := x_wD (hW.2.2 _ (va_up u' (f + j) v)) hD
          have hP : va_P (dC, dI) vwCl (Wf (va_up u' (f + j) v)) H := hP
          have hD : va_D A (Wf (va_up u' (f + j) v)) := hD
          refine lv_iinc (v := nI (j + 1)) (lv' := [(4, .int (nI (j + 1))), (5, .int (nI (f + j))), (0, .ref a0), (1, .int (nI f)), (2, .int (nI k)), (3, .int (nI v))]) hx hb dX4_mark_37 hl (k := 5) rfl (x_inc _) (by decide) rfl (fun ls hl => ?_)
          refine lv_goto (tgt := 3) hx hb dX4_mark_40 (by decide) ?_
          exact ih3 (j + 1) (va_up u' (f + j) v) (by omega) (by omega) (by first | exact i3_1 | exact va_up_lt i3_1 hv1) (by have h := i3_2; rw [show k - j = (k - (j + 1)) + 1 by omega, umk] at h; first | (rw [if_pos c26] at h; exact h) | (rw [if_neg (Nat.not_lt.mpr c26)] at h; exact h)) _ _ hP hD hS ls (lv_sub hl [2, 3, 4, 5, 0] rfl)
  exact L3 (k - 0 + 1) 0 u (by omega) (by omega) (by exact hu) (by rfl) _ _ hP hD hS ls (lv_sub hl [1, 2, 3, 4, 0] rfl)

set_option maxHeartbeats 4000000 in
set_option maxRecDepth 100000 in
theorem c_Us_turn {l : Launch} {dC : Nat → ClassId} {dI : Nat → Nat → Nat} {A : Nat → Prop} {tys : List (ClassId × FieldType)} {Wf : (Nat → Nat) → va_W} {k0 k1 t1 a0 a1 : Nat} {cI : ClassId} {n : Nat} (hW : okU Wf k0 k1 a0 a1 cI n) (ht : tys[t1]? = some (cI, .int)) (hn : n ≤ 64) (u : Nat → Nat) (hu : ∀ j, u j < 8) (x y : Nat) (hx1 : x < 8) (hy1 : y < 8) : Met l yX4_turn (Cond.code yX4_turn cX4_turn 4 none :: TB) { frames := 0, cells := 0, slots := 0, locals := 0 } (xPre Nst (dC, dI) A tys (Wf u) [.ref a0, .int (nI x), .int (nI y)]) (xQv (dC, dI) A (Wf (utn x y n u 0))) 0 0 A := by
  refine x_ofWv (cc := cX4_turn) (maxL := 4) (by decide) rfl (Nat.le_of_ble_eq_true rfl) ?_
  intro p e s m args below meth c Q hx hb hml hts hown hK hN hP hD hS hret ls hl
  have hl : lv_has ls 4 [(0, .ref a0), (1, .int (nI x)), (2, .int (nI y))] := hl
  have hown : s.vm.findClass RX4 = some m.cls := hown
  have f25 := hts _ (List.mem_cons_of_mem _ tw_133)
  have in_X4 := (fun q hq => List.mem_cons_of_mem _ (inX4 q hq) : ∀ q ∈ wsX40, q ∈ (Cond.code yX4_turn cX4_turn 4 none :: TB))
  have f9 := hts _ (List.mem_cons_of_mem _ tw_132)
  refine lv_iconst (v := nI 0) hx hb dX4_turn_0 (by decide) ?_
  refine lv_istore_n (lv' := [(3, .int (nI 0)), (0, .ref a0), (1, .int (nI x)), (2, .int (nI y))]) hx hb dX4_turn_1 rfl hl (by decide) rfl (fun ls hl => ?_)
  have L2 : ∀ (fu2 : Nat) (b : Nat) (u' : Nat → Nat), (n - b < fu2) → (b ≤ n) → (∀ q, u' q < 8) → (utn x y (n - b) u' b = utn x y n u 0) → ∀ (H : Heap) (locs : List Loc), va_P (dC, dI) vwCl (Wf u') H → va_D A (Wf u') → va_S A s.heap H locs → ∀ (ls : Array Slot), lv_has ls 4 [(0, .ref a0), (1, .int (nI x)), (2, .int (nI y)), (3, .int (nI b))] → W p l e { frames := 0, cells := 0, slots := 0, locals := 0 } s m args below meth c H locs 0 0 Q (F0 m 2 ls []) := by
    intro fu2
    induction fu2 with
    | zero => intro b u' hm; exact absurd hm (Nat.not_lt_zero _)
    | succ fu2 ih2 =>
      intro b u' hm i2_0 i2_1 i2_2 H locs hP hD hS ls hl
      have q1 := i2_1 b
      refine lv_iload_n hx hb dX4_turn_2 rfl (lv_at hl 3 rfl) ?_
      refine lv_aload_n hx hb dX4_turn_3 rfl (lv_at hl 0 rfl) ?_
      refine va_get (D := (dC, dI)) (ci := 4) (v := .int (nI n)) (C := RX4) (T := TX4) (N := 2) hx hb hts in_X4 hown hK hP k0 (hW.1 _) rfl 1 (by decide) f25 (fun _ h9 => h9) rfl dX4_turn_4 ?_
      refine x_icmp_ge (tgt := 33) hx hb dX4_turn_7 (by decide) (by omega) (by omega) (fun c7 => ?_) (fun c7 => ?_)
      · have e1 : u' = (utn x y n u 0) := by have h := i2_2; rw [show n - b = 0 by omega] at h; exact h
        have h9 : Wf u' = Wf (utn x y n u 0) := by rw [← e1]
        have hP := x_wP h9 hP
        have hD := x_wD h9 hD
        exact hret dX4_turn_33 hP hD hS
      · refine lv_aload_n hx hb dX4_turn_10 rfl (lv_at hl 0 rfl) ?_
        refine va_get (D := (dC, dI)) (ci := 4) (v := .ref a1) (C := RX4) (T := TX4) (N := 2) hx hb hts in_X4 hown hK hP k0 (hW.1 _) rfl 0 (by decide) f9 (fun _ h9 => h9) rfl dX4_turn_11 ?_
        refine lv_iload_n hx hb dX4_turn_14 rfl (lv_at hl 3 rfl) ?_
        refine x_iald hx hb hK hP k1 t1 (hW.2.1 _) ht (by omega) (by decide) dX4_turn_15 ?_
        refine lv_iload_n hx hb dX4_turn_16 rfl (lv_at hl 1 rfl) ?_
        refine x_icmp_ne (tgt := 27) hx hb dX4_turn_17 (by decide) (by omega) (by omega) (fun c17 => ?_) (fun c17 => ?_)
        · refine lv_iinc (v := nI (b + 1)) (lv' := [(3, .int (nI (b + 1))), (0, .ref a0), (1, .int (nI x)), (2, .int (nI y))]) hx hb dX4_turn_27 hl (k := 3) rfl (x_inc _) (by decide) rfl (fun ls hl => ?_)
          refine lv_goto (tgt := 2) hx hb dX4_turn_30 (by decide) ?_
          exact ih2 (b + 1) u' (by omega) (by omega) (by first | exact i2_1 | exact va_up_lt i2_1 hy1) (by have h := i2_2; rw [show n - b = (n - (b + 1)) + 1 by omega, utn] at h; first | (rw [if_pos c17] at h; exact h) | (rw [if_neg c17] at h; exact h)) _ _ hP hD hS ls (lv_sub hl [1, 2, 3, 0] rfl)
        · refine lv_aload_n hx hb dX4_turn_20 rfl (lv_at hl 0 rfl) ?_
          refine va_get (D := (dC, dI)) (ci := 4) (v := .ref a1) (C := RX4) (T := TX4) (N := 2) hx hb hts in_X4 hown hK hP k0 (hW.1 _) rfl 0 (by decide) f9 (fun _ h9 => h9) rfl dX4_turn_21 ?_
          refine lv_iload_n hx hb dX4_turn_24 rfl (lv_at hl 3 rfl) ?_
          refine lv_iload_n hx hb dX4_turn_25 rfl (lv_at hl 2 rfl) ?_
          refine x_iast hx hb hK hP hD hS k1 t1 (hW.2.1 _) ht (by omega) (by decide) dX4_turn_26 (fun H locs hP hD hS => ?_)
          have hP := x_wP (hW.2.2 _ (va_up u' b y)) hP
          have hD := x_wD (hW.2.2 _ (va_up u' b y)) hD
          have hP : va_P (dC, dI) vwCl (Wf (va_up u' b y)) H := hP
          have hD : va_D A (Wf (va_up u' b y)) := hD
          refine lv_iinc (v := nI (b + 1)) (lv' := [(3, .int (nI (b + 1))), (0, .ref a0), (1, .int (nI x)), (2, .int (nI y))]) hx hb dX4_turn_27 hl (k := 3) rfl (x_inc _) (by decide) rfl (fun ls hl => ?_)
          refine lv_goto (tgt := 2) hx hb dX4_turn_30 (by decide) ?_
          exact ih2 (b + 1) (va_up u' b y) (by omega) (by omega) (by first | exact i2_1 | exact va_up_lt i2_1 hy1) (by have h := i2_2; rw [show n - b = (n - (b + 1)) + 1 by omega, utn] at h; first | (rw [if_pos c17] at h; exact h) | (rw [if_neg c17] at h; exact h)) _ _ hP hD hS ls (lv_sub hl [1, 2, 3, 0] rfl)
  exact L2 (n - 0 + 1) 0 u (by omega) (by omega) (by exact hu) (by rfl) _ _ hP hD hS ls (lv_sub hl [1, 2, 3, 0] rfl)

set_option maxHeartbeats 4000000 in
set_option maxRecDepth 100000 in
theorem c_Us_howMany {l : Launch} {dC : Nat → ClassId} {dI : Nat → Nat → Nat} {A : Nat → Prop} {tys : List (ClassId × FieldType)} {Wf : (Nat → Nat) → va_W} {k0 k1 t1 a0 a1 : Nat} {cI : ClassId} {n : Nat} (hW : okU Wf k0 k1 a0 a1 cI n) (ht : tys[t1]? = some (cI, .int)) (hn : n ≤ 64) (u : Nat → Nat) (hu : ∀ j, u j < 8) (x : Nat) (hx1 : x < 8) : Met l yX4_howMany (Cond.code yX4_howMany cX4_howMany 4 (some .int) :: TB) { frames := 0, cells := 0, slots := 0, locals := 0 } (xPre Nst (dC, dI) A tys (Wf u) [.ref a0, .int (nI x)]) (xQi (dC, dI) A (nI (uhm x u n 0 0)) (Wf u)) 0 0 A := by
  refine x_ofWi (cc := cX4_howMany) (maxL := 4) (by decide) rfl (Nat.le_of_ble_eq_true rfl) ?_
  intro p e s m args below meth c Q hx hb hml hts hown hK hN hP hD hS hret ls hl
  have hl : lv_has ls 4 [(0, .ref a0), (1, .int (nI x))] := hl
  have hown : s.vm.findClass RX4 = some m.cls := hown
  have f25 := hts _ (List.mem_cons_of_mem _ tw_133)
  have in_X4 := (fun q hq => List.mem_cons_of_mem _ (inX4 q hq) : ∀ q ∈ wsX40, q ∈ (Cond.code yX4_howMany cX4_howMany 4 (some .int) :: TB))
  have f9 := hts _ (List.mem_cons_of_mem _ tw_132)
  refine lv_iconst (v := nI 0) hx hb dX4_howMany_0 (by decide) ?_
  refine lv_istore_n (lv' := [(2, .int (nI 0)), (0, .ref a0), (1, .int (nI x))]) hx hb dX4_howMany_1 rfl hl (by decide) rfl (fun ls hl => ?_)
  refine lv_iconst (v := nI 0) hx hb dX4_howMany_2 (by decide) ?_
  refine lv_istore_n (lv' := [(3, .int (nI 0)), (2, .int (nI 0)), (0, .ref a0), (1, .int (nI x))]) hx hb dX4_howMany_3 rfl hl (by decide) rfl (fun ls hl => ?_)
  have L4 : ∀ (fu4 : Nat) (b : Nat) (r : Nat), (n - b < fu4) → (b ≤ n) → (r ≤ b) → (uhm x u (n - b) b r = uhm x u n 0 0) → ∀ (H : Heap) (locs : List Loc), va_P (dC, dI) vwCl (Wf u) H → va_D A (Wf u) → va_S A s.heap H locs → ∀ (ls : Array Slot), lv_has ls 4 [(0, .ref a0), (1, .int (nI x)), (2, .int (nI r)), (3, .int (nI b))] → W p l e { frames := 0, cells := 0, slots := 0, locals := 0 } s m args below meth c H locs 0 0 Q (F0 m 4 ls []) := by
    intro fu4
    induction fu4 with
    | zero => intro b r hm; exact absurd hm (Nat.not_lt_zero _)
    | succ fu4 ih4 =>
      intro b r hm i4_0 i4_1 i4_2 H locs hP hD hS ls hl
      have q1 := hu b
      refine lv_iload_n hx hb dX4_howMany_4 rfl (lv_at hl 3 rfl) ?_
      refine lv_aload_n hx hb dX4_howMany_5 rfl (lv_at hl 0 rfl) ?_
      refine va_get (D := (dC, dI)) (ci := 4) (v := .int (nI n)) (C := RX4) (T := TX4) (N := 2) hx hb hts in_X4 hown hK hP k0 (hW.1 _) rfl 1 (by decide) f25 (fun _ h9 => h9) rfl dX4_howMany_6 ?_
      refine x_icmp_ge (tgt := 31) hx hb dX4_howMany_9 (by decide) (by omega) (by omega) (fun c9 => ?_) (fun c9 => ?_)
      · refine lv_iload_n hx hb dX4_howMany_31 rfl (lv_at hl 2 rfl) ?_
        exact hret dX4_howMany_32 (by have h := i4_2; rw [show n - b = 0 by omega, uhm] at h; rw [h]) hP hD hS
      · refine lv_aload_n hx hb dX4_howMany_12 rfl (lv_at hl 0 rfl) ?_
        refine va_get (D := (dC, dI)) (ci := 4) (v := .ref a1) (C := RX4) (T := TX4) (N := 2) hx hb hts in_X4 hown hK hP k0 (hW.1 _) rfl 0 (by decide) f9 (fun _ h9 => h9) rfl dX4_howMany_13 ?_
        refine lv_iload_n hx hb dX4_howMany_16 rfl (lv_at hl 3 rfl) ?_
        refine x_iald hx hb hK hP k1 t1 (hW.2.1 _) ht (by omega) (by decide) dX4_howMany_17 ?_
        refine lv_iload_n hx hb dX4_howMany_18 rfl (lv_at hl 1 rfl) ?_
        refine x_icmp_ne (tgt := 25) hx hb dX4_howMany_19 (by decide) (by omega) (by omega) (fun c19 => ?_) (fun c19 => ?_)
        · refine lv_iinc (v := nI (b + 1)) (lv' := [(3, .int (nI (b + 1))), (0, .ref a0), (1, .int (nI x)), (2, .int (nI r))]) hx hb dX4_howMany_25 hl (k := 3) rfl (x_inc _) (by decide) rfl (fun ls hl => ?_)
          refine lv_goto (tgt := 4) hx hb dX4_howMany_28 (by decide) ?_
          exact ih4 (b + 1) r (by omega) (by omega) (by omega) (by have h := i4_2; rw [show n - b = (n - (b + 1)) + 1 by omega, uhm] at h; first | (rw [if_pos c19] at h; exact h) | (rw [if_neg c19] at h; exact h)) _ _ hP hD hS ls (lv_sub hl [1, 2, 3, 0] rfl)
        · refine lv_iinc (v := nI (r + 1)) (lv' := [(2, .int (nI (r + 1))), (0, .ref a0), (1, .int (nI x)), (3, .int (nI b))]) hx hb dX4_howMany_22 hl (k := 2) rfl (x_inc _) (by decide) rfl (fun ls hl => ?_)
          refine lv_iinc (v := nI (b + 1)) (lv' := [(3, .int (nI (b + 1))), (2, .int (nI (r + 1))), (0, .ref a0), (1, .int (nI x))]) hx hb dX4_howMany_25 hl (k := 3) rfl (x_inc _) (by decide) rfl (fun ls hl => ?_)
          refine lv_goto (tgt := 4) hx hb dX4_howMany_28 (by decide) ?_
          exact ih4 (b + 1) (r + 1) (by omega) (by omega) (by omega) (by have h := i4_2; rw [show n - b = (n - (b + 1)) + 1 by omega, uhm] at h; first | (rw [if_pos c19] at h; exact h) | (rw [if_neg c19] at h; exact h)) _ _ hP hD hS ls (lv_sub hl [2, 3, 1, 0] rfl)
  exact L4 (n - 0 + 1) 0 0 (by omega) (by omega) (by omega) (by rfl) _ _ hP hD hS ls (lv_sub hl [2, 3, 1, 0] rfl)

set_option maxHeartbeats 4000000 in
set_option maxRecDepth 100000 in
theorem c_Us_leastRun {l : Launch} {dC : Nat → ClassId} {dI : Nat → Nat → Nat} {A : Nat → Prop} {tys : List (ClassId × FieldType)} {Wf : (Nat → Nat) → va_W} {k0 k1 t1 a0 a1 : Nat} {cI : ClassId} {n : Nat} (hW : okU Wf k0 k1 a0 a1 cI n) (ht : tys[t1]? = some (cI, .int)) (hn : n ≤ 64) (u : Nat → Nat) (hu : ∀ j, u j < 8) (w : Nat) (hw0 : 0 < w) (hw1 : w < 2 ^ 31) : Met l yX4_leastRun (Cond.code yX4_leastRun cX4_leastRun 4 (some .int) :: TB) { frames := 0, cells := 0, slots := 0, locals := 0 } (xPre Nst (dC, dI) A tys (Wf u) [.ref a0, .int (nI w)]) (xQi (dC, dI) A (oI (ulr u w n 0 0)) (Wf u)) 0 0 A := by
  refine x_ofWi (cc := cX4_leastRun) (maxL := 4) (by decide) rfl (Nat.le_of_ble_eq_true rfl) ?_
  intro p e s m args below meth c Q hx hb hml hts hown hK hN hP hD hS hret ls hl
  have hl : lv_has ls 4 [(0, .ref a0), (1, .int (nI w))] := hl
  have hown : s.vm.findClass RX4 = some m.cls := hown
  have f25 := hts _ (List.mem_cons_of_mem _ tw_133)
  have in_X4 := (fun q hq => List.mem_cons_of_mem _ (inX4 q hq) : ∀ q ∈ wsX40, q ∈ (Cond.code yX4_leastRun cX4_leastRun 4 (some .int) :: TB))
  have f9 := hts _ (List.mem_cons_of_mem _ tw_132)
  refine lv_iconst (v := nI 0) hx hb dX4_leastRun_0 (by decide) ?_
  refine lv_istore_n (lv' := [(2, .int (nI 0)), (0, .ref a0), (1, .int (nI w))]) hx hb dX4_leastRun_1 rfl hl (by decide) rfl (fun ls hl => ?_)
  refine lv_iconst (v := nI 0) hx hb dX4_leastRun_2 (by decide) ?_
  refine lv_istore_n (lv' := [(3, .int (nI 0)), (2, .int (nI 0)), (0, .ref a0), (1, .int (nI w))]) hx hb dX4_leastRun_3 rfl hl (by decide) rfl (fun ls hl => ?_)
  have L4 : ∀ (fu4 : Nat) (b : Nat) (r : Nat), (n - b < fu4) → (b ≤ n) → (r ≤ b) → (ulr u w (n - b) b r = ulr u w n 0 0) → ∀ (H : Heap) (locs : List Loc), va_P (dC, dI) vwCl (Wf u) H → va_D A (Wf u) → va_S A s.heap H locs → ∀ (ls : Array Slot), lv_has ls 4 [(0, .ref a0), (1, .int (nI w)), (2, .int (nI r)), (3, .int (nI b))] → W p l e { frames := 0, cells := 0, slots := 0, locals := 0 } s m args below meth c H locs 0 0 Q (F0 m 4 ls []) := by
    intro fu4
    induction fu4 with
    | zero => intro b r hm; exact absurd hm (Nat.not_lt_zero _)
    | succ fu4 ih4 =>
      intro b r hm i4_0 i4_1 i4_2 H locs hP hD hS ls hl
      have q1 := hu b
      refine lv_iload_n hx hb dX4_leastRun_4 rfl (lv_at hl 3 rfl) ?_
      refine lv_aload_n hx hb dX4_leastRun_5 rfl (lv_at hl 0 rfl) ?_
      refine va_get (D := (dC, dI)) (ci := 4) (v := .int (nI n)) (C := RX4) (T := TX4) (N := 2) hx hb hts in_X4 hown hK hP k0 (hW.1 _) rfl 1 (by decide) f25 (fun _ h9 => h9) rfl dX4_leastRun_6 ?_
      refine x_icmp_ge (tgt := 46) hx hb dX4_leastRun_9 (by decide) (by omega) (by omega) (fun c9 => ?_) (fun c9 => ?_)
      · refine lv_bipush (v := (-2)) hx hb dX4_leastRun_46 (by decide) ?_
        exact hret dX4_leastRun_48 (by have h := i4_2; rw [show n - b = 0 by omega, ulr] at h; rw [← h]; rfl) hP hD hS
      · refine lv_aload_n hx hb dX4_leastRun_12 rfl (lv_at hl 0 rfl) ?_
        refine va_get (D := (dC, dI)) (ci := 4) (v := .ref a1) (C := RX4) (T := TX4) (N := 2) hx hb hts in_X4 hown hK hP k0 (hW.1 _) rfl 0 (by decide) f9 (fun _ h9 => h9) rfl dX4_leastRun_13 ?_
        refine lv_iload_n hx hb dX4_leastRun_16 rfl (lv_at hl 3 rfl) ?_
        refine x_iald hx hb hK hP k1 t1 (hW.2.1 _) ht (by omega) (by decide) dX4_leastRun_17 ?_
        refine x_if_ne (tgt := 27) hx hb dX4_leastRun_18 (by decide) (by omega) (fun c18 => ?_) (fun c18 => ?_)
        · refine lv_iconst (v := nI 0) hx hb dX4_leastRun_27 (by decide) ?_
          refine lv_istore_n (lv' := [(2, .int (nI 0)), (0, .ref a0), (1, .int (nI w)), (3, .int (nI b))]) hx hb dX4_leastRun_28 rfl hl (by decide) rfl (fun ls hl => ?_)
          refine lv_iload_n hx hb dX4_leastRun_29 rfl (lv_at hl 0 rfl) ?_
          refine lv_iload_n hx hb dX4_leastRun_30 rfl (lv_at hl 2 rfl) ?_
          refine x_icmp_lt (tgt := 40) hx hb dX4_leastRun_31 (by decide) (by omega) (by omega) (fun c31 => ?_) (fun c31 => ?_)
          · refine lv_iinc (v := nI (b + 1)) (lv' := [(3, .int (nI (b + 1))), (2, .int (nI 0)), (0, .ref a0), (1, .int (nI w))]) hx hb dX4_leastRun_40 hl (k := 3) rfl (x_inc _) (by decide) rfl (fun ls hl => ?_)
            refine lv_goto (tgt := 4) hx hb dX4_leastRun_43 (by decide) ?_
            exact ih4 (b + 1) 0 (by omega) (by omega) (by omega) (by have h := i4_2; rw [show n - b = (n - (b + 1)) + 1 by omega, ulr] at h; first | (rw [if_pos c18, if_neg (Nat.not_le.mpr c31)] at h; exact h) | (rw [if_neg c18, if_neg (Nat.not_le.mpr c31)] at h; exact h)) _ _ hP hD hS ls (lv_sub hl [2, 3, 1, 0] rfl)
          · refine lv_iload_n hx hb dX4_leastRun_34 rfl (lv_at hl 3 rfl) ?_
            refine lv_iload_n hx hb dX4_leastRun_35 rfl (lv_at hl 2 rfl) ?_
            refine lv_isub hx hb dX4_leastRun_36 ?_
            refine lv_iconst (v := nI 1) hx hb dX4_leastRun_37 (by decide) ?_
            refine lv_iadd hx hb dX4_leastRun_38 ?_
            exact hret dX4_leastRun_39 (by first | exact absurd c31 (by omega) | (have h := i4_2; rw [show n - b = (n - (b + 1)) + 1 by omega, ulr, if_pos c18, if_pos c31] at h; rw [← h]; exact x_lr (by omega))) hP hD hS
        · refine lv_iload_n hx hb dX4_leastRun_21 rfl (lv_at hl 2 rfl) ?_
          refine lv_iconst (v := nI 1) hx hb dX4_leastRun_22 (by decide) ?_
          refine x_iadd hx hb dX4_leastRun_23 ?_
          refine lv_goto (tgt := 28) hx hb dX4_leastRun_24 (by decide) ?_
          refine lv_istore_n (lv' := [(2, .int (nI (r + 1))), (0, .ref a0), (1, .int (nI w)), (3, .int (nI b))]) hx hb dX4_leastRun_28 rfl hl (by decide) rfl (fun ls hl => ?_)
          refine lv_iload_n hx hb dX4_leastRun_29 rfl (lv_at hl 0 rfl) ?_
          refine lv_iload_n hx hb dX4_leastRun_30 rfl (lv_at hl 2 rfl) ?_
          refine x_icmp_lt (tgt := 40) hx hb dX4_leastRun_31 (by decide) (by omega) (by omega) (fun c31 => ?_) (fun c31 => ?_)
          · refine lv_iinc (v := nI (b + 1)) (lv' := [(3, .int (nI (b + 1))), (2, .int (nI (r + 1))), (0, .ref a0), (1, .int (nI w))]) hx hb dX4_leastRun_40 hl (k := 3) rfl (x_inc _) (by decide) rfl (fun ls hl => ?_)
            refine lv_goto (tgt := 4) hx hb dX4_leastRun_43 (by decide) ?_
            exact ih4 (b + 1) (r + 1) (by omega) (by omega) (by omega) (by have h := i4_2; rw [show n - b = (n - (b + 1)) + 1 by omega, ulr] at h; first | (rw [if_pos c18, if_neg (Nat.not_le.mpr c31)] at h; exact h) | (rw [if_neg c18, if_neg (Nat.not_le.mpr c31)] at h; exact h)) _ _ hP hD hS ls (lv_sub hl [2, 3, 1, 0] rfl)
          · refine lv_iload_n hx hb dX4_leastRun_34 rfl (lv_at hl 3 rfl) ?_
            refine lv_iload_n hx hb dX4_leastRun_35 rfl (lv_at hl 2 rfl) ?_
            refine lv_isub hx hb dX4_leastRun_36 ?_
            refine lv_iconst (v := nI 1) hx hb dX4_leastRun_37 (by decide) ?_
            refine lv_iadd hx hb dX4_leastRun_38 ?_
            exact hret dX4_leastRun_39 (by first | exact absurd c31 (by omega) | (have h := i4_2; rw [show n - b = (n - (b + 1)) + 1 by omega, ulr, if_pos c18, if_pos c31] at h; rw [← h]; exact x_lr (by omega))) hP hD hS
  exact L4 (n - 0 + 1) 0 0 (by omega) (by omega) (by omega) (by rfl) _ _ hP hD hS ls (lv_sub hl [2, 3, 1, 0] rfl)

set_option maxHeartbeats 4000000 in
set_option maxRecDepth 100000 in
theorem c_Us_leastFree {l : Launch} {dC : Nat → ClassId} {dI : Nat → Nat → Nat} {A : Nat → Prop} {tys : List (ClassId × FieldType)} {Wf : (Nat → Nat) → va_W} {k0 k1 t1 a0 a1 : Nat} {cI : ClassId} {n : Nat} (hW : okU Wf k0 k1 a0 a1 cI n) (ht : tys[t1]? = some (cI, .int)) (hn : n ≤ 64) (u : Nat → Nat) (hu : ∀ j, u j < 8) : Met l yX4_leastFree (Cond.code yX4_leastFree cX4_leastFree 1 (some .int) :: TB) { frames := 1, cells := 0, slots := 0, locals := 23 } (xPre Nst (dC, dI) A tys (Wf u) [.ref a0]) (xQi (dC, dI) A (oI (ulr u 1 n 0 0)) (Wf u)) 0 0 A := by
  refine x_ofWi (cc := cX4_leastFree) (maxL := 1) (by decide) rfl (Nat.le_of_ble_eq_true rfl) ?_
  intro p e s m args below meth c Q hx hb hml hts hown hK hN hP hD hS hret ls hl
  have hl : lv_has ls 1 [(0, .ref a0)] := hl
  have hown : s.vm.findClass RX4 = some m.cls := hown
  refine lv_aload_n hx hb dX4_leastFree_0 rfl (lv_at hl 0 rfl) ?_
  refine lv_iconst (v := nI 1) hx hb dX4_leastFree_1 (by decide) ?_
  refine x_calli (va_runV (As := [.int (nI 1)]) (rest := []) ⟨hx, hb, hml, hown, hts⟩ (c_Us_leastRun hW ht hn u hu 1 (by omega) (by omega)) (cwV 1 hts (tbV tw_283 tw_285 tw_11 tw_86 tw_286) rfl rfl rfl (by decide +kernel) ⟨Nat.le_of_ble_eq_true rfl, Nat.le_of_ble_eq_true rfl⟩) ⟨x_blind, va_recv hK hP (ci := 4) (q0 := k0) rfl (hW.1 _), x_pre hK hP hD hN⟩ rfl rfl hl.1 rfl (lv_room (Nat.le_of_ble_eq_true rfl)) dX4_leastFree_2 ⟨Nat.zero_le _, Nat.zero_le _⟩) hS (fun H locs hP hD hS => ?_)
  have hP : va_P (dC, dI) vwCl (Wf u) H := hP
  have hD : va_D A (Wf u) := hD
  exact hret dX4_leastFree_5 (by rfl) hP hD hS

set_option maxHeartbeats 4000000 in
set_option maxRecDepth 100000 in
theorem c_Us_clear {l : Launch} {dC : Nat → ClassId} {dI : Nat → Nat → Nat} {A : Nat → Prop} {tys : List (ClassId × FieldType)} {Wn : Nat → (Nat → Nat) → va_W} {k0 k1 t1 a0 a1 : Nat} {cI : ClassId} (hW : okUn Wn k0 k1 a0 a1 cI) (ht : tys[t1]? = some (cI, .int)) (n0 : Nat) (u : Nat → Nat) (hu : ∀ j, u j < 8) (k : Nat) (hk1 : k ≤ 64) : Met l yX4_clear (Cond.code yX4_clear cX4_clear 2 none :: TB) { frames := 1, cells := 0, slots := 0, locals := 25 } (xPre Nst (dC, dI) A tys (Wn n0 u) [.ref a0, .int (nI k)]) (xQv (dC, dI) A (Wn k (uclr k u))) 0 0 A := by
  refine x_ofWv (cc := cX4_clear) (maxL := 2) (by decide) rfl (Nat.le_of_ble_eq_true rfl) ?_
  intro p e s m args below meth c Q hx hb hml hts hown hK hN hP hD hS hret ls hl
  have hl : lv_has ls 2 [(0, .ref a0), (1, .int (nI k))] := hl
  have hown : s.vm.findClass RX4 = some m.cls := hown
  have m19a := hts _ (List.mem_cons_of_mem _ tw_125)
  have mminb := hts _ (List.mem_cons_of_mem _ tw_126)
  have mMath := hts _ (List.mem_cons_of_mem _ tw_87)
  have mminc := hts _ (List.mem_cons_of_mem _ tw_127)
  have f25 := hts _ (List.mem_cons_of_mem _ tw_133)
  have in_X4 := (fun q hq => List.mem_cons_of_mem _ (inX4 q hq) : ∀ q ∈ wsX40, q ∈ (Cond.code yX4_clear cX4_clear 2 none :: TB))
  refine lv_aload_n hx hb dX4_clear_0 rfl (lv_at hl 0 rfl) ?_
  refine lv_iload_n hx hb dX4_clear_1 rfl (lv_at hl 1 rfl) ?_
  refine lv_bipush (v := nI 64) hx hb dX4_clear_2 (by decide) ?_
  refine x_mmin hx hb (by rw [hml]; exact hl.1.symm) hown m19a mminb mMath mminc (by decide) (Nat.le_of_ble_eq_true rfl) (by decide) (by decide) (by omega) (by omega) dX4_clear_4 ?_
  refine x_top (y := nI k) (by rw [Nat.min_eq_left hk1]) ?_
  refine va_put (D := (dC, dI)) (ci := 4) (v := .int (nI k)) (ty := .int) (C := RX4) (T := TX4) (N := 2) hx hb hts in_X4 tyX4 tyX4_ok nmX4 hown hK hP hD hS k0 (hW.1 _ _) rfl 1 (by decide) f25 (fun _ h9 => h9) rfl (by decide +kernel) rfl rfl (Nat.le_of_ble_eq_true rfl) dX4_clear_7 (fun H locs hP hD hS => ?_)
  have hP := x_wP (hW.2.2.1 _ _ k) hP
  have hD := x_wD (hW.2.2.1 _ _ k) hD
  have hP : va_P (dC, dI) vwCl (Wn k u) H := hP
  have hD : va_D A (Wn k u) := hD
  refine lv_aload_n hx hb dX4_clear_10 rfl (lv_at hl 0 rfl) ?_
  refine lv_iconst (v := nI 0) hx hb dX4_clear_11 (by decide) ?_
  refine lv_aload_n hx hb dX4_clear_12 rfl (lv_at hl 0 rfl) ?_
  refine va_get (D := (dC, dI)) (ci := 4) (v := .int (nI k)) (C := RX4) (T := TX4) (N := 2) hx hb hts in_X4 hown hK hP k0 (hW.1 _ _) rfl 1 (by decide) f25 (fun _ h9 => h9) rfl dX4_clear_13 ?_
  refine lv_iconst (v := nI 0) hx hb dX4_clear_16 (by decide) ?_
  refine x_callv (va_runV (As := [.int (nI 0), .int (nI k), .int (nI 0)]) (rest := []) ⟨hx, hb, hml, hown, hts⟩ (c_Us_mark (okUn_U hW k) ht (by omega) u hu 0 k 0 (by omega) (by omega)) (cwV 3 hts (tbV tw_128 tw_130 tw_1 tw_86 tw_131) rfl rfl rfl (by decide +kernel) ⟨Nat.le_of_ble_eq_true rfl, Nat.le_of_ble_eq_true rfl⟩) ⟨x_blind, va_recv hK hP (ci := 4) (q0 := k0) rfl (hW.1 _ _), x_pre hK hP hD hN⟩ rfl rfl hl.1 rfl (lv_room (Nat.le_of_ble_eq_true rfl)) dX4_clear_17 ⟨Nat.zero_le _, Nat.zero_le _⟩) hS (fun H locs hP hD hS => ?_)
  have hP : va_P (dC, dI) vwCl (Wn k (umk k 0 0 k u 0)) H := hP
  have hD : va_D A (Wn k (umk k 0 0 k u 0)) := hD
  refine lv_aload_n hx hb dX4_clear_20 rfl (lv_at hl 0 rfl) ?_
  refine lv_iconst (v := nI 0) hx hb dX4_clear_21 (by decide) ?_
  refine lv_iconst (v := nI 2) hx hb dX4_clear_22 (by decide) ?_
  refine lv_iconst (v := nI 3) hx hb dX4_clear_23 (by decide) ?_
  refine x_callv (va_runV (As := [.int (nI 0), .int (nI 2), .int (nI 3)]) (rest := []) ⟨hx, hb, hml, hown, hts⟩ (c_Us_mark (okUn_U hW k) ht (by omega) (umk k 0 0 k u 0) (umk_lt hu (by decide)) 0 2 3 (by omega) (by omega)) (cwV 3 hts (tbV tw_128 tw_130 tw_1 tw_86 tw_131) rfl rfl rfl (by decide +kernel) ⟨Nat.le_of_ble_eq_true rfl, Nat.le_of_ble_eq_true rfl⟩) ⟨x_blind, va_recv hK hP (ci := 4) (q0 := k0) rfl (hW.1 _ _), x_pre hK hP hD hN⟩ rfl rfl hl.1 rfl (lv_room (Nat.le_of_ble_eq_true rfl)) dX4_clear_24 ⟨Nat.zero_le _, Nat.zero_le _⟩) hS (fun H locs hP hD hS => ?_)
  have hP : va_P (dC, dI) vwCl (Wn k (umk k 0 3 2 (umk k 0 0 k u 0) 0)) H := hP
  have hD : va_D A (Wn k (umk k 0 3 2 (umk k 0 0 k u 0) 0)) := hD
  have e1 : (umk k 0 3 2 (umk k 0 0 k u 0) 0) = (uclr k u) := by rfl
  have h9 : Wn k (umk k 0 3 2 (umk k 0 0 k u 0) 0) = Wn k (uclr k u) := by rw [e1]
  have hP := x_wP h9 hP
  have hD := x_wD h9 hD
  exact hret dX4_clear_27 hP hD hS
