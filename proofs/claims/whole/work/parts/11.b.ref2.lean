set_option maxHeartbeats 4000000 in
set_option maxRecDepth 100000 in
theorem c_M_sort {l : Launch} {dC : Nat → ClassId} {dI : Nat → Nat → Nat} {A : Nat → Prop} {b : Nat → Nat} {cB cI cL : ClassId} {rb : Nat} {rd : Nat → Nat} {rq : Nat} {rQ rw : Nat → Nat} {ra : Nat} {ro : Bool} {rn : Nat} {rk rv : Nat → Int64} {rf : Nat} {fN fF fB fR : Nat → Nat} {rl : Nat} {lB lR : Nat → Nat} {rt rg rx rz : Nat} (hrn : rn ≤ 210) (f : Nat) (hf1 : f < 2 ^ 20) : Met l yX6_sort (Cond.code yX6_sort cX6_sort 8 none :: TB) { frames := 0, cells := 0, slots := 0, locals := 0 } (xPre (fun _ => True) (dC, dI) A (tyS cB cI cL) (wM b cB cI cL rb rd rq rQ rw ra ro rn rk rv rf fN fF fB fR rl lB lR rt rg rx rz) [.ref (b 0), .int (nI f)]) (xQv (dC, dI) A (wM b cB cI cL rb rd rq rQ rw ra ro rn ((srO f (rn - (f + 1)) (f + 1) (rk, rv)).1) ((srO f (rn - (f + 1)) (f + 1) (rk, rv)).2) rf fN fF fB fR rl lB lR rt rg rx rz)) 0 0 A := by
  refine x_ofWv (cc := cX6_sort) (maxL := 8) (by decide) rfl (Nat.le_of_ble_eq_true rfl) ?_
  intro p e s m args below meth c Q hx hb hml hts hown hK hN hP hD hS hret ls hl
  have hl : lv_has ls 8 [(0, .ref (b 0)), (1, .int (nI f))] := hl
  have hown : s.vm.findClass RX6 = some m.cls := hown
  have f71 := hts _ (List.mem_cons_of_mem _ tw_613)
  have in_X6 := (fun q hq => List.mem_cons_of_mem _ (inX6 q hq) : ∀ q ∈ wsX60, q ∈ (Cond.code yX6_sort cX6_sort 8 none :: TB))
  have f20 := hts _ (List.mem_cons_of_mem _ tw_614)
  have f24 := hts _ (List.mem_cons_of_mem _ tw_615)
  refine lv_iload_n hx hb dX6_sort_0 rfl (lv_at hl 1 rfl) ?_
  refine lv_iconst (v := nI 1) hx hb dX6_sort_1 (by decide) ?_
  refine x_iadd hx hb dX6_sort_2 ?_
  refine lv_istore_n (lv' := [(2, .int (nI (f + 1))), (0, .ref (b 0)), (1, .int (nI f))]) hx hb dX6_sort_3 rfl hl (by decide) rfl (fun ls hl => ?_)
  have L4 : ∀ (fu4 : Nat) (c2 : Nat) (Z' : (Nat → Int64) × (Nat → Int64)), (rn - c2 < fu4) → (f + 1 ≤ c2 ∧ c2 < 2 ^ 21) → (srO f (rn - c2) c2 Z' = srO f (rn - (f + 1)) (f + 1) (rk, rv)) → ∀ (H : Heap) (locs : List Loc), va_P (dC, dI) vwCl (wM b cB cI cL rb rd rq rQ rw ra ro rn Z'.1 Z'.2 rf fN fF fB fR rl lB lR rt rg rx rz) H → va_D A (wM b cB cI cL rb rd rq rQ rw ra ro rn Z'.1 Z'.2 rf fN fF fB fR rl lB lR rt rg rx rz) → va_S A s.heap H locs → ∀ (ls : Array Slot), lv_has ls 8 [(0, .ref (b 0)), (1, .int (nI f)), (2, .int (nI c2))] → W p l e { frames := 0, cells := 0, slots := 0, locals := 0 } s m args below meth c H locs 0 0 Q (F0 m 4 ls []) := by
    intro fu4
    induction fu4 with
    | zero => intro c2 Z' hm; exact absurd hm (Nat.not_lt_zero _)
    | succ fu4 ih4 =>
      intro c2 Z' hm i4_0 i4_1 H locs hP hD hS ls hl
      refine lv_iload_n hx hb dX6_sort_4 rfl (lv_at hl 2 rfl) ?_
      refine lv_aload_n hx hb dX6_sort_5 rfl (lv_at hl 0 rfl) ?_
      refine va_get (D := (dC, dI)) (ci := 6) (v := .int (nI rn)) (C := RX6) (T := TX6) (N := 22) hx hb hts in_X6 hown hK hP 0 rfl rfl 7 (by decide) f71 (fun _ h9 => h9) rfl dX6_sort_6 ?_
      refine x_icmp_ge (tgt := 111) hx hb dX6_sort_9 (by decide) (by omega) (by omega) (fun c9 => ?_) (fun c9 => ?_)
      · have e1 : Z'.1 = ((srO f (rn - (f + 1)) (f + 1) (rk, rv)).1) := by have h := i4_1; rw [show rn - c2 = 0 by omega, srO] at h; rw [h]
        have h9 : wM b cB cI cL rb rd rq rQ rw ra ro rn Z'.1 Z'.2 rf fN fF fB fR rl lB lR rt rg rx rz = wM b cB cI cL rb rd rq rQ rw ra ro rn ((srO f (rn - (f + 1)) (f + 1) (rk, rv)).1) Z'.2 rf fN fF fB fR rl lB lR rt rg rx rz := by rw [← e1]
        have hP := x_wP h9 hP
        have hD := x_wD h9 hD
        have e2 : Z'.2 = ((srO f (rn - (f + 1)) (f + 1) (rk, rv)).2) := by have h := i4_1; rw [show rn - c2 = 0 by omega, srO] at h; rw [h]
        have h9 : wM b cB cI cL rb rd rq rQ rw ra ro rn ((srO f (rn - (f + 1)) (f + 1) (rk, rv)).1) Z'.2 rf fN fF fB fR rl lB lR rt rg rx rz = wM b cB cI cL rb rd rq rQ rw ra ro rn ((srO f (rn - (f + 1)) (f + 1) (rk, rv)).1) ((srO f (rn - (f + 1)) (f + 1) (rk, rv)).2) rf fN fF fB fR rl lB lR rt rg rx rz := by rw [← e2]
        have hP := x_wP h9 hP
        have hD := x_wD h9 hD
        exact hret dX6_sort_111 hP hD hS
      · refine lv_aload_n hx hb dX6_sort_12 rfl (lv_at hl 0 rfl) ?_
        refine va_get (D := (dC, dI)) (ci := 6) (v := .ref (b 4)) (C := RX6) (T := TX6) (N := 22) hx hb hts in_X6 hown hK hP 0 rfl rfl 8 (by decide) f20 (fun _ h9 => h9) rfl dX6_sort_13 ?_
        refine lv_iload_n hx hb dX6_sort_16 rfl (lv_at hl 2 rfl) ?_
        refine x_lald hx hb hK hP 4 2 rfl rfl (by omega) (by decide) dX6_sort_17 ?_
        refine lv_lstore_n (lv' := [(3, .long (Z'.1 c2)), (0, .ref (b 0)), (1, .int (nI f)), (2, .int (nI c2))]) hx hb dX6_sort_18 rfl hl (by decide) rfl (fun ls hl => ?_)
        refine lv_aload_n hx hb dX6_sort_19 rfl (lv_at hl 1 rfl) ?_
        refine va_get (D := (dC, dI)) (ci := 6) (v := .ref (b 5)) (C := RX6) (T := TX6) (N := 22) hx hb hts in_X6 hown hK hP 0 rfl rfl 9 (by decide) f24 (fun _ h9 => h9) rfl dX6_sort_20 ?_
        refine lv_iload_n hx hb dX6_sort_23 rfl (lv_at hl 3 rfl) ?_
        refine x_lald hx hb hK hP 5 2 rfl rfl (by omega) (by decide) dX6_sort_24 ?_
        refine lv_lstore (lv' := [(5, .long (Z'.2 c2)), (3, .long (Z'.1 c2)), (0, .ref (b 0)), (1, .int (nI f)), (2, .int (nI c2))]) hx hb dX6_sort_25 hl (by decide) rfl (fun ls hl => ?_)
        refine lv_iload_n hx hb dX6_sort_27 rfl (lv_at hl 4 rfl) ?_
        refine lv_istore (lv' := [(7, .int (nI c2)), (5, .long (Z'.2 c2)), (3, .long (Z'.1 c2)), (0, .ref (b 0)), (1, .int (nI f)), (2, .int (nI c2))]) hx hb dX6_sort_28 hl (by decide) rfl (fun ls hl => ?_)
        have L30 : ∀ (fu30 : Nat) (i : Nat) (Y : (Nat → Int64) × (Nat → Int64)), (i < fu30) → (f ≤ i ∧ i ≤ c2) → (srI f (Z'.1 c2) (i - f) i Y = srI f (Z'.1 c2) (c2 - f) c2 Z') → ∀ (H : Heap) (locs : List Loc), va_P (dC, dI) vwCl (wM b cB cI cL rb rd rq rQ rw ra ro rn Y.1 Y.2 rf fN fF fB fR rl lB lR rt rg rx rz) H → va_D A (wM b cB cI cL rb rd rq rQ rw ra ro rn Y.1 Y.2 rf fN fF fB fR rl lB lR rt rg rx rz) → va_S A s.heap H locs → ∀ (ls : Array Slot), lv_has ls 8 [(0, .ref (b 0)), (1, .int (nI f)), (2, .int (nI c2)), (3, .long (Z'.1 c2)), (5, .long (Z'.2 c2)), (7, .int (nI i))] → W p l e { frames := 0, cells := 0, slots := 0, locals := 0 } s m args below meth c H locs 0 0 Q (F0 m 30 ls []) := by
          intro fu30
          induction fu30 with
          | zero => intro i Y hm; exact absurd hm (Nat.not_lt_zero _)
          | succ fu30 ih30 =>
            intro i Y hm i30_0 i30_1 H locs hP hD hS ls hl
            refine lv_iload hx hb dX6_sort_30 (lv_at hl 5 rfl) ?_
            refine lv_iload_n hx hb dX6_sort_32 rfl (lv_at hl 1 rfl) ?_
            refine x_icmp_le (tgt := 88) hx hb dX6_sort_33 (by decide) (by omega) (by omega) (fun c33 => ?_) (fun c33 => ?_)
            · have zr : srI f (Z'.1 c2) (c2 - f) c2 Z' = (i, Y) := by
                have h := i30_1
                first
                | (rw [show i - f = 0 by omega, srI] at h; exact h.symm)
                | (rw [show i - f = (i - 1 - f) + 1 by omega, srI, if_pos c47] at h; exact h.symm)
              refine lv_aload_n hx hb dX6_sort_88 rfl (lv_at hl 0 rfl) ?_
              refine va_get (D := (dC, dI)) (ci := 6) (v := .ref (b 4)) (C := RX6) (T := TX6) (N := 22) hx hb hts in_X6 hown hK hP 0 rfl rfl 8 (by decide) f20 (fun _ h9 => h9) rfl dX6_sort_89 ?_
              refine lv_iload hx hb dX6_sort_92 (lv_at hl 5 rfl) ?_
              refine lv_lload_n hx hb dX6_sort_94 rfl (lv_at hl 3 rfl) ?_
              refine x_last hx hb hK hP hD hS 4 2 rfl rfl (by omega) (by decide) dX6_sort_95 (fun H locs hP hD hS => ?_)
              have hP : va_P (dC, dI) vwCl (wM b cB cI cL rb rd rq rQ rw ra ro rn (va_up Y.1 i (Z'.1 c2)) Y.2 rf fN fF fB fR rl lB lR rt rg rx rz) H := hP
              have hD : va_D A (wM b cB cI cL rb rd rq rQ rw ra ro rn (va_up Y.1 i (Z'.1 c2)) Y.2 rf fN fF fB fR rl lB lR rt rg rx rz) := hD
              refine lv_aload_n hx hb dX6_sort_96 rfl (lv_at hl 0 rfl) ?_
              refine va_get (D := (dC, dI)) (ci := 6) (v := .ref (b 5)) (C := RX6) (T := TX6) (N := 22) hx hb hts in_X6 hown hK hP 0 rfl rfl 9 (by decide) f24 (fun _ h9 => h9) rfl dX6_sort_97 ?_
              refine lv_iload hx hb dX6_sort_100 (lv_at hl 5 rfl) ?_
              refine lv_lload hx hb dX6_sort_102 (lv_at hl 4 rfl) ?_
              refine x_last hx hb hK hP hD hS 5 2 rfl rfl (by omega) (by decide) dX6_sort_104 (fun H locs hP hD hS => ?_)
              have hP : va_P (dC, dI) vwCl (wM b cB cI cL rb rd rq rQ rw ra ro rn (va_up Y.1 i (Z'.1 c2)) (va_up Y.2 i (Z'.2 c2)) rf fN fF fB fR rl lB lR rt rg rx rz) H := hP
              have hD : va_D A (wM b cB cI cL rb rd rq rQ rw ra ro rn (va_up Y.1 i (Z'.1 c2)) (va_up Y.2 i (Z'.2 c2)) rf fN fF fB fR rl lB lR rt rg rx rz) := hD
              refine lv_iinc (v := nI (c2 + 1)) (lv' := [(2, .int (nI (c2 + 1))), (0, .ref (b 0)), (1, .int (nI f)), (3, .long (Z'.1 c2)), (5, .long (Z'.2 c2)), (7, .int (nI i))]) hx hb dX6_sort_105 hl (k := 2) rfl (x_inc _) (by decide) rfl (fun ls hl => ?_)
              refine lv_goto (tgt := 4) hx hb dX6_sort_108 (by decide) ?_
              have e3 : (va_up Y.1 i (Z'.1 c2)) = ((srS f c2 Z').1) := by rw [srS, zr]
              have e4 : (va_up Y.2 i (Z'.2 c2)) = ((srS f c2 Z').2) := by rw [srS, zr]
              exact ih4 (c2 + 1) (srS f c2 Z') (by omega) (by omega) (by have h := i4_1; rw [show rn - c2 = (rn - (c2 + 1)) + 1 by omega, srO] at h; exact h) _ _ (x_wP (by rw [e3, e4]) hP) (x_wD (by rw [e3, e4]) hD) hS ls (lv_sub hl [1, 2, 0] rfl)
            · refine lv_aload_n hx hb dX6_sort_36 rfl (lv_at hl 0 rfl) ?_
              refine va_get (D := (dC, dI)) (ci := 6) (v := .ref (b 4)) (C := RX6) (T := TX6) (N := 22) hx hb hts in_X6 hown hK hP 0 rfl rfl 8 (by decide) f20 (fun _ h9 => h9) rfl dX6_sort_37 ?_
              refine lv_iload hx hb dX6_sort_40 (lv_at hl 5 rfl) ?_
              refine lv_iconst (v := nI 1) hx hb dX6_sort_42 (by decide) ?_
              refine x_isub hx hb dX6_sort_43 (by omega) ?_
              refine x_lald hx hb hK hP 4 2 rfl rfl (by omega) (by decide) dX6_sort_44 ?_
              refine lv_lload_n hx hb dX6_sort_45 rfl (lv_at hl 3 rfl) ?_
              refine W.lcmp hx hb dX6_sort_46 ?_
              refine x_lif_le (tgt := 88) hx hb dX6_sort_47 (by decide) (fun c47 => ?_) (fun c47 => ?_)
              · have zr : srI f (Z'.1 c2) (c2 - f) c2 Z' = (i, Y) := by
                  have h := i30_1
                  first
                  | (rw [show i - f = 0 by omega, srI] at h; exact h.symm)
                  | (rw [show i - f = (i - 1 - f) + 1 by omega, srI, if_pos c47] at h; exact h.symm)
                refine lv_aload_n hx hb dX6_sort_88 rfl (lv_at hl 0 rfl) ?_
                refine va_get (D := (dC, dI)) (ci := 6) (v := .ref (b 4)) (C := RX6) (T := TX6) (N := 22) hx hb hts in_X6 hown hK hP 0 rfl rfl 8 (by decide) f20 (fun _ h9 => h9) rfl dX6_sort_89 ?_
                refine lv_iload hx hb dX6_sort_92 (lv_at hl 5 rfl) ?_
                refine lv_lload_n hx hb dX6_sort_94 rfl (lv_at hl 3 rfl) ?_
                refine x_last hx hb hK hP hD hS 4 2 rfl rfl (by omega) (by decide) dX6_sort_95 (fun H locs hP hD hS => ?_)
                have hP : va_P (dC, dI) vwCl (wM b cB cI cL rb rd rq rQ rw ra ro rn (va_up Y.1 i (Z'.1 c2)) Y.2 rf fN fF fB fR rl lB lR rt rg rx rz) H := hP
                have hD : va_D A (wM b cB cI cL rb rd rq rQ rw ra ro rn (va_up Y.1 i (Z'.1 c2)) Y.2 rf fN fF fB fR rl lB lR rt rg rx rz) := hD
                refine lv_aload_n hx hb dX6_sort_96 rfl (lv_at hl 0 rfl) ?_
                refine va_get (D := (dC, dI)) (ci := 6) (v := .ref (b 5)) (C := RX6) (T := TX6) (N := 22) hx hb hts in_X6 hown hK hP 0 rfl rfl 9 (by decide) f24 (fun _ h9 => h9) rfl dX6_sort_97 ?_
                refine lv_iload hx hb dX6_sort_100 (lv_at hl 5 rfl) ?_
                refine lv_lload hx hb dX6_sort_102 (lv_at hl 4 rfl) ?_
                refine x_last hx hb hK hP hD hS 5 2 rfl rfl (by omega) (by decide) dX6_sort_104 (fun H locs hP hD hS => ?_)
                have hP : va_P (dC, dI) vwCl (wM b cB cI cL rb rd rq rQ rw ra ro rn (va_up Y.1 i (Z'.1 c2)) (va_up Y.2 i (Z'.2 c2)) rf fN fF fB fR rl lB lR rt rg rx rz) H := hP
                have hD : va_D A (wM b cB cI cL rb rd rq rQ rw ra ro rn (va_up Y.1 i (Z'.1 c2)) (va_up Y.2 i (Z'.2 c2)) rf fN fF fB fR rl lB lR rt rg rx rz) := hD
                refine lv_iinc (v := nI (c2 + 1)) (lv' := [(2, .int (nI (c2 + 1))), (0, .ref (b 0)), (1, .int (nI f)), (3, .long (Z'.1 c2)), (5, .long (Z'.2 c2)), (7, .int (nI i))]) hx hb dX6_sort_105 hl (k := 2) rfl (x_inc _) (by decide) rfl (fun ls hl => ?_)
                refine lv_goto (tgt := 4) hx hb dX6_sort_108 (by decide) ?_
                have e5 : (va_up Y.1 i (Z'.1 c2)) = ((srS f c2 Z').1) := by rw [srS, zr]
                have e6 : (va_up Y.2 i (Z'.2 c2)) = ((srS f c2 Z').2) := by rw [srS, zr]
                exact ih4 (c2 + 1) (srS f c2 Z') (by omega) (by omega) (by have h := i4_1; rw [show rn - c2 = (rn - (c2 + 1)) + 1 by omega, srO] at h; exact h) _ _ (x_wP (by rw [e5, e6]) hP) (x_wD (by rw [e5, e6]) hD) hS ls (lv_sub hl [1, 2, 0] rfl)
              · refine lv_aload_n hx hb dX6_sort_50 rfl (lv_at hl 0 rfl) ?_
                refine va_get (D := (dC, dI)) (ci := 6) (v := .ref (b 4)) (C := RX6) (T := TX6) (N := 22) hx hb hts in_X6 hown hK hP 0 rfl rfl 8 (by decide) f20 (fun _ h9 => h9) rfl dX6_sort_51 ?_
                refine lv_iload hx hb dX6_sort_54 (lv_at hl 5 rfl) ?_
                refine lv_aload_n hx hb dX6_sort_56 rfl (lv_at hl 0 rfl) ?_
                refine va_get (D := (dC, dI)) (ci := 6) (v := .ref (b 4)) (C := RX6) (T := TX6) (N := 22) hx hb hts in_X6 hown hK hP 0 rfl rfl 8 (by decide) f20 (fun _ h9 => h9) rfl dX6_sort_57 ?_
                refine lv_iload hx hb dX6_sort_60 (lv_at hl 5 rfl) ?_
                refine lv_iconst (v := nI 1) hx hb dX6_sort_62 (by decide) ?_
                refine x_isub hx hb dX6_sort_63 (by omega) ?_
                refine x_lald hx hb hK hP 4 2 rfl rfl (by omega) (by decide) dX6_sort_64 ?_
                refine x_last hx hb hK hP hD hS 4 2 rfl rfl (by omega) (by decide) dX6_sort_65 (fun H locs hP hD hS => ?_)
                have hP : va_P (dC, dI) vwCl (wM b cB cI cL rb rd rq rQ rw ra ro rn (va_up Y.1 i (Y.1 (i - 1))) Y.2 rf fN fF fB fR rl lB lR rt rg rx rz) H := hP
                have hD : va_D A (wM b cB cI cL rb rd rq rQ rw ra ro rn (va_up Y.1 i (Y.1 (i - 1))) Y.2 rf fN fF fB fR rl lB lR rt rg rx rz) := hD
                refine lv_aload_n hx hb dX6_sort_66 rfl (lv_at hl 0 rfl) ?_
                refine va_get (D := (dC, dI)) (ci := 6) (v := .ref (b 5)) (C := RX6) (T := TX6) (N := 22) hx hb hts in_X6 hown hK hP 0 rfl rfl 9 (by decide) f24 (fun _ h9 => h9) rfl dX6_sort_67 ?_
                refine lv_iload hx hb dX6_sort_70 (lv_at hl 5 rfl) ?_
                refine lv_aload_n hx hb dX6_sort_72 rfl (lv_at hl 0 rfl) ?_
                refine va_get (D := (dC, dI)) (ci := 6) (v := .ref (b 5)) (C := RX6) (T := TX6) (N := 22) hx hb hts in_X6 hown hK hP 0 rfl rfl 9 (by decide) f24 (fun _ h9 => h9) rfl dX6_sort_73 ?_
                refine lv_iload hx hb dX6_sort_76 (lv_at hl 5 rfl) ?_
                refine lv_iconst (v := nI 1) hx hb dX6_sort_78 (by decide) ?_
                refine x_isub hx hb dX6_sort_79 (by omega) ?_
                refine x_lald hx hb hK hP 5 2 rfl rfl (by omega) (by decide) dX6_sort_80 ?_
                refine x_last hx hb hK hP hD hS 5 2 rfl rfl (by omega) (by decide) dX6_sort_81 (fun H locs hP hD hS => ?_)
                have hP : va_P (dC, dI) vwCl (wM b cB cI cL rb rd rq rQ rw ra ro rn (va_up Y.1 i (Y.1 (i - 1))) (va_up Y.2 i (Y.2 (i - 1))) rf fN fF fB fR rl lB lR rt rg rx rz) H := hP
                have hD : va_D A (wM b cB cI cL rb rd rq rQ rw ra ro rn (va_up Y.1 i (Y.1 (i - 1))) (va_up Y.2 i (Y.2 (i - 1))) rf fN fF fB fR rl lB lR rt rg rx rz) := hD
                refine lv_iinc (v := nI (i - 1)) (lv' := [(7, .int (nI (i - 1))), (0, .ref (b 0)), (1, .int (nI f)), (2, .int (nI c2)), (3, .long (Z'.1 c2)), (5, .long (Z'.2 c2))]) hx hb dX6_sort_82 hl (k := 5) rfl (x_decr (by omega)) (by decide) rfl (fun ls hl => ?_)
                refine lv_goto (tgt := 30) hx hb dX6_sort_85 (by decide) ?_
                have e7 : (va_up Y.1 i (Y.1 (i - 1))) = ((va_up Y.1 i (Y.1 (i - 1)), va_up Y.2 i (Y.2 (i - 1))).1) := by rfl
                have e8 : (va_up Y.2 i (Y.2 (i - 1))) = ((va_up Y.1 i (Y.1 (i - 1)), va_up Y.2 i (Y.2 (i - 1))).2) := by rfl
                exact ih30 (i - 1) (va_up Y.1 i (Y.1 (i - 1)), va_up Y.2 i (Y.2 (i - 1))) (by omega) (by omega) (by have h := i30_1; rw [show i - f = (i - 1 - f) + 1 by omega, srI, if_neg c47] at h; exact h) _ _ (x_wP (by rw [← e7, ← e8]) hP) (x_wD (by rw [← e7, ← e8]) hD) hS ls (lv_sub hl [1, 2, 3, 4, 5, 0] rfl)
        exact L30 (c2 + 1) c2 Z' (by omega) (by omega) (by rfl) _ _ hP hD hS ls (lv_sub hl [3, 4, 5, 2, 1, 0] rfl)
  have e9 : rk = ((rk, rv).1) := by rfl
  have e10 : rv = ((rk, rv).2) := by rfl
  exact L4 (rn - (f + 1) + 1) (f + 1) (rk, rv) (by omega) (by omega) (by rfl) _ _ (x_wP (by rw [← e9, ← e10]) hP) (x_wD (by rw [← e9, ← e10]) hD) hS ls (lv_sub hl [1, 2, 0] rfl)

set_option maxHeartbeats 4000000 in
set_option maxRecDepth 100000 in
theorem c_M_writesLogS {l : Launch} {dC : Nat → ClassId} {dI : Nat → Nat → Nat} {A : Nat → Prop} {b : Nat → Nat} {cB cI cL : ClassId} {rb : Nat} {rd : Nat → Nat} {rq : Nat} {rQ rw : Nat → Nat} {ra : Nat} {ro : Bool} {rn : Nat} {rk rv : Nat → Int64} {rf : Nat} {fN fF fB fR : Nat → Nat} {rl : Nat} {lB lR : Nat → Nat} {rt rg rx rz : Nat} (hrb : rb ≤ 64) (hrw : ∀ j, rw j < 256) (hrQ : ∀ j, rQ j < 64) (hrq : rq ≤ 128) (hrn : rn ≤ 210) (hrf : rf ≤ 5) (hfF : ∀ j, fF j < 1048576) (hfB : ∀ j, fB j < 1048576) (hrl : rl ≤ 62) (hlB : ∀ j, lB j < 1048576) (hrt : rt ≤ rn ∧ rt ≤ 3) (hrx : rx < 2 ^ 30 ∧ rt ≤ rx) (y : Nat) (hfr : frM (usM rf fF fB rl lB) 1 (rb - 2) 2 0 = some y) (hq1 : rq < 130) (hl1 : rl < 64) : Met l yX6_writesLog (Cond.code yX6_writesLog cX6_writesLog 3 (some .boolean) :: TB) { frames := 3, cells := 0, slots := 0, locals := 67 } (xPre (fun _ => True) (dC, dI) A (tyS cB cI cL) (wM b cB cI cL rb rd rq rQ rw ra ro rn rk rv rf fN fF fB fR rl lB lR rt rg rx rz) [.ref (b 0)]) (xQi (dC, dI) A (bI true) (wM b cB cI cL rb rd (rq + 1) (va_up rQ rq y) (wlG rq rt (rx - rt) (rn - rt) rk rv y rw) (64 * rq) ro rn rk rv rf fN fF fB fR (rl + 1) (va_up lB rl y) (va_up lR rl rt) 0 rg rx rz)) 0 0 A := by
  refine x_ofWz (cc := cX6_writesLog) (maxL := 3) (by decide) rfl (Nat.le_of_ble_eq_true rfl) (x_narZ _) ?_
  intro p e s m args below meth c Q hx hb hml hts hown hK hN hP hD hS hret ls hl
  have hl : lv_has ls 3 [(0, .ref (b 0))] := hl
  have hown : s.vm.findClass RX6 = some m.cls := hown
  have hyb := frM_lt (by decide) hfr
  have f80 := hts _ (List.mem_cons_of_mem _ tw_624)
  have in_X6 := (fun q hq => List.mem_cons_of_mem _ (inX6 q hq) : ∀ q ∈ wsX60, q ∈ (Cond.code yX6_writesLog cX6_writesLog 3 (some .boolean) :: TB))
  have f87 := hts _ (List.mem_cons_of_mem _ tw_626)
  have f39 := hts _ (List.mem_cons_of_mem _ tw_622)
  have f77 := hts _ (List.mem_cons_of_mem _ tw_621)
  have f42 := hts _ (List.mem_cons_of_mem _ tw_623)
  have f20 := hts _ (List.mem_cons_of_mem _ tw_614)
  have f71 := hts _ (List.mem_cons_of_mem _ tw_613)
  have f24 := hts _ (List.mem_cons_of_mem _ tw_615)
  refine lv_aload_n hx hb dX6_writesLog_0 rfl (lv_at hl 0 rfl) ?_
  refine lv_iconst (v := nI 1) hx hb dX6_writesLog_1 (by decide) ?_
  refine x_calli (va_runV (As := [.int (nI 1)]) (rest := []) ⟨hx, hb, hml, hown, hts⟩ (c_M_free (by omega) (by omega) hfF hfB (by omega) hlB 1 (by omega) (by omega)) (cwV 1 hts (tbV tw_678 tw_680 tw_61 tw_91 tw_681) rfl rfl rfl (by decide +kernel) ⟨Nat.le_of_ble_eq_true rfl, Nat.le_of_ble_eq_true rfl⟩) ⟨y_blind, va_recv hK hP (ci := 6) (q0 := 0) rfl rfl, y_pre hK hP hD⟩ rfl rfl hl.1 rfl (lv_room (Nat.le_of_ble_eq_true rfl)) dX6_writesLog_2 ⟨Nat.zero_le _, Nat.zero_le _⟩) hS (fun H locs hP hD hS => ?_)
  have hP : va_P (dC, dI) vwCl (wM b cB cI cL rb rd rq rQ rw ra ro rn rk rv rf fN fF fB fR rl lB lR rt rg rx rz) H := hP
  have hD : va_D A (wM b cB cI cL rb rd rq rQ rw ra ro rn rk rv rf fN fF fB fR rl lB lR rt rg rx rz) := hD
  refine lv_istore_n (lv' := [(1, .int (oJ (frM (usM rf fF fB rl lB) 1 (rb - 2) 2 0))), (0, .ref (b 0))]) hx hb dX6_writesLog_5 rfl hl (by decide) rfl (fun ls hl => ?_)
  rw [hfr] at hl
  have hl : lv_has ls 3 [(1, .int (nI y)), (0, .ref (b 0))] := hl
  refine lv_iload_n hx hb dX6_writesLog_6 rfl (lv_at hl 0 rfl) ?_
  refine x_if_ge (tgt := 12) hx hb dX6_writesLog_7 (by decide) (by omega) ?_
  refine lv_aload_n hx hb dX6_writesLog_12 rfl (lv_at hl 1 rfl) ?_
  refine lv_iload_n hx hb dX6_writesLog_13 rfl (lv_at hl 0 rfl) ?_
  refine x_callv (va_runV (As := [.int (nI y)]) (rest := []) ⟨hx, hb, hml, hown, hts⟩ (c_M_begin hrw y (by omega)) (cwV 1 hts (tbV tw_694 tw_696 tw_65 tw_91 tw_697) rfl rfl rfl (by decide +kernel) ⟨Nat.le_of_ble_eq_true rfl, Nat.le_of_ble_eq_true rfl⟩) ⟨y_blind, va_recv hK hP (ci := 6) (q0 := 0) rfl rfl, y_pre hK hP hD⟩ rfl rfl hl.1 rfl (lv_room (Nat.le_of_ble_eq_true rfl)) dX6_writesLog_14 ⟨Nat.zero_le _, Nat.zero_le _⟩) hS (fun H locs hP hD hS => ?_)
  have hP : va_P (dC, dI) vwCl (wM b cB cI cL rb rd (rq + 1) (va_up rQ rq y) (wz 64 rw (64 * rq)) (64 * rq) ro rn rk rv rf fN fF fB fR rl lB lR rt rg rx rz) H := hP
  have hD : va_D A (wM b cB cI cL rb rd (rq + 1) (va_up rQ rq y) (wz 64 rw (64 * rq)) (64 * rq) ro rn rk rv rf fN fF fB fR rl lB lR rt rg rx rz) := hD
  refine lv_aload_n hx hb dX6_writesLog_17 rfl (lv_at hl 1 rfl) ?_
  refine lv_iconst (v := nI 0) hx hb dX6_writesLog_18 (by decide) ?_
  refine lv_lconst (v := lN 1) hx hb dX6_writesLog_19 rfl ?_
  refine lv_iconst (v := nI 1) hx hb dX6_writesLog_20 (by decide) ?_
  refine x_callv (va_runV (As := [.int (nI 0), .long (lN 1), .int (nI 1)]) (rest := []) ⟨hx, hb, hml, hown, hts⟩ (c_M_putN (wz_lt hrw) 0 1 1 (by omega) (by omega) (by omega)) (cwV 3 hts (tbV tw_698 tw_700 tw_66 tw_91 tw_701) rfl rfl rfl (by decide +kernel) ⟨Nat.le_of_ble_eq_true rfl, Nat.le_of_ble_eq_true rfl⟩) ⟨y_blind, va_recv hK hP (ci := 6) (q0 := 0) rfl rfl, y_pre hK hP hD⟩ rfl rfl hl.1 rfl (lv_room (Nat.le_of_ble_eq_true rfl)) dX6_writesLog_21 ⟨Nat.zero_le _, Nat.zero_le _⟩) hS (fun H locs hP hD hS => ?_)
  have hP : va_P (dC, dI) vwCl (wM b cB cI cL rb rd (rq + 1) (va_up rQ rq y) (pn1 1 (wz 64 rw (64 * rq)) (64 * rq + 0) 1) (64 * rq) ro rn rk rv rf fN fF fB fR rl lB lR rt rg rx rz) H := hP
  have hD : va_D A (wM b cB cI cL rb rd (rq + 1) (va_up rQ rq y) (pn1 1 (wz 64 rw (64 * rq)) (64 * rq + 0) 1) (64 * rq) ro rn rk rv rf fN fF fB fR rl lB lR rt rg rx rz) := hD
  refine lv_aload_n hx hb dX6_writesLog_24 rfl (lv_at hl 1 rfl) ?_
  refine lv_iconst (v := nI 1) hx hb dX6_writesLog_25 (by decide) ?_
  refine lv_aload_n hx hb dX6_writesLog_26 rfl (lv_at hl 1 rfl) ?_
  refine va_get (D := (dC, dI)) (ci := 6) (v := .int (nI rt)) (C := RX6) (T := TX6) (N := 22) hx hb hts in_X6 hown hK hP 0 rfl rfl 18 (by decide) f80 (fun _ h9 => h9) rfl dX6_writesLog_27 ?_
  refine lv_i2l (v := lN rt) hx hb dX6_writesLog_30 (nI_l (by omega)) ?_
  refine lv_iconst (v := nI 1) hx hb dX6_writesLog_31 (by decide) ?_
  refine x_callv (va_runV (As := [.int (nI 1), .long (lN rt), .int (nI 1)]) (rest := []) ⟨hx, hb, hml, hown, hts⟩ (c_M_putN (pn1_lt (wz_lt hrw)) 1 rt 1 (by omega) (by omega) (by omega)) (cwV 3 hts (tbV tw_698 tw_700 tw_66 tw_91 tw_701) rfl rfl rfl (by decide +kernel) ⟨Nat.le_of_ble_eq_true rfl, Nat.le_of_ble_eq_true rfl⟩) ⟨y_blind, va_recv hK hP (ci := 6) (q0 := 0) rfl rfl, y_pre hK hP hD⟩ rfl rfl hl.1 rfl (lv_room (Nat.le_of_ble_eq_true rfl)) dX6_writesLog_32 ⟨Nat.zero_le _, Nat.zero_le _⟩) hS (fun H locs hP hD hS => ?_)
  have hP : va_P (dC, dI) vwCl (wM b cB cI cL rb rd (rq + 1) (va_up rQ rq y) (pn1 1 (pn1 1 (wz 64 rw (64 * rq)) (64 * rq + 0) 1) (64 * rq + 1) rt) (64 * rq) ro rn rk rv rf fN fF fB fR rl lB lR rt rg rx rz) H := hP
  have hD : va_D A (wM b cB cI cL rb rd (rq + 1) (va_up rQ rq y) (pn1 1 (pn1 1 (wz 64 rw (64 * rq)) (64 * rq + 0) 1) (64 * rq + 1) rt) (64 * rq) ro rn rk rv rf fN fF fB fR rl lB lR rt rg rx rz) := hD
  refine lv_aload_n hx hb dX6_writesLog_35 rfl (lv_at hl 1 rfl) ?_
  refine lv_iconst (v := nI 2) hx hb dX6_writesLog_36 (by decide) ?_
  refine lv_aload_n hx hb dX6_writesLog_37 rfl (lv_at hl 1 rfl) ?_
  refine va_get (D := (dC, dI)) (ci := 6) (v := .long (lN rx)) (C := RX6) (T := TX6) (N := 22) hx hb hts in_X6 hown hK hP 0 rfl rfl 20 (by decide) f87 (fun _ h9 => h9) rfl dX6_writesLog_38 ?_
  refine lv_aload_n hx hb dX6_writesLog_41 rfl (lv_at hl 1 rfl) ?_
  refine va_get (D := (dC, dI)) (ci := 6) (v := .int (nI rt)) (C := RX6) (T := TX6) (N := 22) hx hb hts in_X6 hown hK hP 0 rfl rfl 18 (by decide) f80 (fun _ h9 => h9) rfl dX6_writesLog_42 ?_
  refine lv_i2l (v := lN rt) hx hb dX6_writesLog_45 (nI_l (by omega)) ?_
  refine lv_lsub hx hb dX6_writesLog_46 ?_
  refine x_topl (y := lN (rx - rt)) (lN_sub (by omega)) ?_
  refine lv_bipush (v := nI 6) hx hb dX6_writesLog_47 (by decide) ?_
  refine x_callv (va_runV (As := [.int (nI 2), .long (lN (rx - rt)), .int (nI 6)]) (rest := []) ⟨hx, hb, hml, hown, hts⟩ (c_M_putN (pn1_lt (pn1_lt (wz_lt hrw))) 2 (rx - rt) 6 (by omega) (by omega) (by omega)) (cwV 3 hts (tbV tw_698 tw_700 tw_66 tw_91 tw_701) rfl rfl rfl (by decide +kernel) ⟨Nat.le_of_ble_eq_true rfl, Nat.le_of_ble_eq_true rfl⟩) ⟨y_blind, va_recv hK hP (ci := 6) (q0 := 0) rfl rfl, y_pre hK hP hD⟩ rfl rfl hl.1 rfl (lv_room (Nat.le_of_ble_eq_true rfl)) dX6_writesLog_49 ⟨Nat.zero_le _, Nat.zero_le _⟩) hS (fun H locs hP hD hS => ?_)
  have hP : va_P (dC, dI) vwCl (wM b cB cI cL rb rd (rq + 1) (va_up rQ rq y) (pn1 6 (pn1 1 (pn1 1 (wz 64 rw (64 * rq)) (64 * rq + 0) 1) (64 * rq + 1) rt) (64 * rq + 2) (rx - rt)) (64 * rq) ro rn rk rv rf fN fF fB fR rl lB lR rt rg rx rz) H := hP
  have hD : va_D A (wM b cB cI cL rb rd (rq + 1) (va_up rQ rq y) (pn1 6 (pn1 1 (pn1 1 (wz 64 rw (64 * rq)) (64 * rq + 0) 1) (64 * rq + 1) rt) (64 * rq + 2) (rx - rt)) (64 * rq) ro rn rk rv rf fN fF fB fR rl lB lR rt rg rx rz) := hD
  refine lv_iconst (v := nI 0) hx hb dX6_writesLog_52 (by decide) ?_
  refine lv_istore_n (lv' := [(2, .int (nI 0)), (1, .int (nI y)), (0, .ref (b 0))]) hx hb dX6_writesLog_53 rfl hl (by decide) rfl (fun ls hl => ?_)
  have L54 : ∀ (fu54 : Nat) (i : Nat) (g' : Nat → Nat), (rt - i < fu54) → (i ≤ rt) → (∀ q, g' q < 256) → (wlL (64 * rq) (rn - rt) rk rv (rt - i) i g' = wlL (64 * rq) (rn - rt) rk rv rt 0 (pn1 6 (pn1 1 (pn1 1 (wz 64 rw (64 * rq)) ((64 * rq) + 0) 1) ((64 * rq) + 1) rt) ((64 * rq) + 2) (rx - rt))) → ∀ (H : Heap) (locs : List Loc), va_P (dC, dI) vwCl (wM b cB cI cL rb rd (rq + 1) (va_up rQ rq y) g' (64 * rq) ro rn rk rv rf fN fF fB fR rl lB lR rt rg rx rz) H → va_D A (wM b cB cI cL rb rd (rq + 1) (va_up rQ rq y) g' (64 * rq) ro rn rk rv rf fN fF fB fR rl lB lR rt rg rx rz) → va_S A s.heap H locs → ∀ (ls : Array Slot), lv_has ls 3 [(0, .ref (b 0)), (1, .int (nI y)), (2, .int (nI i))] → W p l e { frames := 3, cells := 0, slots := 0, locals := 67 } s m args below meth c H locs 0 0 Q (F0 m 54 ls []) := by
    intro fu54
    induction fu54 with
    | zero => intro i g' hm; exact absurd hm (Nat.not_lt_zero _)
    | succ fu54 ih54 =>
      intro i g' hm i54_0 i54_1 i54_2 H locs hP hD hS ls hl
      refine lv_iload_n hx hb dX6_writesLog_54 rfl (lv_at hl 2 rfl) ?_
      refine lv_aload_n hx hb dX6_writesLog_55 rfl (lv_at hl 0 rfl) ?_
      refine va_get (D := (dC, dI)) (ci := 6) (v := .int (nI rt)) (C := RX6) (T := TX6) (N := 22) hx hb hts in_X6 hown hK hP 0 rfl rfl 18 (by decide) f80 (fun _ h9 => h9) rfl dX6_writesLog_56 ?_
      refine x_icmp_ge (tgt := 126) hx hb dX6_writesLog_59 (by decide) (by omega) (by omega) (fun c59 => ?_) (fun c59 => ?_)
      · refine lv_aload_n hx hb dX6_writesLog_126 rfl (lv_at hl 0 rfl) ?_
        refine x_callv (va_runV (As := []) (rest := []) ⟨hx, hb, hml, hown, hts⟩ (c_M_end i54_1 (va_up_lt hrQ (by omega)) (by omega) (by omega) (by omega)) (cwV 0 hts (tbV tw_702 tw_704 tw_67 tw_91 tw_705) rfl rfl rfl (by decide +kernel) ⟨Nat.le_of_ble_eq_true rfl, Nat.le_of_ble_eq_true rfl⟩) ⟨y_blind, va_recv hK hP (ci := 6) (q0 := 0) rfl rfl, y_pre hK hP hD⟩ rfl rfl hl.1 rfl (lv_room (Nat.le_of_ble_eq_true rfl)) dX6_writesLog_127 ⟨Nat.zero_le _, Nat.zero_le _⟩) hS (fun H locs hP hD hS => ?_)
        have hP : va_P (dC, dI) vwCl (wM b cB cI cL rb rd (rq + 1) (va_up rQ rq y) (en1 g' (64 * rq) ((va_up rQ rq y) ((rq + 1) - 1))) (64 * rq) ro rn rk rv rf fN fF fB fR rl lB lR rt rg rx rz) H := hP
        have hD : va_D A (wM b cB cI cL rb rd (rq + 1) (va_up rQ rq y) (en1 g' (64 * rq) ((va_up rQ rq y) ((rq + 1) - 1))) (64 * rq) ro rn rk rv rf fN fF fB fR rl lB lR rt rg rx rz) := hD
        refine lv_aload_n hx hb dX6_writesLog_130 rfl (lv_at hl 0 rfl) ?_
        refine va_get (D := (dC, dI)) (ci := 6) (v := .ref (b 10)) (C := RX6) (T := TX6) (N := 22) hx hb hts in_X6 hown hK hP 0 rfl rfl 16 (by decide) f39 (fun _ h9 => h9) rfl dX6_writesLog_131 ?_
        refine lv_aload_n hx hb dX6_writesLog_134 rfl (lv_at hl 0 rfl) ?_
        refine va_get (D := (dC, dI)) (ci := 6) (v := .int (nI rl)) (C := RX6) (T := TX6) (N := 22) hx hb hts in_X6 hown hK hP 0 rfl rfl 15 (by decide) f77 (fun _ h9 => h9) rfl dX6_writesLog_135 ?_
        refine lv_iload_n hx hb dX6_writesLog_138 rfl (lv_at hl 1 rfl) ?_
        refine x_iast hx hb hK hP hD hS 10 1 rfl rfl (by omega) (by decide) dX6_writesLog_139 (fun H locs hP hD hS => ?_)
        have hP : va_P (dC, dI) vwCl (wM b cB cI cL rb rd (rq + 1) (va_up rQ rq y) (en1 g' (64 * rq) ((va_up rQ rq y) ((rq + 1) - 1))) (64 * rq) ro rn rk rv rf fN fF fB fR rl (va_up lB rl y) lR rt rg rx rz) H := hP
        have hD : va_D A (wM b cB cI cL rb rd (rq + 1) (va_up rQ rq y) (en1 g' (64 * rq) ((va_up rQ rq y) ((rq + 1) - 1))) (64 * rq) ro rn rk rv rf fN fF fB fR rl (va_up lB rl y) lR rt rg rx rz) := hD
        refine lv_aload_n hx hb dX6_writesLog_140 rfl (lv_at hl 0 rfl) ?_
        refine va_get (D := (dC, dI)) (ci := 6) (v := .ref (b 11)) (C := RX6) (T := TX6) (N := 22) hx hb hts in_X6 hown hK hP 0 rfl rfl 17 (by decide) f42 (fun _ h9 => h9) rfl dX6_writesLog_141 ?_
        refine lv_aload_n hx hb dX6_writesLog_144 rfl (lv_at hl 0 rfl) ?_
        refine lv_dup hx hb dX6_writesLog_145 rfl ?_
        refine va_get (D := (dC, dI)) (ci := 6) (v := .int (nI rl)) (C := RX6) (T := TX6) (N := 22) hx hb hts in_X6 hown hK hP 0 rfl rfl 15 (by decide) f77 (fun _ h9 => h9) rfl dX6_writesLog_146 ?_
        refine lv_dup_x1 hx hb dX6_writesLog_149 rfl rfl ?_
        refine lv_iconst (v := nI 1) hx hb dX6_writesLog_150 (by decide) ?_
        refine x_iadd hx hb dX6_writesLog_151 ?_
        refine va_put (D := (dC, dI)) (ci := 6) (v := .int (nI (rl + 1))) (ty := .int) (C := RX6) (T := TX6) (N := 22) hx hb hts in_X6 tyX6 tyX6_ok nmX6 hown hK hP hD hS 0 rfl rfl 15 (by decide) f77 (fun _ h9 => h9) rfl (by decide +kernel) rfl rfl (Nat.le_of_ble_eq_true rfl) dX6_writesLog_152 (fun H locs hP hD hS => ?_)
        have hP : va_P (dC, dI) vwCl (wM b cB cI cL rb rd (rq + 1) (va_up rQ rq y) (en1 g' (64 * rq) ((va_up rQ rq y) ((rq + 1) - 1))) (64 * rq) ro rn rk rv rf fN fF fB fR (rl + 1) (va_up lB rl y) lR rt rg rx rz) H := hP
        have hD : va_D A (wM b cB cI cL rb rd (rq + 1) (va_up rQ rq y) (en1 g' (64 * rq) ((va_up rQ rq y) ((rq + 1) - 1))) (64 * rq) ro rn rk rv rf fN fF fB fR (rl + 1) (va_up lB rl y) lR rt rg rx rz) := hD
        refine lv_aload_n hx hb dX6_writesLog_155 rfl (lv_at hl 0 rfl) ?_
        refine va_get (D := (dC, dI)) (ci := 6) (v := .int (nI rt)) (C := RX6) (T := TX6) (N := 22) hx hb hts in_X6 hown hK hP 0 rfl rfl 18 (by decide) f80 (fun _ h9 => h9) rfl dX6_writesLog_156 ?_
        refine x_iast hx hb hK hP hD hS 11 1 rfl rfl (by omega) (by decide) dX6_writesLog_159 (fun H locs hP hD hS => ?_)
        have hP : va_P (dC, dI) vwCl (wM b cB cI cL rb rd (rq + 1) (va_up rQ rq y) (en1 g' (64 * rq) ((va_up rQ rq y) ((rq + 1) - 1))) (64 * rq) ro rn rk rv rf fN fF fB fR (rl + 1) (va_up lB rl y) (va_up lR rl rt) rt rg rx rz) H := hP
        have hD : va_D A (wM b cB cI cL rb rd (rq + 1) (va_up rQ rq y) (en1 g' (64 * rq) ((va_up rQ rq y) ((rq + 1) - 1))) (64 * rq) ro rn rk rv rf fN fF fB fR (rl + 1) (va_up lB rl y) (va_up lR rl rt) rt rg rx rz) := hD
        refine lv_aload_n hx hb dX6_writesLog_160 rfl (lv_at hl 0 rfl) ?_
        refine lv_iconst (v := nI 0) hx hb dX6_writesLog_161 (by decide) ?_
        refine va_put (D := (dC, dI)) (ci := 6) (v := .int (nI 0)) (ty := .int) (C := RX6) (T := TX6) (N := 22) hx hb hts in_X6 tyX6 tyX6_ok nmX6 hown hK hP hD hS 0 rfl rfl 18 (by decide) f80 (fun _ h9 => h9) rfl (by decide +kernel) rfl rfl (Nat.le_of_ble_eq_true rfl) dX6_writesLog_162 (fun H locs hP hD hS => ?_)
        have hP : va_P (dC, dI) vwCl (wM b cB cI cL rb rd (rq + 1) (va_up rQ rq y) (en1 g' (64 * rq) ((va_up rQ rq y) ((rq + 1) - 1))) (64 * rq) ro rn rk rv rf fN fF fB fR (rl + 1) (va_up lB rl y) (va_up lR rl rt) 0 rg rx rz) H := hP
        have hD : va_D A (wM b cB cI cL rb rd (rq + 1) (va_up rQ rq y) (en1 g' (64 * rq) ((va_up rQ rq y) ((rq + 1) - 1))) (64 * rq) ro rn rk rv rf fN fF fB fR (rl + 1) (va_up lB rl y) (va_up lR rl rt) 0 rg rx rz) := hD
        refine lv_iconst (v := nI 1) hx hb dX6_writesLog_165 (by decide) ?_
        have e1 : (en1 g' (64 * rq) ((va_up rQ rq y) ((rq + 1) - 1))) = (wlG rq rt (rx - rt) (rn - rt) rk rv y rw) := by have h := i54_2; rw [show rt - i = 0 by omega, wlL] at h; rw [h]; show en1 _ _ (va_up rQ rq y (rq + 1 - 1)) = _; rw [show rq + 1 - 1 = rq by omega, va_up_self]; rfl
        have h9 : wM b cB cI cL rb rd (rq + 1) (va_up rQ rq y) (en1 g' (64 * rq) ((va_up rQ rq y) ((rq + 1) - 1))) (64 * rq) ro rn rk rv rf fN fF fB fR (rl + 1) (va_up lB rl y) (va_up lR rl rt) 0 rg rx rz = wM b cB cI cL rb rd (rq + 1) (va_up rQ rq y) (wlG rq rt (rx - rt) (rn - rt) rk rv y rw) (64 * rq) ro rn rk rv rf fN fF fB fR (rl + 1) (va_up lB rl y) (va_up lR rl rt) 0 rg rx rz := by rw [e1]
        have hP := x_wP h9 hP
        have hD := x_wD h9 hD
        exact hret dX6_writesLog_166 (by rfl) hP hD hS
      · refine lv_aload_n hx hb dX6_writesLog_62 rfl (lv_at hl 0 rfl) ?_
        refine lv_bipush (v := nI 8) hx hb dX6_writesLog_63 (by decide) ?_
        refine lv_bipush (v := nI 16) hx hb dX6_writesLog_65 (by decide) ?_
        refine lv_iload_n hx hb dX6_writesLog_67 rfl (lv_at hl 2 rfl) ?_
        refine x_imul hx hb dX6_writesLog_68 ?_
        refine x_iadd hx hb dX6_writesLog_69 ?_
        refine lv_aload_n hx hb dX6_writesLog_70 rfl (lv_at hl 0 rfl) ?_
        refine va_get (D := (dC, dI)) (ci := 6) (v := .ref (b 4)) (C := RX6) (T := TX6) (N := 22) hx hb hts in_X6 hown hK hP 0 rfl rfl 8 (by decide) f20 (fun _ h9 => h9) rfl dX6_writesLog_71 ?_
        refine lv_aload_n hx hb dX6_writesLog_74 rfl (lv_at hl 0 rfl) ?_
        refine va_get (D := (dC, dI)) (ci := 6) (v := .int (nI rn)) (C := RX6) (T := TX6) (N := 22) hx hb hts in_X6 hown hK hP 0 rfl rfl 7 (by decide) f71 (fun _ h9 => h9) rfl dX6_writesLog_75 ?_
        refine lv_aload_n hx hb dX6_writesLog_78 rfl (lv_at hl 0 rfl) ?_
        refine va_get (D := (dC, dI)) (ci := 6) (v := .int (nI rt)) (C := RX6) (T := TX6) (N := 22) hx hb hts in_X6 hown hK hP 0 rfl rfl 18 (by decide) f80 (fun _ h9 => h9) rfl dX6_writesLog_79 ?_
        refine x_isub hx hb dX6_writesLog_82 (by omega) ?_
        refine lv_iload_n hx hb dX6_writesLog_83 rfl (lv_at hl 2 rfl) ?_
        refine x_iadd hx hb dX6_writesLog_84 ?_
        refine x_lald hx hb hK hP 4 2 rfl rfl (by omega) (by decide) dX6_writesLog_85 ?_
        refine lv_bipush (v := nI 8) hx hb dX6_writesLog_86 (by decide) ?_
        refine x_callv (va_runV (As := [.int (nI (8 + (16 * i))), .long (rk ((rn - rt) + i)), .int (nI 8)]) (rest := []) ⟨hx, hb, hml, hown, hts⟩ (c_M_put i54_1 (8 + (16 * i)) (rk ((rn - rt) + i)) 8 (by omega) (by omega)) (cwV 3 hts (tbV tw_698 tw_700 tw_66 tw_91 tw_701) rfl rfl rfl (by decide +kernel) ⟨Nat.le_of_ble_eq_true rfl, Nat.le_of_ble_eq_true rfl⟩) ⟨y_blind, va_recv hK hP (ci := 6) (q0 := 0) rfl rfl, y_pre hK hP hD⟩ rfl rfl hl.1 rfl (lv_room (Nat.le_of_ble_eq_true rfl)) dX6_writesLog_88 ⟨Nat.zero_le _, Nat.zero_le _⟩) hS (fun H locs hP hD hS => ?_)
        have hP : va_P (dC, dI) vwCl (wM b cB cI cL rb rd (rq + 1) (va_up rQ rq y) (pn1 8 g' (64 * rq + (8 + (16 * i))) (uL (rk ((rn - rt) + i)))) (64 * rq) ro rn rk rv rf fN fF fB fR rl lB lR rt rg rx rz) H := hP
        have hD : va_D A (wM b cB cI cL rb rd (rq + 1) (va_up rQ rq y) (pn1 8 g' (64 * rq + (8 + (16 * i))) (uL (rk ((rn - rt) + i)))) (64 * rq) ro rn rk rv rf fN fF fB fR rl lB lR rt rg rx rz) := hD
        refine lv_aload_n hx hb dX6_writesLog_91 rfl (lv_at hl 0 rfl) ?_
        refine lv_bipush (v := nI 16) hx hb dX6_writesLog_92 (by decide) ?_
        refine lv_bipush (v := nI 16) hx hb dX6_writesLog_94 (by decide) ?_
        refine lv_iload_n hx hb dX6_writesLog_96 rfl (lv_at hl 2 rfl) ?_
        refine x_imul hx hb dX6_writesLog_97 ?_
        refine x_iadd hx hb dX6_writesLog_98 ?_
        refine lv_aload_n hx hb dX6_writesLog_99 rfl (lv_at hl 0 rfl) ?_
        refine va_get (D := (dC, dI)) (ci := 6) (v := .ref (b 5)) (C := RX6) (T := TX6) (N := 22) hx hb hts in_X6 hown hK hP 0 rfl rfl 9 (by decide) f24 (fun _ h9 => h9) rfl dX6_writesLog_100 ?_
        refine lv_aload_n hx hb dX6_writesLog_103 rfl (lv_at hl 0 rfl) ?_
        refine va_get (D := (dC, dI)) (ci := 6) (v := .int (nI rn)) (C := RX6) (T := TX6) (N := 22) hx hb hts in_X6 hown hK hP 0 rfl rfl 7 (by decide) f71 (fun _ h9 => h9) rfl dX6_writesLog_104 ?_
        refine lv_aload_n hx hb dX6_writesLog_107 rfl (lv_at hl 0 rfl) ?_
        refine va_get (D := (dC, dI)) (ci := 6) (v := .int (nI rt)) (C := RX6) (T := TX6) (N := 22) hx hb hts in_X6 hown hK hP 0 rfl rfl 18 (by decide) f80 (fun _ h9 => h9) rfl dX6_writesLog_108 ?_
        refine x_isub hx hb dX6_writesLog_111 (by omega) ?_
        refine lv_iload_n hx hb dX6_writesLog_112 rfl (lv_at hl 2 rfl) ?_
        refine x_iadd hx hb dX6_writesLog_113 ?_
        refine x_lald hx hb hK hP 5 2 rfl rfl (by omega) (by decide) dX6_writesLog_114 ?_
        refine lv_bipush (v := nI 8) hx hb dX6_writesLog_115 (by decide) ?_
        refine x_callv (va_runV (As := [.int (nI (16 + (16 * i))), .long (rv ((rn - rt) + i)), .int (nI 8)]) (rest := []) ⟨hx, hb, hml, hown, hts⟩ (c_M_put (pn1_lt i54_1) (16 + (16 * i)) (rv ((rn - rt) + i)) 8 (by omega) (by omega)) (cwV 3 hts (tbV tw_698 tw_700 tw_66 tw_91 tw_701) rfl rfl rfl (by decide +kernel) ⟨Nat.le_of_ble_eq_true rfl, Nat.le_of_ble_eq_true rfl⟩) ⟨y_blind, va_recv hK hP (ci := 6) (q0 := 0) rfl rfl, y_pre hK hP hD⟩ rfl rfl hl.1 rfl (lv_room (Nat.le_of_ble_eq_true rfl)) dX6_writesLog_117 ⟨Nat.zero_le _, Nat.zero_le _⟩) hS (fun H locs hP hD hS => ?_)
        have hP : va_P (dC, dI) vwCl (wM b cB cI cL rb rd (rq + 1) (va_up rQ rq y) (pn1 8 (pn1 8 g' (64 * rq + (8 + (16 * i))) (uL (rk ((rn - rt) + i)))) (64 * rq + (16 + (16 * i))) (uL (rv ((rn - rt) + i)))) (64 * rq) ro rn rk rv rf fN fF fB fR rl lB lR rt rg rx rz) H := hP
        have hD : va_D A (wM b cB cI cL rb rd (rq + 1) (va_up rQ rq y) (pn1 8 (pn1 8 g' (64 * rq + (8 + (16 * i))) (uL (rk ((rn - rt) + i)))) (64 * rq + (16 + (16 * i))) (uL (rv ((rn - rt) + i)))) (64 * rq) ro rn rk rv rf fN fF fB fR rl lB lR rt rg rx rz) := hD
        refine lv_iinc (v := nI (i + 1)) (lv' := [(2, .int (nI (i + 1))), (0, .ref (b 0)), (1, .int (nI y))]) hx hb dX6_writesLog_120 hl (k := 2) rfl (x_inc _) (by decide) rfl (fun ls hl => ?_)
        refine lv_goto (tgt := 54) hx hb dX6_writesLog_123 (by decide) ?_
        exact ih54 (i + 1) (pn1 8 (pn1 8 g' (64 * rq + (8 + (16 * i))) (uL (rk ((rn - rt) + i)))) (64 * rq + (16 + (16 * i))) (uL (rv ((rn - rt) + i)))) (by omega) (by omega) (by exact pn1_lt (pn1_lt i54_1)) (by have h := i54_2; rw [show rt - i = (rt - (i + 1)) + 1 by omega, wlL] at h; exact h) _ _ hP hD hS ls (lv_sub hl [1, 2, 0] rfl)
  exact L54 (rt - 0 + 1) 0 (pn1 6 (pn1 1 (pn1 1 (wz 64 rw (64 * rq)) ((64 * rq) + 0) 1) ((64 * rq) + 1) rt) ((64 * rq) + 2) (rx - rt)) (by omega) (by omega) (by exact pn1_lt (pn1_lt (pn1_lt (wz_lt hrw)))) (by rfl) _ _ hP hD hS ls (lv_sub hl [2, 1, 0] rfl)

set_option maxHeartbeats 4000000 in
set_option maxRecDepth 100000 in
theorem c_M_writesLogN {l : Launch} {dC : Nat → ClassId} {dI : Nat → Nat → Nat} {A : Nat → Prop} {b : Nat → Nat} {cB cI cL : ClassId} {rb : Nat} {rd : Nat → Nat} {rq : Nat} {rQ rw : Nat → Nat} {ra : Nat} {ro : Bool} {rn : Nat} {rk rv : Nat → Int64} {rf : Nat} {fN fF fB fR : Nat → Nat} {rl : Nat} {lB lR : Nat → Nat} {rt rg rx rz : Nat} (hrb : rb ≤ 64) (hrw : ∀ j, rw j < 256) (hrQ : ∀ j, rQ j < 64) (hrq : rq ≤ 128) (hrn : rn ≤ 210) (hrf : rf ≤ 5) (hfF : ∀ j, fF j < 1048576) (hfB : ∀ j, fB j < 1048576) (hrl : rl ≤ 62) (hlB : ∀ j, lB j < 1048576) (hrt : rt ≤ rn ∧ rt ≤ 3) (hrx : rx < 2 ^ 30 ∧ rt ≤ rx) (hfr : frM (usM rf fF fB rl lB) 1 (rb - 2) 2 0 = none) : Met l yX6_writesLog (Cond.code yX6_writesLog cX6_writesLog 3 (some .boolean) :: TB) { frames := 3, cells := 0, slots := 0, locals := 67 } (xPre (fun _ => True) (dC, dI) A (tyS cB cI cL) (wM b cB cI cL rb rd rq rQ rw ra ro rn rk rv rf fN fF fB fR rl lB lR rt rg rx rz) [.ref (b 0)]) (xQi (dC, dI) A (bI false) (wM b cB cI cL rb rd rq rQ rw ra ro rn rk rv rf fN fF fB fR rl lB lR rt rg rx rz)) 0 0 A := by
  refine x_ofWz (cc := cX6_writesLog) (maxL := 3) (by decide) rfl (Nat.le_of_ble_eq_true rfl) (x_narZ _) ?_
  intro p e s m args below meth c Q hx hb hml hts hown hK hN hP hD hS hret ls hl
  have hl : lv_has ls 3 [(0, .ref (b 0))] := hl
  have hown : s.vm.findClass RX6 = some m.cls := hown
  refine lv_aload_n hx hb dX6_writesLog_0 rfl (lv_at hl 0 rfl) ?_
  refine lv_iconst (v := nI 1) hx hb dX6_writesLog_1 (by decide) ?_
  refine x_calli (va_runV (As := [.int (nI 1)]) (rest := []) ⟨hx, hb, hml, hown, hts⟩ (c_M_free (by omega) (by omega) hfF hfB (by omega) hlB 1 (by omega) (by omega)) (cwV 1 hts (tbV tw_678 tw_680 tw_61 tw_91 tw_681) rfl rfl rfl (by decide +kernel) ⟨Nat.le_of_ble_eq_true rfl, Nat.le_of_ble_eq_true rfl⟩) ⟨y_blind, va_recv hK hP (ci := 6) (q0 := 0) rfl rfl, y_pre hK hP hD⟩ rfl rfl hl.1 rfl (lv_room (Nat.le_of_ble_eq_true rfl)) dX6_writesLog_2 ⟨Nat.zero_le _, Nat.zero_le _⟩) hS (fun H locs hP hD hS => ?_)
  have hP : va_P (dC, dI) vwCl (wM b cB cI cL rb rd rq rQ rw ra ro rn rk rv rf fN fF fB fR rl lB lR rt rg rx rz) H := hP
  have hD : va_D A (wM b cB cI cL rb rd rq rQ rw ra ro rn rk rv rf fN fF fB fR rl lB lR rt rg rx rz) := hD
  refine lv_istore_n (lv' := [(1, .int (oJ (frM (usM rf fF fB rl lB) 1 (rb - 2) 2 0))), (0, .ref (b 0))]) hx hb dX6_writesLog_5 rfl hl (by decide) rfl (fun ls hl => ?_)
  refine lv_iload_n hx hb dX6_writesLog_6 rfl (lv_at hl 0 rfl) ?_
  refine lv_if_ge (tgt := 12) hx hb dX6_writesLog_7 (by decide) (fun c7 => ?_) (fun c7 => ?_)
  · exact absurd c7 (by rw [hfr]; decide)
  · refine lv_iconst (v := nI 0) hx hb dX6_writesLog_10 (by decide) ?_
    exact hret dX6_writesLog_11 (by rfl) hP hD hS

set_option maxHeartbeats 4000000 in
set_option maxRecDepth 100000 in
theorem c_M_writesFile {l : Launch} {dC : Nat → ClassId} {dI : Nat → Nat → Nat} {A : Nat → Prop} {b : Nat → Nat} {cB cI cL : ClassId} {rb : Nat} {rd : Nat → Nat} {rq : Nat} {rQ rw : Nat → Nat} {ra : Nat} {ro : Bool} {rn : Nat} {rk rv : Nat → Int64} {rf : Nat} {fN fF fB fR : Nat → Nat} {rl : Nat} {lB lR : Nat → Nat} {rt rg rx rz : Nat} (hrw : ∀ j, rw j < 256) (hrQ : ∀ j, rQ j < 64) (hrn : rn ≤ 210) (hrz : rz < 2 ^ 18) (yy pp zz1 ff mm : Nat) (hq1 : rq < 130) (hp1 : 3 * pp < mm) (hm1 : ff + mm ≤ rn) (hy1 : yy + pp < 64) (hz1 : zz1 < 2 ^ 20) : Met l yX6_writesFile (Cond.code yX6_writesFile cX6_writesFile 8 none :: TB) { frames := 2, cells := 0, slots := 0, locals := 45 } (xPre (fun _ => True) (dC, dI) A (tyS cB cI cL) (wM b cB cI cL rb rd rq rQ rw ra ro rn rk rv rf fN fF fB fR rl lB lR rt rg rx rz) [.ref (b 0), .int (nI yy), .int (nI pp), .int (nI zz1), .int (nI ff), .int (nI mm)]) (xQv (dC, dI) A (wM b cB cI cL rb rd (rq + 1) (va_up rQ rq (yy + pp)) (wfG rq yy pp zz1 ff mm rz rk rv rw) (64 * rq) ro rn rk rv rf fN fF fB fR rl lB lR rt rg rx rz)) 0 0 A := by
  refine x_ofWv (cc := cX6_writesFile) (maxL := 8) (by decide) rfl (Nat.le_of_ble_eq_true rfl) ?_
  intro p e s m args below meth c Q hx hb hml hts hown hK hN hP hD hS hret ls hl
  have hl : lv_has ls 8 [(0, .ref (b 0)), (1, .int (nI yy)), (2, .int (nI pp)), (3, .int (nI zz1)), (4, .int (nI ff)), (5, .int (nI mm))] := hl
  have hown : s.vm.findClass RX6 = some m.cls := hown
  have f90 := hts _ (List.mem_cons_of_mem _ tw_627)
  have in_X6 := (fun q hq => List.mem_cons_of_mem _ (inX6 q hq) : ∀ q ∈ wsX60, q ∈ (Cond.code yX6_writesFile cX6_writesFile 8 none :: TB))
  have f20 := hts _ (List.mem_cons_of_mem _ tw_614)
  have f24 := hts _ (List.mem_cons_of_mem _ tw_615)
  refine lv_iload hx hb dX6_writesFile_0 (lv_at hl 5 rfl) ?_
  refine lv_iconst (v := nI 3) hx hb dX6_writesFile_2 (by decide) ?_
  refine lv_iload_n hx hb dX6_writesFile_3 rfl (lv_at hl 2 rfl) ?_
  refine x_imul hx hb dX6_writesFile_4 ?_
  refine x_isub hx hb dX6_writesFile_5 (by omega) ?_
  refine lv_iconst (v := nI 3) hx hb dX6_writesFile_6 (by decide) ?_
  have L22 : ∀ (H : Heap) (locs : List Loc), va_P (dC, dI) vwCl (wM b cB cI cL rb rd rq rQ rw ra ro rn rk rv rf fN fF fB fR rl lB lR rt rg rx rz) H → va_D A (wM b cB cI cL rb rd rq rQ rw ra ro rn rk rv rf fN fF fB fR rl lB lR rt rg rx rz) → va_S A s.heap H locs → ∀ (ls : Array Slot), lv_has ls 8 [(0, .ref (b 0)), (1, .int (nI yy)), (2, .int (nI pp)), (3, .int (nI zz1)), (4, .int (nI ff)), (5, .int (nI mm)), (6, .int (nI (min 3 (mm - 3 * pp))))] → W p l e { frames := 2, cells := 0, slots := 0, locals := 45 } s m args below meth c H locs 0 0 Q (F0 m 22 ls []) := by
    intro   H locs hP hD hS ls hl
    refine lv_aload_n hx hb dX6_writesFile_22 rfl (lv_at hl 0 rfl) ?_
    refine lv_iload_n hx hb dX6_writesFile_23 rfl (lv_at hl 1 rfl) ?_
    refine lv_iload_n hx hb dX6_writesFile_24 rfl (lv_at hl 2 rfl) ?_
    refine x_iadd hx hb dX6_writesFile_25 ?_
    refine x_callv (va_runV (As := [.int (nI (yy + pp))]) (rest := []) ⟨hx, hb, hml, hown, hts⟩ (c_M_begin hrw (yy + pp) (by omega)) (cwV 1 hts (tbV tw_694 tw_696 tw_65 tw_91 tw_697) rfl rfl rfl (by decide +kernel) ⟨Nat.le_of_ble_eq_true rfl, Nat.le_of_ble_eq_true rfl⟩) ⟨y_blind, va_recv hK hP (ci := 6) (q0 := 0) rfl rfl, y_pre hK hP hD⟩ rfl rfl hl.1 rfl (lv_room (Nat.le_of_ble_eq_true rfl)) dX6_writesFile_26 ⟨Nat.zero_le _, Nat.zero_le _⟩) hS (fun H locs hP hD hS => ?_)
    have hP : va_P (dC, dI) vwCl (wM b cB cI cL rb rd (rq + 1) (va_up rQ rq (yy + pp)) (wz 64 rw (64 * rq)) (64 * rq) ro rn rk rv rf fN fF fB fR rl lB lR rt rg rx rz) H := hP
    have hD : va_D A (wM b cB cI cL rb rd (rq + 1) (va_up rQ rq (yy + pp)) (wz 64 rw (64 * rq)) (64 * rq) ro rn rk rv rf fN fF fB fR rl lB lR rt rg rx rz) := hD
    refine lv_aload_n hx hb dX6_writesFile_29 rfl (lv_at hl 0 rfl) ?_
    refine lv_iconst (v := nI 0) hx hb dX6_writesFile_30 (by decide) ?_
    refine lv_ldc2 (v := lN 2) hx hb hown (hts _ (List.mem_cons_of_mem _ tw_738)) dX6_writesFile_31 ?_
    refine lv_iconst (v := nI 1) hx hb dX6_writesFile_34 (by decide) ?_
    refine x_callv (va_runV (As := [.int (nI 0), .long (lN 2), .int (nI 1)]) (rest := []) ⟨hx, hb, hml, hown, hts⟩ (c_M_putN (wz_lt hrw) 0 2 1 (by omega) (by omega) (by omega)) (cwV 3 hts (tbV tw_698 tw_700 tw_66 tw_91 tw_701) rfl rfl rfl (by decide +kernel) ⟨Nat.le_of_ble_eq_true rfl, Nat.le_of_ble_eq_true rfl⟩) ⟨y_blind, va_recv hK hP (ci := 6) (q0 := 0) rfl rfl, y_pre hK hP hD⟩ rfl rfl hl.1 rfl (lv_room (Nat.le_of_ble_eq_true rfl)) dX6_writesFile_35 ⟨Nat.zero_le _, Nat.zero_le _⟩) hS (fun H locs hP hD hS => ?_)
    have hP : va_P (dC, dI) vwCl (wM b cB cI cL rb rd (rq + 1) (va_up rQ rq (yy + pp)) (pn1 1 (wz 64 rw (64 * rq)) (64 * rq + 0) 2) (64 * rq) ro rn rk rv rf fN fF fB fR rl lB lR rt rg rx rz) H := hP
    have hD : va_D A (wM b cB cI cL rb rd (rq + 1) (va_up rQ rq (yy + pp)) (pn1 1 (wz 64 rw (64 * rq)) (64 * rq + 0) 2) (64 * rq) ro rn rk rv rf fN fF fB fR rl lB lR rt rg rx rz) := hD
    refine lv_aload_n hx hb dX6_writesFile_38 rfl (lv_at hl 0 rfl) ?_
    refine lv_iconst (v := nI 1) hx hb dX6_writesFile_39 (by decide) ?_
    refine lv_iload hx hb dX6_writesFile_40 (lv_at hl 6 rfl) ?_
    refine lv_i2l (v := lN (min 3 (mm - 3 * pp))) hx hb dX6_writesFile_42 (nI_l (by omega)) ?_
    refine lv_iconst (v := nI 1) hx hb dX6_writesFile_43 (by decide) ?_
    refine x_callv (va_runV (As := [.int (nI 1), .long (lN (min 3 (mm - 3 * pp))), .int (nI 1)]) (rest := []) ⟨hx, hb, hml, hown, hts⟩ (c_M_putN (pn1_lt (wz_lt hrw)) 1 (min 3 (mm - 3 * pp)) 1 (by omega) (by omega) (by omega)) (cwV 3 hts (tbV tw_698 tw_700 tw_66 tw_91 tw_701) rfl rfl rfl (by decide +kernel) ⟨Nat.le_of_ble_eq_true rfl, Nat.le_of_ble_eq_true rfl⟩) ⟨y_blind, va_recv hK hP (ci := 6) (q0 := 0) rfl rfl, y_pre hK hP hD⟩ rfl rfl hl.1 rfl (lv_room (Nat.le_of_ble_eq_true rfl)) dX6_writesFile_44 ⟨Nat.zero_le _, Nat.zero_le _⟩) hS (fun H locs hP hD hS => ?_)
    have hP : va_P (dC, dI) vwCl (wM b cB cI cL rb rd (rq + 1) (va_up rQ rq (yy + pp)) (pn1 1 (pn1 1 (wz 64 rw (64 * rq)) (64 * rq + 0) 2) (64 * rq + 1) (min 3 (mm - 3 * pp))) (64 * rq) ro rn rk rv rf fN fF fB fR rl lB lR rt rg rx rz) H := hP
    have hD : va_D A (wM b cB cI cL rb rd (rq + 1) (va_up rQ rq (yy + pp)) (pn1 1 (pn1 1 (wz 64 rw (64 * rq)) (64 * rq + 0) 2) (64 * rq + 1) (min 3 (mm - 3 * pp))) (64 * rq) ro rn rk rv rf fN fF fB fR rl lB lR rt rg rx rz) := hD
    refine lv_aload_n hx hb dX6_writesFile_47 rfl (lv_at hl 0 rfl) ?_
    refine lv_iconst (v := nI 2) hx hb dX6_writesFile_48 (by decide) ?_
    refine lv_aload_n hx hb dX6_writesFile_49 rfl (lv_at hl 0 rfl) ?_
    refine va_get (D := (dC, dI)) (ci := 6) (v := .int (nI rz)) (C := RX6) (T := TX6) (N := 22) hx hb hts in_X6 hown hK hP 0 rfl rfl 21 (by decide) f90 (fun _ h9 => h9) rfl dX6_writesFile_50 ?_
    refine lv_iconst (v := nI 1) hx hb dX6_writesFile_53 (by decide) ?_
    refine x_iadd hx hb dX6_writesFile_54 ?_
    refine lv_i2l (v := lN (rz + 1)) hx hb dX6_writesFile_55 (nI_l (by omega)) ?_
    refine lv_iconst (v := nI 2) hx hb dX6_writesFile_56 (by decide) ?_
    refine x_callv (va_runV (As := [.int (nI 2), .long (lN (rz + 1)), .int (nI 2)]) (rest := []) ⟨hx, hb, hml, hown, hts⟩ (c_M_putN (pn1_lt (pn1_lt (wz_lt hrw))) 2 (rz + 1) 2 (by omega) (by omega) (by omega)) (cwV 3 hts (tbV tw_698 tw_700 tw_66 tw_91 tw_701) rfl rfl rfl (by decide +kernel) ⟨Nat.le_of_ble_eq_true rfl, Nat.le_of_ble_eq_true rfl⟩) ⟨y_blind, va_recv hK hP (ci := 6) (q0 := 0) rfl rfl, y_pre hK hP hD⟩ rfl rfl hl.1 rfl (lv_room (Nat.le_of_ble_eq_true rfl)) dX6_writesFile_57 ⟨Nat.zero_le _, Nat.zero_le _⟩) hS (fun H locs hP hD hS => ?_)
    have hP : va_P (dC, dI) vwCl (wM b cB cI cL rb rd (rq + 1) (va_up rQ rq (yy + pp)) (pn1 2 (pn1 1 (pn1 1 (wz 64 rw (64 * rq)) (64 * rq + 0) 2) (64 * rq + 1) (min 3 (mm - 3 * pp))) (64 * rq + 2) (rz + 1)) (64 * rq) ro rn rk rv rf fN fF fB fR rl lB lR rt rg rx rz) H := hP
    have hD : va_D A (wM b cB cI cL rb rd (rq + 1) (va_up rQ rq (yy + pp)) (pn1 2 (pn1 1 (pn1 1 (wz 64 rw (64 * rq)) (64 * rq + 0) 2) (64 * rq + 1) (min 3 (mm - 3 * pp))) (64 * rq + 2) (rz + 1)) (64 * rq) ro rn rk rv rf fN fF fB fR rl lB lR rt rg rx rz) := hD
    refine lv_aload_n hx hb dX6_writesFile_60 rfl (lv_at hl 0 rfl) ?_
    refine lv_iconst (v := nI 4) hx hb dX6_writesFile_61 (by decide) ?_
    refine lv_iload_n hx hb dX6_writesFile_62 rfl (lv_at hl 2 rfl) ?_
    refine lv_i2l (v := lN pp) hx hb dX6_writesFile_63 (nI_l (by omega)) ?_
    refine lv_iconst (v := nI 2) hx hb dX6_writesFile_64 (by decide) ?_
    refine x_callv (va_runV (As := [.int (nI 4), .long (lN pp), .int (nI 2)]) (rest := []) ⟨hx, hb, hml, hown, hts⟩ (c_M_putN (pn1_lt (pn1_lt (pn1_lt (wz_lt hrw)))) 4 pp 2 (by omega) (by omega) (by omega)) (cwV 3 hts (tbV tw_698 tw_700 tw_66 tw_91 tw_701) rfl rfl rfl (by decide +kernel) ⟨Nat.le_of_ble_eq_true rfl, Nat.le_of_ble_eq_true rfl⟩) ⟨y_blind, va_recv hK hP (ci := 6) (q0 := 0) rfl rfl, y_pre hK hP hD⟩ rfl rfl hl.1 rfl (lv_room (Nat.le_of_ble_eq_true rfl)) dX6_writesFile_65 ⟨Nat.zero_le _, Nat.zero_le _⟩) hS (fun H locs hP hD hS => ?_)
    have hP : va_P (dC, dI) vwCl (wM b cB cI cL rb rd (rq + 1) (va_up rQ rq (yy + pp)) (pn1 2 (pn1 2 (pn1 1 (pn1 1 (wz 64 rw (64 * rq)) (64 * rq + 0) 2) (64 * rq + 1) (min 3 (mm - 3 * pp))) (64 * rq + 2) (rz + 1)) (64 * rq + 4) pp) (64 * rq) ro rn rk rv rf fN fF fB fR rl lB lR rt rg rx rz) H := hP
    have hD : va_D A (wM b cB cI cL rb rd (rq + 1) (va_up rQ rq (yy + pp)) (pn1 2 (pn1 2 (pn1 1 (pn1 1 (wz 64 rw (64 * rq)) (64 * rq + 0) 2) (64 * rq + 1) (min 3 (mm - 3 * pp))) (64 * rq + 2) (rz + 1)) (64 * rq + 4) pp) (64 * rq) ro rn rk rv rf fN fF fB fR rl lB lR rt rg rx rz) := hD
    refine lv_aload_n hx hb dX6_writesFile_68 rfl (lv_at hl 0 rfl) ?_
    refine lv_bipush (v := nI 6) hx hb dX6_writesFile_69 (by decide) ?_
    refine lv_iload_n hx hb dX6_writesFile_71 rfl (lv_at hl 3 rfl) ?_
    refine lv_i2l (v := lN zz1) hx hb dX6_writesFile_72 (nI_l (by omega)) ?_
    refine lv_iconst (v := nI 2) hx hb dX6_writesFile_73 (by decide) ?_
    refine x_callv (va_runV (As := [.int (nI 6), .long (lN zz1), .int (nI 2)]) (rest := []) ⟨hx, hb, hml, hown, hts⟩ (c_M_putN (pn1_lt (pn1_lt (pn1_lt (pn1_lt (wz_lt hrw))))) 6 zz1 2 (by omega) (by omega) (by omega)) (cwV 3 hts (tbV tw_698 tw_700 tw_66 tw_91 tw_701) rfl rfl rfl (by decide +kernel) ⟨Nat.le_of_ble_eq_true rfl, Nat.le_of_ble_eq_true rfl⟩) ⟨y_blind, va_recv hK hP (ci := 6) (q0 := 0) rfl rfl, y_pre hK hP hD⟩ rfl rfl hl.1 rfl (lv_room (Nat.le_of_ble_eq_true rfl)) dX6_writesFile_74 ⟨Nat.zero_le _, Nat.zero_le _⟩) hS (fun H locs hP hD hS => ?_)
    have hP : va_P (dC, dI) vwCl (wM b cB cI cL rb rd (rq + 1) (va_up rQ rq (yy + pp)) (pn1 2 (pn1 2 (pn1 2 (pn1 1 (pn1 1 (wz 64 rw (64 * rq)) (64 * rq + 0) 2) (64 * rq + 1) (min 3 (mm - 3 * pp))) (64 * rq + 2) (rz + 1)) (64 * rq + 4) pp) (64 * rq + 6) zz1) (64 * rq) ro rn rk rv rf fN fF fB fR rl lB lR rt rg rx rz) H := hP
    have hD : va_D A (wM b cB cI cL rb rd (rq + 1) (va_up rQ rq (yy + pp)) (pn1 2 (pn1 2 (pn1 2 (pn1 1 (pn1 1 (wz 64 rw (64 * rq)) (64 * rq + 0) 2) (64 * rq + 1) (min 3 (mm - 3 * pp))) (64 * rq + 2) (rz + 1)) (64 * rq + 4) pp) (64 * rq + 6) zz1) (64 * rq) ro rn rk rv rf fN fF fB fR rl lB lR rt rg rx rz) := hD
    refine lv_iconst (v := nI 0) hx hb dX6_writesFile_77 (by decide) ?_
    refine lv_istore (lv' := [(7, .int (nI 0)), (0, .ref (b 0)), (1, .int (nI yy)), (2, .int (nI pp)), (3, .int (nI zz1)), (4, .int (nI ff)), (5, .int (nI mm)), (6, .int (nI (min 3 (mm - 3 * pp))))]) hx hb dX6_writesFile_78 hl (by decide) rfl (fun ls hl => ?_)
    have L80 : ∀ (fu80 : Nat) (i : Nat) (g' : Nat → Nat), (min 3 (mm - 3 * pp) - i < fu80) → (i ≤ min 3 (mm - 3 * pp)) → (∀ q, g' q < 256) → (wfL (64 * rq) (ff + 3 * pp) rk rv (min 3 (mm - 3 * pp) - i) i g' = wfL (64 * rq) (ff + 3 * pp) rk rv (min 3 (mm - 3 * pp)) 0 (pn1 2 (pn1 2 (pn1 2 (pn1 1 (pn1 1 (wz 64 rw (64 * rq)) ((64 * rq) + 0) 2) ((64 * rq) + 1) (min 3 (mm - 3 * pp))) ((64 * rq) + 2) (rz + 1)) ((64 * rq) + 4) pp) ((64 * rq) + 6) zz1)) → ∀ (H : Heap) (locs : List Loc), va_P (dC, dI) vwCl (wM b cB cI cL rb rd (rq + 1) (va_up rQ rq (yy + pp)) g' (64 * rq) ro rn rk rv rf fN fF fB fR rl lB lR rt rg rx rz) H → va_D A (wM b cB cI cL rb rd (rq + 1) (va_up rQ rq (yy + pp)) g' (64 * rq) ro rn rk rv rf fN fF fB fR rl lB lR rt rg rx rz) → va_S A s.heap H locs → ∀ (ls : Array Slot), lv_has ls 8 [(0, .ref (b 0)), (1, .int (nI yy)), (2, .int (nI pp)), (3, .int (nI zz1)), (4, .int (nI ff)), (5, .int (nI mm)), (6, .int (nI (min 3 (mm - 3 * pp)))), (7, .int (nI i))] → W p l e { frames := 2, cells := 0, slots := 0, locals := 45 } s m args below meth c H locs 0 0 Q (F0 m 80 ls []) := by
      intro fu80
      induction fu80 with
      | zero => intro i g' hm; exact absurd hm (Nat.not_lt_zero _)
      | succ fu80 ih80 =>
        intro i g' hm i80_0 i80_1 i80_2 H locs hP hD hS ls hl
        refine lv_iload hx hb dX6_writesFile_80 (lv_at hl 7 rfl) ?_
        refine lv_iload hx hb dX6_writesFile_82 (lv_at hl 6 rfl) ?_
        refine x_icmp_ge (tgt := 149) hx hb dX6_writesFile_84 (by decide) (by omega) (by omega) (fun c84 => ?_) (fun c84 => ?_)
        · refine lv_aload_n hx hb dX6_writesFile_149 rfl (lv_at hl 0 rfl) ?_
          refine x_callv (va_runV (As := []) (rest := []) ⟨hx, hb, hml, hown, hts⟩ (c_M_end i80_1 (va_up_lt hrQ (by omega)) (by omega) (by omega) (by omega)) (cwV 0 hts (tbV tw_702 tw_704 tw_67 tw_91 tw_705) rfl rfl rfl (by decide +kernel) ⟨Nat.le_of_ble_eq_true rfl, Nat.le_of_ble_eq_true rfl⟩) ⟨y_blind, va_recv hK hP (ci := 6) (q0 := 0) rfl rfl, y_pre hK hP hD⟩ rfl rfl hl.1 rfl (lv_room (Nat.le_of_ble_eq_true rfl)) dX6_writesFile_150 ⟨Nat.zero_le _, Nat.zero_le _⟩) hS (fun H locs hP hD hS => ?_)
          have hP : va_P (dC, dI) vwCl (wM b cB cI cL rb rd (rq + 1) (va_up rQ rq (yy + pp)) (en1 g' (64 * rq) ((va_up rQ rq (yy + pp)) ((rq + 1) - 1))) (64 * rq) ro rn rk rv rf fN fF fB fR rl lB lR rt rg rx rz) H := hP
          have hD : va_D A (wM b cB cI cL rb rd (rq + 1) (va_up rQ rq (yy + pp)) (en1 g' (64 * rq) ((va_up rQ rq (yy + pp)) ((rq + 1) - 1))) (64 * rq) ro rn rk rv rf fN fF fB fR rl lB lR rt rg rx rz) := hD
          have e1 : (en1 g' (64 * rq) ((va_up rQ rq (yy + pp)) ((rq + 1) - 1))) = (wfG rq yy pp zz1 ff mm rz rk rv rw) := by have h := i80_2; rw [show min 3 (mm - 3 * pp) - i = 0 by omega, wfL] at h; rw [h]; show en1 _ _ (va_up rQ rq (yy + pp) (rq + 1 - 1)) = _; rw [show rq + 1 - 1 = rq by omega, va_up_self]; rfl
          have h9 : wM b cB cI cL rb rd (rq + 1) (va_up rQ rq (yy + pp)) (en1 g' (64 * rq) ((va_up rQ rq (yy + pp)) ((rq + 1) - 1))) (64 * rq) ro rn rk rv rf fN fF fB fR rl lB lR rt rg rx rz = wM b cB cI cL rb rd (rq + 1) (va_up rQ rq (yy + pp)) (wfG rq yy pp zz1 ff mm rz rk rv rw) (64 * rq) ro rn rk rv rf fN fF fB fR rl lB lR rt rg rx rz := by rw [e1]
          have hP := x_wP h9 hP
          have hD := x_wD h9 hD
          exact hret dX6_writesFile_153 hP hD hS
        · refine lv_aload_n hx hb dX6_writesFile_87 rfl (lv_at hl 0 rfl) ?_
          refine lv_bipush (v := nI 8) hx hb dX6_writesFile_88 (by decide) ?_
          refine lv_bipush (v := nI 16) hx hb dX6_writesFile_90 (by decide) ?_
          refine lv_iload hx hb dX6_writesFile_92 (lv_at hl 7 rfl) ?_
          refine x_imul hx hb dX6_writesFile_94 ?_
          refine x_iadd hx hb dX6_writesFile_95 ?_
          refine lv_aload_n hx hb dX6_writesFile_96 rfl (lv_at hl 0 rfl) ?_
          refine va_get (D := (dC, dI)) (ci := 6) (v := .ref (b 4)) (C := RX6) (T := TX6) (N := 22) hx hb hts in_X6 hown hK hP 0 rfl rfl 8 (by decide) f20 (fun _ h9 => h9) rfl dX6_writesFile_97 ?_
          refine lv_iload hx hb dX6_writesFile_100 (lv_at hl 4 rfl) ?_
          refine lv_iconst (v := nI 3) hx hb dX6_writesFile_102 (by decide) ?_
          refine lv_iload_n hx hb dX6_writesFile_103 rfl (lv_at hl 2 rfl) ?_
          refine x_imul hx hb dX6_writesFile_104 ?_
          refine x_iadd hx hb dX6_writesFile_105 ?_
          refine lv_iload hx hb dX6_writesFile_106 (lv_at hl 7 rfl) ?_
          refine x_iadd hx hb dX6_writesFile_108 ?_
          refine x_lald hx hb hK hP 4 2 rfl rfl (by omega) (by decide) dX6_writesFile_109 ?_
          refine lv_bipush (v := nI 8) hx hb dX6_writesFile_110 (by decide) ?_
          refine x_callv (va_runV (As := [.int (nI (8 + (16 * i))), .long (rk ((ff + (3 * pp)) + i)), .int (nI 8)]) (rest := []) ⟨hx, hb, hml, hown, hts⟩ (c_M_put i80_1 (8 + (16 * i)) (rk ((ff + (3 * pp)) + i)) 8 (by omega) (by omega)) (cwV 3 hts (tbV tw_698 tw_700 tw_66 tw_91 tw_701) rfl rfl rfl (by decide +kernel) ⟨Nat.le_of_ble_eq_true rfl, Nat.le_of_ble_eq_true rfl⟩) ⟨y_blind, va_recv hK hP (ci := 6) (q0 := 0) rfl rfl, y_pre hK hP hD⟩ rfl rfl hl.1 rfl (lv_room (Nat.le_of_ble_eq_true rfl)) dX6_writesFile_112 ⟨Nat.zero_le _, Nat.zero_le _⟩) hS (fun H locs hP hD hS => ?_)
          have hP : va_P (dC, dI) vwCl (wM b cB cI cL rb rd (rq + 1) (va_up rQ rq (yy + pp)) (pn1 8 g' (64 * rq + (8 + (16 * i))) (uL (rk ((ff + (3 * pp)) + i)))) (64 * rq) ro rn rk rv rf fN fF fB fR rl lB lR rt rg rx rz) H := hP
          have hD : va_D A (wM b cB cI cL rb rd (rq + 1) (va_up rQ rq (yy + pp)) (pn1 8 g' (64 * rq + (8 + (16 * i))) (uL (rk ((ff + (3 * pp)) + i)))) (64 * rq) ro rn rk rv rf fN fF fB fR rl lB lR rt rg rx rz) := hD
          refine lv_aload_n hx hb dX6_writesFile_115 rfl (lv_at hl 0 rfl) ?_
          refine lv_bipush (v := nI 16) hx hb dX6_writesFile_116 (by decide) ?_
          refine lv_bipush (v := nI 16) hx hb dX6_writesFile_118 (by decide) ?_
          refine lv_iload hx hb dX6_writesFile_120 (lv_at hl 7 rfl) ?_
          refine x_imul hx hb dX6_writesFile_122 ?_
          refine x_iadd hx hb dX6_writesFile_123 ?_
          refine lv_aload_n hx hb dX6_writesFile_124 rfl (lv_at hl 0 rfl) ?_
          refine va_get (D := (dC, dI)) (ci := 6) (v := .ref (b 5)) (C := RX6) (T := TX6) (N := 22) hx hb hts in_X6 hown hK hP 0 rfl rfl 9 (by decide) f24 (fun _ h9 => h9) rfl dX6_writesFile_125 ?_
          refine lv_iload hx hb dX6_writesFile_128 (lv_at hl 4 rfl) ?_
          refine lv_iconst (v := nI 3) hx hb dX6_writesFile_130 (by decide) ?_
          refine lv_iload_n hx hb dX6_writesFile_131 rfl (lv_at hl 2 rfl) ?_
          refine x_imul hx hb dX6_writesFile_132 ?_
          refine x_iadd hx hb dX6_writesFile_133 ?_
          refine lv_iload hx hb dX6_writesFile_134 (lv_at hl 7 rfl) ?_
          refine x_iadd hx hb dX6_writesFile_136 ?_
          refine x_lald hx hb hK hP 5 2 rfl rfl (by omega) (by decide) dX6_writesFile_137 ?_
          refine lv_bipush (v := nI 8) hx hb dX6_writesFile_138 (by decide) ?_
          refine x_callv (va_runV (As := [.int (nI (16 + (16 * i))), .long (rv ((ff + (3 * pp)) + i)), .int (nI 8)]) (rest := []) ⟨hx, hb, hml, hown, hts⟩ (c_M_put (pn1_lt i80_1) (16 + (16 * i)) (rv ((ff + (3 * pp)) + i)) 8 (by omega) (by omega)) (cwV 3 hts (tbV tw_698 tw_700 tw_66 tw_91 tw_701) rfl rfl rfl (by decide +kernel) ⟨Nat.le_of_ble_eq_true rfl, Nat.le_of_ble_eq_true rfl⟩) ⟨y_blind, va_recv hK hP (ci := 6) (q0 := 0) rfl rfl, y_pre hK hP hD⟩ rfl rfl hl.1 rfl (lv_room (Nat.le_of_ble_eq_true rfl)) dX6_writesFile_140 ⟨Nat.zero_le _, Nat.zero_le _⟩) hS (fun H locs hP hD hS => ?_)
          have hP : va_P (dC, dI) vwCl (wM b cB cI cL rb rd (rq + 1) (va_up rQ rq (yy + pp)) (pn1 8 (pn1 8 g' (64 * rq + (8 + (16 * i))) (uL (rk ((ff + (3 * pp)) + i)))) (64 * rq + (16 + (16 * i))) (uL (rv ((ff + (3 * pp)) + i)))) (64 * rq) ro rn rk rv rf fN fF fB fR rl lB lR rt rg rx rz) H := hP
          have hD : va_D A (wM b cB cI cL rb rd (rq + 1) (va_up rQ rq (yy + pp)) (pn1 8 (pn1 8 g' (64 * rq + (8 + (16 * i))) (uL (rk ((ff + (3 * pp)) + i)))) (64 * rq + (16 + (16 * i))) (uL (rv ((ff + (3 * pp)) + i)))) (64 * rq) ro rn rk rv rf fN fF fB fR rl lB lR rt rg rx rz) := hD
          refine lv_iinc (v := nI (i + 1)) (lv' := [(7, .int (nI (i + 1))), (0, .ref (b 0)), (1, .int (nI yy)), (2, .int (nI pp)), (3, .int (nI zz1)), (4, .int (nI ff)), (5, .int (nI mm)), (6, .int (nI (min 3 (mm - 3 * pp))))]) hx hb dX6_writesFile_143 hl (k := 7) rfl (x_inc _) (by decide) rfl (fun ls hl => ?_)
          refine lv_goto (tgt := 80) hx hb dX6_writesFile_146 (by decide) ?_
          exact ih80 (i + 1) (pn1 8 (pn1 8 g' (64 * rq + (8 + (16 * i))) (uL (rk ((ff + (3 * pp)) + i)))) (64 * rq + (16 + (16 * i))) (uL (rv ((ff + (3 * pp)) + i)))) (by omega) (by omega) (by exact pn1_lt (pn1_lt i80_1)) (by have h := i80_2; rw [show min 3 (mm - 3 * pp) - i = (min 3 (mm - 3 * pp) - (i + 1)) + 1 by omega, wfL] at h; exact h) _ _ hP hD hS ls (lv_sub hl [1, 2, 3, 4, 5, 6, 7, 0] rfl)
    exact L80 (min 3 (mm - 3 * pp) - 0 + 1) 0 (pn1 2 (pn1 2 (pn1 2 (pn1 1 (pn1 1 (wz 64 rw (64 * rq)) ((64 * rq) + 0) 2) ((64 * rq) + 1) (min 3 (mm - 3 * pp))) ((64 * rq) + 2) (rz + 1)) ((64 * rq) + 4) pp) ((64 * rq) + 6) zz1) (by omega) (by omega) (by exact pn1_lt (pn1_lt (pn1_lt (pn1_lt (pn1_lt (wz_lt hrw)))))) (by rfl) _ _ hP hD hS ls (lv_sub hl [1, 2, 3, 4, 5, 6, 7, 0] rfl)
  refine x_icmp_ge (tgt := 19) hx hb dX6_writesFile_7 (by decide) (by omega) (by omega) (fun c7 => ?_) (fun c7 => ?_)
  · refine lv_iconst (v := nI 3) hx hb dX6_writesFile_19 (by decide) ?_
    refine lv_istore (lv' := [(6, .int (nI 3)), (0, .ref (b 0)), (1, .int (nI yy)), (2, .int (nI pp)), (3, .int (nI zz1)), (4, .int (nI ff)), (5, .int (nI mm))]) hx hb dX6_writesFile_20 hl (by decide) rfl (fun ls hl => ?_)
    have e2 : 3 = (min 3 (mm - 3 * pp)) := by omega
    exact L22  _ _ hP hD hS ls (x_lvc (l1 := [(0, .ref (b 0)), (1, .int (nI yy)), (2, .int (nI pp)), (3, .int (nI zz1)), (4, .int (nI ff)), (5, .int (nI mm)), (6, .int (nI 3))]) (by rw [← e2]) (lv_sub hl [1, 2, 3, 4, 5, 6, 0] rfl))
  · refine lv_iload hx hb dX6_writesFile_10 (lv_at hl 5 rfl) ?_
    refine lv_iconst (v := nI 3) hx hb dX6_writesFile_12 (by decide) ?_
    refine lv_iload_n hx hb dX6_writesFile_13 rfl (lv_at hl 2 rfl) ?_
    refine x_imul hx hb dX6_writesFile_14 ?_
    refine x_isub hx hb dX6_writesFile_15 (by omega) ?_
    refine lv_goto (tgt := 20) hx hb dX6_writesFile_16 (by decide) ?_
    refine lv_istore (lv' := [(6, .int (nI (mm - (3 * pp)))), (0, .ref (b 0)), (1, .int (nI yy)), (2, .int (nI pp)), (3, .int (nI zz1)), (4, .int (nI ff)), (5, .int (nI mm))]) hx hb dX6_writesFile_20 hl (by decide) rfl (fun ls hl => ?_)
    have e3 : (mm - (3 * pp)) = (min 3 (mm - 3 * pp)) := by omega
    exact L22  _ _ hP hD hS ls (x_lvc (l1 := [(0, .ref (b 0)), (1, .int (nI yy)), (2, .int (nI pp)), (3, .int (nI zz1)), (4, .int (nI ff)), (5, .int (nI mm)), (6, .int (nI (mm - (3 * pp))))]) (by rw [← e3]) (lv_sub hl [1, 2, 3, 4, 5, 6, 0] rfl))

set_option maxHeartbeats 4000000 in
set_option maxRecDepth 100000 in
theorem c_M_writesHead {l : Launch} {dC : Nat → ClassId} {dI : Nat → Nat → Nat} {A : Nat → Prop} {b : Nat → Nat} {cB cI cL : ClassId} {rb : Nat} {rd : Nat → Nat} {rq : Nat} {rQ rw : Nat → Nat} {ra : Nat} {ro : Bool} {rn : Nat} {rk rv : Nat → Int64} {rf : Nat} {fN fF fB fR : Nat → Nat} {rl : Nat} {lB lR : Nat → Nat} {rt rg rx rz : Nat} (hrw : ∀ j, rw j < 256) (hrQ : ∀ j, rQ j < 64) (hfN : ∀ j, fN j < 1048576) (hfF : ∀ j, fF j < 1048576) (hfB : ∀ j, fB j < 1048576) (hfR : ∀ j, fR j < 1048576) (hrg : rg < 2 ^ 30) (hrx : rx < 2 ^ 30 ∧ rt ≤ rx) (nn : Nat) (hq1 : rq < 130) (hn1 : nn ≤ 5) : Met l yX6_writesHead (Cond.code yX6_writesHead cX6_writesHead 5 none :: TB) { frames := 2, cells := 0, slots := 0, locals := 45 } (xPre (fun _ => True) (dC, dI) A (tyS cB cI cL) (wM b cB cI cL rb rd rq rQ rw ra ro rn rk rv rf fN fF fB fR rl lB lR rt rg rx rz) [.ref (b 0), .int (nI nn)]) (xQv (dC, dI) A (wM b cB cI cL rb rd (rq + 1) (va_up rQ rq ((rg + 1) % 2)) (whG rq nn rg rx fN fF fB fR rw) (64 * rq) ro rn rk rv rf fN fF fB fR rl lB lR rt rg rx rz)) 0 0 A := by
  refine x_ofWv (cc := cX6_writesHead) (maxL := 5) (by decide) rfl (Nat.le_of_ble_eq_true rfl) ?_
  intro p e s m args below meth c Q hx hb hml hts hown hK hN hP hD hS hret ls hl
  have hl : lv_has ls 5 [(0, .ref (b 0)), (1, .int (nI nn))] := hl
  have hown : s.vm.findClass RX6 = some m.cls := hown
  have f83 := hts _ (List.mem_cons_of_mem _ tw_625)
  have in_X6 := (fun q hq => List.mem_cons_of_mem _ (inX6 q hq) : ∀ q ∈ wsX60, q ∈ (Cond.code yX6_writesHead cX6_writesHead 5 none :: TB))
  have f87 := hts _ (List.mem_cons_of_mem _ tw_626)
  have f27 := hts _ (List.mem_cons_of_mem _ tw_617)
  have f30 := hts _ (List.mem_cons_of_mem _ tw_618)
  have f33 := hts _ (List.mem_cons_of_mem _ tw_619)
  have f36 := hts _ (List.mem_cons_of_mem _ tw_620)
  refine lv_aload_n hx hb dX6_writesHead_0 rfl (lv_at hl 0 rfl) ?_
  refine va_get (D := (dC, dI)) (ci := 6) (v := .long (lN rg)) (C := RX6) (T := TX6) (N := 22) hx hb hts in_X6 hown hK hP 0 rfl rfl 19 (by decide) f83 (fun _ h9 => h9) rfl dX6_writesHead_1 ?_
  refine lv_lconst (v := lN 1) hx hb dX6_writesHead_4 rfl ?_
  refine lv_ladd hx hb dX6_writesHead_5 ?_
  refine x_topl (y := lN (rg + 1)) (lN_1 _) ?_
  refine lv_lstore_n (lv' := [(2, .long (lN (rg + 1))), (0, .ref (b 0)), (1, .int (nI nn))]) hx hb dX6_writesHead_6 rfl hl (by decide) rfl (fun ls hl => ?_)
  refine lv_aload_n hx hb dX6_writesHead_7 rfl (lv_at hl 1 rfl) ?_
  refine lv_lload_n hx hb dX6_writesHead_8 rfl (lv_at hl 0 rfl) ?_
  refine lv_ldc2 (v := lN 2) hx hb hown (hts _ (List.mem_cons_of_mem _ tw_738)) dX6_writesHead_9 ?_
  refine lv_lrem hx hb dX6_writesHead_12 (by decide) ?_
  refine x_topl (y := lN ((rg + 1) % 2)) (x_lrem2 (by omega)) ?_
  refine lv_l2i (v := nI ((rg + 1) % 2)) hx hb dX6_writesHead_13 (lN_i _) ?_
  refine x_callv (va_runV (As := [.int (nI ((rg + 1) % 2))]) (rest := []) ⟨hx, hb, hml, hown, hts⟩ (c_M_begin hrw ((rg + 1) % 2) (by omega)) (cwV 1 hts (tbV tw_694 tw_696 tw_65 tw_91 tw_697) rfl rfl rfl (by decide +kernel) ⟨Nat.le_of_ble_eq_true rfl, Nat.le_of_ble_eq_true rfl⟩) ⟨y_blind, va_recv hK hP (ci := 6) (q0 := 0) rfl rfl, y_pre hK hP hD⟩ rfl rfl hl.1 rfl (lv_room (Nat.le_of_ble_eq_true rfl)) dX6_writesHead_14 ⟨Nat.zero_le _, Nat.zero_le _⟩) hS (fun H locs hP hD hS => ?_)
  have hP : va_P (dC, dI) vwCl (wM b cB cI cL rb rd (rq + 1) (va_up rQ rq ((rg + 1) % 2)) (wz 64 rw (64 * rq)) (64 * rq) ro rn rk rv rf fN fF fB fR rl lB lR rt rg rx rz) H := hP
  have hD : va_D A (wM b cB cI cL rb rd (rq + 1) (va_up rQ rq ((rg + 1) % 2)) (wz 64 rw (64 * rq)) (64 * rq) ro rn rk rv rf fN fF fB fR rl lB lR rt rg rx rz) := hD
  refine lv_aload_n hx hb dX6_writesHead_17 rfl (lv_at hl 1 rfl) ?_
  refine lv_iconst (v := nI 0) hx hb dX6_writesHead_18 (by decide) ?_
  refine lv_ldc2 (v := lN 3) hx hb hown (hts _ (List.mem_cons_of_mem _ tw_743)) dX6_writesHead_19 ?_
  refine lv_iconst (v := nI 1) hx hb dX6_writesHead_22 (by decide) ?_
  refine x_callv (va_runV (As := [.int (nI 0), .long (lN 3), .int (nI 1)]) (rest := []) ⟨hx, hb, hml, hown, hts⟩ (c_M_putN (wz_lt hrw) 0 3 1 (by omega) (by omega) (by omega)) (cwV 3 hts (tbV tw_698 tw_700 tw_66 tw_91 tw_701) rfl rfl rfl (by decide +kernel) ⟨Nat.le_of_ble_eq_true rfl, Nat.le_of_ble_eq_true rfl⟩) ⟨y_blind, va_recv hK hP (ci := 6) (q0 := 0) rfl rfl, y_pre hK hP hD⟩ rfl rfl hl.1 rfl (lv_room (Nat.le_of_ble_eq_true rfl)) dX6_writesHead_23 ⟨Nat.zero_le _, Nat.zero_le _⟩) hS (fun H locs hP hD hS => ?_)
  have hP : va_P (dC, dI) vwCl (wM b cB cI cL rb rd (rq + 1) (va_up rQ rq ((rg + 1) % 2)) (pn1 1 (wz 64 rw (64 * rq)) (64 * rq + 0) 3) (64 * rq) ro rn rk rv rf fN fF fB fR rl lB lR rt rg rx rz) H := hP
  have hD : va_D A (wM b cB cI cL rb rd (rq + 1) (va_up rQ rq ((rg + 1) % 2)) (pn1 1 (wz 64 rw (64 * rq)) (64 * rq + 0) 3) (64 * rq) ro rn rk rv rf fN fF fB fR rl lB lR rt rg rx rz) := hD
  refine lv_aload_n hx hb dX6_writesHead_26 rfl (lv_at hl 1 rfl) ?_
  refine lv_iconst (v := nI 1) hx hb dX6_writesHead_27 (by decide) ?_
  refine lv_iload_n hx hb dX6_writesHead_28 rfl (lv_at hl 2 rfl) ?_
  refine lv_i2l (v := lN nn) hx hb dX6_writesHead_29 (nI_l (by omega)) ?_
  refine lv_iconst (v := nI 1) hx hb dX6_writesHead_30 (by decide) ?_
  refine x_callv (va_runV (As := [.int (nI 1), .long (lN nn), .int (nI 1)]) (rest := []) ⟨hx, hb, hml, hown, hts⟩ (c_M_putN (pn1_lt (wz_lt hrw)) 1 nn 1 (by omega) (by omega) (by omega)) (cwV 3 hts (tbV tw_698 tw_700 tw_66 tw_91 tw_701) rfl rfl rfl (by decide +kernel) ⟨Nat.le_of_ble_eq_true rfl, Nat.le_of_ble_eq_true rfl⟩) ⟨y_blind, va_recv hK hP (ci := 6) (q0 := 0) rfl rfl, y_pre hK hP hD⟩ rfl rfl hl.1 rfl (lv_room (Nat.le_of_ble_eq_true rfl)) dX6_writesHead_31 ⟨Nat.zero_le _, Nat.zero_le _⟩) hS (fun H locs hP hD hS => ?_)
  have hP : va_P (dC, dI) vwCl (wM b cB cI cL rb rd (rq + 1) (va_up rQ rq ((rg + 1) % 2)) (pn1 1 (pn1 1 (wz 64 rw (64 * rq)) (64 * rq + 0) 3) (64 * rq + 1) nn) (64 * rq) ro rn rk rv rf fN fF fB fR rl lB lR rt rg rx rz) H := hP
  have hD : va_D A (wM b cB cI cL rb rd (rq + 1) (va_up rQ rq ((rg + 1) % 2)) (pn1 1 (pn1 1 (wz 64 rw (64 * rq)) (64 * rq + 0) 3) (64 * rq + 1) nn) (64 * rq) ro rn rk rv rf fN fF fB fR rl lB lR rt rg rx rz) := hD
  refine lv_aload_n hx hb dX6_writesHead_34 rfl (lv_at hl 1 rfl) ?_
  refine lv_iconst (v := nI 2) hx hb dX6_writesHead_35 (by decide) ?_
  refine lv_lload_n hx hb dX6_writesHead_36 rfl (lv_at hl 0 rfl) ?_
  refine lv_bipush (v := nI 6) hx hb dX6_writesHead_37 (by decide) ?_
  refine x_callv (va_runV (As := [.int (nI 2), .long (lN (rg + 1)), .int (nI 6)]) (rest := []) ⟨hx, hb, hml, hown, hts⟩ (c_M_putN (pn1_lt (pn1_lt (wz_lt hrw))) 2 (rg + 1) 6 (by omega) (by omega) (by omega)) (cwV 3 hts (tbV tw_698 tw_700 tw_66 tw_91 tw_701) rfl rfl rfl (by decide +kernel) ⟨Nat.le_of_ble_eq_true rfl, Nat.le_of_ble_eq_true rfl⟩) ⟨y_blind, va_recv hK hP (ci := 6) (q0 := 0) rfl rfl, y_pre hK hP hD⟩ rfl rfl hl.1 rfl (lv_room (Nat.le_of_ble_eq_true rfl)) dX6_writesHead_39 ⟨Nat.zero_le _, Nat.zero_le _⟩) hS (fun H locs hP hD hS => ?_)
  have hP : va_P (dC, dI) vwCl (wM b cB cI cL rb rd (rq + 1) (va_up rQ rq ((rg + 1) % 2)) (pn1 6 (pn1 1 (pn1 1 (wz 64 rw (64 * rq)) (64 * rq + 0) 3) (64 * rq + 1) nn) (64 * rq + 2) (rg + 1)) (64 * rq) ro rn rk rv rf fN fF fB fR rl lB lR rt rg rx rz) H := hP
  have hD : va_D A (wM b cB cI cL rb rd (rq + 1) (va_up rQ rq ((rg + 1) % 2)) (pn1 6 (pn1 1 (pn1 1 (wz 64 rw (64 * rq)) (64 * rq + 0) 3) (64 * rq + 1) nn) (64 * rq + 2) (rg + 1)) (64 * rq) ro rn rk rv rf fN fF fB fR rl lB lR rt rg rx rz) := hD
  refine lv_iconst (v := nI 0) hx hb dX6_writesHead_42 (by decide) ?_
  refine lv_istore (lv' := [(4, .int (nI 0)), (2, .long (lN (rg + 1))), (0, .ref (b 0)), (1, .int (nI nn))]) hx hb dX6_writesHead_43 hl (by decide) rfl (fun ls hl => ?_)
  have L45 : ∀ (fu45 : Nat) (i : Nat) (g' : Nat → Nat), (nn - i < fu45) → (i ≤ nn) → (∀ q, g' q < 256) → (whL (64 * rq) fN fF fB fR (nn - i) i g' = whL (64 * rq) fN fF fB fR nn 0 (pn1 6 (pn1 1 (pn1 1 (wz 64 rw (64 * rq)) ((64 * rq) + 0) 3) ((64 * rq) + 1) nn) ((64 * rq) + 2) (rg + 1))) → ∀ (H : Heap) (locs : List Loc), va_P (dC, dI) vwCl (wM b cB cI cL rb rd (rq + 1) (va_up rQ rq ((rg + 1) % 2)) g' (64 * rq) ro rn rk rv rf fN fF fB fR rl lB lR rt rg rx rz) H → va_D A (wM b cB cI cL rb rd (rq + 1) (va_up rQ rq ((rg + 1) % 2)) g' (64 * rq) ro rn rk rv rf fN fF fB fR rl lB lR rt rg rx rz) → va_S A s.heap H locs → ∀ (ls : Array Slot), lv_has ls 5 [(0, .ref (b 0)), (1, .int (nI nn)), (2, .long (lN (rg + 1))), (4, .int (nI i))] → W p l e { frames := 2, cells := 0, slots := 0, locals := 45 } s m args below meth c H locs 0 0 Q (F0 m 45 ls []) := by
    intro fu45
    induction fu45 with
    | zero => intro i g' hm; exact absurd hm (Nat.not_lt_zero _)
    | succ fu45 ih45 =>
      intro i g' hm i45_0 i45_1 i45_2 H locs hP hD hS ls hl
      have q1 := hfN i
      have q2 := hfF i
      have q3 := hfB i
      have q4 := hfR i
      refine lv_iload hx hb dX6_writesHead_45 (lv_at hl 3 rfl) ?_
      refine lv_iload_n hx hb dX6_writesHead_47 rfl (lv_at hl 1 rfl) ?_
      refine x_icmp_ge (tgt := 141) hx hb dX6_writesHead_48 (by decide) (by omega) (by omega) (fun c48 => ?_) (fun c48 => ?_)
      · refine lv_aload_n hx hb dX6_writesHead_141 rfl (lv_at hl 0 rfl) ?_
        refine lv_bipush (v := nI 48) hx hb dX6_writesHead_142 (by decide) ?_
        refine lv_aload_n hx hb dX6_writesHead_144 rfl (lv_at hl 0 rfl) ?_
        refine va_get (D := (dC, dI)) (ci := 6) (v := .long (lN rx)) (C := RX6) (T := TX6) (N := 22) hx hb hts in_X6 hown hK hP 0 rfl rfl 20 (by decide) f87 (fun _ h9 => h9) rfl dX6_writesHead_145 ?_
        refine lv_bipush (v := nI 8) hx hb dX6_writesHead_148 (by decide) ?_
        refine x_callv (va_runV (As := [.int (nI 48), .long (lN rx), .int (nI 8)]) (rest := []) ⟨hx, hb, hml, hown, hts⟩ (c_M_putN i45_1 48 rx 8 (by omega) (by omega) (by omega)) (cwV 3 hts (tbV tw_698 tw_700 tw_66 tw_91 tw_701) rfl rfl rfl (by decide +kernel) ⟨Nat.le_of_ble_eq_true rfl, Nat.le_of_ble_eq_true rfl⟩) ⟨y_blind, va_recv hK hP (ci := 6) (q0 := 0) rfl rfl, y_pre hK hP hD⟩ rfl rfl hl.1 rfl (lv_room (Nat.le_of_ble_eq_true rfl)) dX6_writesHead_150 ⟨Nat.zero_le _, Nat.zero_le _⟩) hS (fun H locs hP hD hS => ?_)
        have hP : va_P (dC, dI) vwCl (wM b cB cI cL rb rd (rq + 1) (va_up rQ rq ((rg + 1) % 2)) (pn1 8 g' (64 * rq + 48) rx) (64 * rq) ro rn rk rv rf fN fF fB fR rl lB lR rt rg rx rz) H := hP
        have hD : va_D A (wM b cB cI cL rb rd (rq + 1) (va_up rQ rq ((rg + 1) % 2)) (pn1 8 g' (64 * rq + 48) rx) (64 * rq) ro rn rk rv rf fN fF fB fR rl lB lR rt rg rx rz) := hD
        refine lv_aload_n hx hb dX6_writesHead_153 rfl (lv_at hl 0 rfl) ?_
        refine x_callv (va_runV (As := []) (rest := []) ⟨hx, hb, hml, hown, hts⟩ (c_M_end (pn1_lt i45_1) (va_up_lt hrQ (by omega)) (by omega) (by omega) (by omega)) (cwV 0 hts (tbV tw_702 tw_704 tw_67 tw_91 tw_705) rfl rfl rfl (by decide +kernel) ⟨Nat.le_of_ble_eq_true rfl, Nat.le_of_ble_eq_true rfl⟩) ⟨y_blind, va_recv hK hP (ci := 6) (q0 := 0) rfl rfl, y_pre hK hP hD⟩ rfl rfl hl.1 rfl (lv_room (Nat.le_of_ble_eq_true rfl)) dX6_writesHead_154 ⟨Nat.zero_le _, Nat.zero_le _⟩) hS (fun H locs hP hD hS => ?_)
        have hP : va_P (dC, dI) vwCl (wM b cB cI cL rb rd (rq + 1) (va_up rQ rq ((rg + 1) % 2)) (en1 (pn1 8 g' (64 * rq + 48) rx) (64 * rq) ((va_up rQ rq ((rg + 1) % 2)) ((rq + 1) - 1))) (64 * rq) ro rn rk rv rf fN fF fB fR rl lB lR rt rg rx rz) H := hP
        have hD : va_D A (wM b cB cI cL rb rd (rq + 1) (va_up rQ rq ((rg + 1) % 2)) (en1 (pn1 8 g' (64 * rq + 48) rx) (64 * rq) ((va_up rQ rq ((rg + 1) % 2)) ((rq + 1) - 1))) (64 * rq) ro rn rk rv rf fN fF fB fR rl lB lR rt rg rx rz) := hD
        have e1 : (en1 (pn1 8 g' (64 * rq + 48) rx) (64 * rq) ((va_up rQ rq ((rg + 1) % 2)) ((rq + 1) - 1))) = (whG rq nn rg rx fN fF fB fR rw) := by have h := i45_2; rw [show nn - i = 0 by omega, whL] at h; rw [h]; show en1 _ _ (va_up rQ rq ((rg + 1) % 2) (rq + 1 - 1)) = _; rw [show rq + 1 - 1 = rq by omega, va_up_self]; rfl
        have h9 : wM b cB cI cL rb rd (rq + 1) (va_up rQ rq ((rg + 1) % 2)) (en1 (pn1 8 g' (64 * rq + 48) rx) (64 * rq) ((va_up rQ rq ((rg + 1) % 2)) ((rq + 1) - 1))) (64 * rq) ro rn rk rv rf fN fF fB fR rl lB lR rt rg rx rz = wM b cB cI cL rb rd (rq + 1) (va_up rQ rq ((rg + 1) % 2)) (whG rq nn rg rx fN fF fB fR rw) (64 * rq) ro rn rk rv rf fN fF fB fR rl lB lR rt rg rx rz := by rw [e1]
        have hP := x_wP h9 hP
        have hD := x_wD h9 hD
        exact hret dX6_writesHead_157 hP hD hS
      · refine lv_aload_n hx hb dX6_writesHead_51 rfl (lv_at hl 0 rfl) ?_
        refine lv_bipush (v := nI 8) hx hb dX6_writesHead_52 (by decide) ?_
        refine lv_bipush (v := nI 8) hx hb dX6_writesHead_54 (by decide) ?_
        refine lv_iload hx hb dX6_writesHead_56 (lv_at hl 3 rfl) ?_
        refine x_imul hx hb dX6_writesHead_58 ?_
        refine x_iadd hx hb dX6_writesHead_59 ?_
        refine lv_aload_n hx hb dX6_writesHead_60 rfl (lv_at hl 0 rfl) ?_
        refine va_get (D := (dC, dI)) (ci := 6) (v := .ref (b 6)) (C := RX6) (T := TX6) (N := 22) hx hb hts in_X6 hown hK hP 0 rfl rfl 11 (by decide) f27 (fun _ h9 => h9) rfl dX6_writesHead_61 ?_
        refine lv_iload hx hb dX6_writesHead_64 (lv_at hl 3 rfl) ?_
        refine x_iald hx hb hK hP 6 1 rfl rfl (by omega) (by decide) dX6_writesHead_66 ?_
        refine lv_i2l (v := lN (fN i)) hx hb dX6_writesHead_67 (nI_l (by omega)) ?_
        refine lv_iconst (v := nI 2) hx hb dX6_writesHead_68 (by decide) ?_
        refine x_callv (va_runV (As := [.int (nI (8 + (8 * i))), .long (lN (fN i)), .int (nI 2)]) (rest := []) ⟨hx, hb, hml, hown, hts⟩ (c_M_putN i45_1 (8 + (8 * i)) (fN i) 2 (by omega) (by omega) (by omega)) (cwV 3 hts (tbV tw_698 tw_700 tw_66 tw_91 tw_701) rfl rfl rfl (by decide +kernel) ⟨Nat.le_of_ble_eq_true rfl, Nat.le_of_ble_eq_true rfl⟩) ⟨y_blind, va_recv hK hP (ci := 6) (q0 := 0) rfl rfl, y_pre hK hP hD⟩ rfl rfl hl.1 rfl (lv_room (Nat.le_of_ble_eq_true rfl)) dX6_writesHead_69 ⟨Nat.zero_le _, Nat.zero_le _⟩) hS (fun H locs hP hD hS => ?_)
        have hP : va_P (dC, dI) vwCl (wM b cB cI cL rb rd (rq + 1) (va_up rQ rq ((rg + 1) % 2)) (pn1 2 g' (64 * rq + (8 + (8 * i))) (fN i)) (64 * rq) ro rn rk rv rf fN fF fB fR rl lB lR rt rg rx rz) H := hP
        have hD : va_D A (wM b cB cI cL rb rd (rq + 1) (va_up rQ rq ((rg + 1) % 2)) (pn1 2 g' (64 * rq + (8 + (8 * i))) (fN i)) (64 * rq) ro rn rk rv rf fN fF fB fR rl lB lR rt rg rx rz) := hD
        refine lv_aload_n hx hb dX6_writesHead_72 rfl (lv_at hl 0 rfl) ?_
        refine lv_bipush (v := nI 10) hx hb dX6_writesHead_73 (by decide) ?_
        refine lv_bipush (v := nI 8) hx hb dX6_writesHead_75 (by decide) ?_
        refine lv_iload hx hb dX6_writesHead_77 (lv_at hl 3 rfl) ?_
        refine x_imul hx hb dX6_writesHead_79 ?_
        refine x_iadd hx hb dX6_writesHead_80 ?_
        refine lv_aload_n hx hb dX6_writesHead_81 rfl (lv_at hl 0 rfl) ?_
        refine va_get (D := (dC, dI)) (ci := 6) (v := .ref (b 7)) (C := RX6) (T := TX6) (N := 22) hx hb hts in_X6 hown hK hP 0 rfl rfl 12 (by decide) f30 (fun _ h9 => h9) rfl dX6_writesHead_82 ?_
        refine lv_iload hx hb dX6_writesHead_85 (lv_at hl 3 rfl) ?_
        refine x_iald hx hb hK hP 7 1 rfl rfl (by omega) (by decide) dX6_writesHead_87 ?_
        refine lv_i2l (v := lN (fF i)) hx hb dX6_writesHead_88 (nI_l (by omega)) ?_
        refine lv_iconst (v := nI 2) hx hb dX6_writesHead_89 (by decide) ?_
        refine x_callv (va_runV (As := [.int (nI (10 + (8 * i))), .long (lN (fF i)), .int (nI 2)]) (rest := []) ⟨hx, hb, hml, hown, hts⟩ (c_M_putN (pn1_lt i45_1) (10 + (8 * i)) (fF i) 2 (by omega) (by omega) (by omega)) (cwV 3 hts (tbV tw_698 tw_700 tw_66 tw_91 tw_701) rfl rfl rfl (by decide +kernel) ⟨Nat.le_of_ble_eq_true rfl, Nat.le_of_ble_eq_true rfl⟩) ⟨y_blind, va_recv hK hP (ci := 6) (q0 := 0) rfl rfl, y_pre hK hP hD⟩ rfl rfl hl.1 rfl (lv_room (Nat.le_of_ble_eq_true rfl)) dX6_writesHead_90 ⟨Nat.zero_le _, Nat.zero_le _⟩) hS (fun H locs hP hD hS => ?_)
        have hP : va_P (dC, dI) vwCl (wM b cB cI cL rb rd (rq + 1) (va_up rQ rq ((rg + 1) % 2)) (pn1 2 (pn1 2 g' (64 * rq + (8 + (8 * i))) (fN i)) (64 * rq + (10 + (8 * i))) (fF i)) (64 * rq) ro rn rk rv rf fN fF fB fR rl lB lR rt rg rx rz) H := hP
        have hD : va_D A (wM b cB cI cL rb rd (rq + 1) (va_up rQ rq ((rg + 1) % 2)) (pn1 2 (pn1 2 g' (64 * rq + (8 + (8 * i))) (fN i)) (64 * rq + (10 + (8 * i))) (fF i)) (64 * rq) ro rn rk rv rf fN fF fB fR rl lB lR rt rg rx rz) := hD
        refine lv_aload_n hx hb dX6_writesHead_93 rfl (lv_at hl 0 rfl) ?_
        refine lv_bipush (v := nI 12) hx hb dX6_writesHead_94 (by decide) ?_
        refine lv_bipush (v := nI 8) hx hb dX6_writesHead_96 (by decide) ?_
        refine lv_iload hx hb dX6_writesHead_98 (lv_at hl 3 rfl) ?_
        refine x_imul hx hb dX6_writesHead_100 ?_
        refine x_iadd hx hb dX6_writesHead_101 ?_
        refine lv_aload_n hx hb dX6_writesHead_102 rfl (lv_at hl 0 rfl) ?_
        refine va_get (D := (dC, dI)) (ci := 6) (v := .ref (b 8)) (C := RX6) (T := TX6) (N := 22) hx hb hts in_X6 hown hK hP 0 rfl rfl 13 (by decide) f33 (fun _ h9 => h9) rfl dX6_writesHead_103 ?_
        refine lv_iload hx hb dX6_writesHead_106 (lv_at hl 3 rfl) ?_
        refine x_iald hx hb hK hP 8 1 rfl rfl (by omega) (by decide) dX6_writesHead_108 ?_
        refine lv_i2l (v := lN (fB i)) hx hb dX6_writesHead_109 (nI_l (by omega)) ?_
        refine lv_iconst (v := nI 2) hx hb dX6_writesHead_110 (by decide) ?_
        refine x_callv (va_runV (As := [.int (nI (12 + (8 * i))), .long (lN (fB i)), .int (nI 2)]) (rest := []) ⟨hx, hb, hml, hown, hts⟩ (c_M_putN (pn1_lt (pn1_lt i45_1)) (12 + (8 * i)) (fB i) 2 (by omega) (by omega) (by omega)) (cwV 3 hts (tbV tw_698 tw_700 tw_66 tw_91 tw_701) rfl rfl rfl (by decide +kernel) ⟨Nat.le_of_ble_eq_true rfl, Nat.le_of_ble_eq_true rfl⟩) ⟨y_blind, va_recv hK hP (ci := 6) (q0 := 0) rfl rfl, y_pre hK hP hD⟩ rfl rfl hl.1 rfl (lv_room (Nat.le_of_ble_eq_true rfl)) dX6_writesHead_111 ⟨Nat.zero_le _, Nat.zero_le _⟩) hS (fun H locs hP hD hS => ?_)
        have hP : va_P (dC, dI) vwCl (wM b cB cI cL rb rd (rq + 1) (va_up rQ rq ((rg + 1) % 2)) (pn1 2 (pn1 2 (pn1 2 g' (64 * rq + (8 + (8 * i))) (fN i)) (64 * rq + (10 + (8 * i))) (fF i)) (64 * rq + (12 + (8 * i))) (fB i)) (64 * rq) ro rn rk rv rf fN fF fB fR rl lB lR rt rg rx rz) H := hP
        have hD : va_D A (wM b cB cI cL rb rd (rq + 1) (va_up rQ rq ((rg + 1) % 2)) (pn1 2 (pn1 2 (pn1 2 g' (64 * rq + (8 + (8 * i))) (fN i)) (64 * rq + (10 + (8 * i))) (fF i)) (64 * rq + (12 + (8 * i))) (fB i)) (64 * rq) ro rn rk rv rf fN fF fB fR rl lB lR rt rg rx rz) := hD
        refine lv_aload_n hx hb dX6_writesHead_114 rfl (lv_at hl 0 rfl) ?_
        refine lv_bipush (v := nI 14) hx hb dX6_writesHead_115 (by decide) ?_
        refine lv_bipush (v := nI 8) hx hb dX6_writesHead_117 (by decide) ?_
        refine lv_iload hx hb dX6_writesHead_119 (lv_at hl 3 rfl) ?_
        refine x_imul hx hb dX6_writesHead_121 ?_
        refine x_iadd hx hb dX6_writesHead_122 ?_
        refine lv_aload_n hx hb dX6_writesHead_123 rfl (lv_at hl 0 rfl) ?_
        refine va_get (D := (dC, dI)) (ci := 6) (v := .ref (b 9)) (C := RX6) (T := TX6) (N := 22) hx hb hts in_X6 hown hK hP 0 rfl rfl 14 (by decide) f36 (fun _ h9 => h9) rfl dX6_writesHead_124 ?_
        refine lv_iload hx hb dX6_writesHead_127 (lv_at hl 3 rfl) ?_
        refine x_iald hx hb hK hP 9 1 rfl rfl (by omega) (by decide) dX6_writesHead_129 ?_
        refine lv_i2l (v := lN (fR i)) hx hb dX6_writesHead_130 (nI_l (by omega)) ?_
        refine lv_iconst (v := nI 2) hx hb dX6_writesHead_131 (by decide) ?_
        refine x_callv (va_runV (As := [.int (nI (14 + (8 * i))), .long (lN (fR i)), .int (nI 2)]) (rest := []) ⟨hx, hb, hml, hown, hts⟩ (c_M_putN (pn1_lt (pn1_lt (pn1_lt i45_1))) (14 + (8 * i)) (fR i) 2 (by omega) (by omega) (by omega)) (cwV 3 hts (tbV tw_698 tw_700 tw_66 tw_91 tw_701) rfl rfl rfl (by decide +kernel) ⟨Nat.le_of_ble_eq_true rfl, Nat.le_of_ble_eq_true rfl⟩) ⟨y_blind, va_recv hK hP (ci := 6) (q0 := 0) rfl rfl, y_pre hK hP hD⟩ rfl rfl hl.1 rfl (lv_room (Nat.le_of_ble_eq_true rfl)) dX6_writesHead_132 ⟨Nat.zero_le _, Nat.zero_le _⟩) hS (fun H locs hP hD hS => ?_)
        have hP : va_P (dC, dI) vwCl (wM b cB cI cL rb rd (rq + 1) (va_up rQ rq ((rg + 1) % 2)) (pn1 2 (pn1 2 (pn1 2 (pn1 2 g' (64 * rq + (8 + (8 * i))) (fN i)) (64 * rq + (10 + (8 * i))) (fF i)) (64 * rq + (12 + (8 * i))) (fB i)) (64 * rq + (14 + (8 * i))) (fR i)) (64 * rq) ro rn rk rv rf fN fF fB fR rl lB lR rt rg rx rz) H := hP
        have hD : va_D A (wM b cB cI cL rb rd (rq + 1) (va_up rQ rq ((rg + 1) % 2)) (pn1 2 (pn1 2 (pn1 2 (pn1 2 g' (64 * rq + (8 + (8 * i))) (fN i)) (64 * rq + (10 + (8 * i))) (fF i)) (64 * rq + (12 + (8 * i))) (fB i)) (64 * rq + (14 + (8 * i))) (fR i)) (64 * rq) ro rn rk rv rf fN fF fB fR rl lB lR rt rg rx rz) := hD
        refine lv_iinc (v := nI (i + 1)) (lv' := [(4, .int (nI (i + 1))), (0, .ref (b 0)), (1, .int (nI nn)), (2, .long (lN (rg + 1)))]) hx hb dX6_writesHead_135 hl (k := 3) rfl (x_inc _) (by decide) rfl (fun ls hl => ?_)
        refine lv_goto (tgt := 45) hx hb dX6_writesHead_138 (by decide) ?_
        exact ih45 (i + 1) (pn1 2 (pn1 2 (pn1 2 (pn1 2 g' (64 * rq + (8 + (8 * i))) (fN i)) (64 * rq + (10 + (8 * i))) (fF i)) (64 * rq + (12 + (8 * i))) (fB i)) (64 * rq + (14 + (8 * i))) (fR i)) (by omega) (by omega) (by exact pn1_lt (pn1_lt (pn1_lt (pn1_lt i45_1)))) (by have h := i45_2; rw [show nn - i = (nn - (i + 1)) + 1 by omega, whL] at h; exact h) _ _ hP hD hS ls (lv_sub hl [1, 2, 3, 0] rfl)
  exact L45 (nn - 0 + 1) 0 (pn1 6 (pn1 1 (pn1 1 (wz 64 rw (64 * rq)) ((64 * rq) + 0) 3) ((64 * rq) + 1) nn) ((64 * rq) + 2) (rg + 1)) (by omega) (by omega) (by exact pn1_lt (pn1_lt (pn1_lt (wz_lt hrw)))) (by rfl) _ _ hP hD hS ls (lv_sub hl [2, 3, 1, 0] rfl)

set_option maxHeartbeats 4000000 in
set_option maxRecDepth 100000 in
theorem c_M_reads {l : Launch} {dC : Nat → ClassId} {dI : Nat → Nat → Nat} {A : Nat → Prop} {b : Nat → Nat} {cB cI cL : ClassId} {rb : Nat} {rd : Nat → Nat} {rq : Nat} {rQ rw : Nat → Nat} {ra : Nat} {ro : Bool} {rn : Nat} {rk rv : Nat → Int64} {rf : Nat} {fN fF fB fR : Nat → Nat} {rl : Nat} {lB lR : Nat → Nat} {rt rg rx rz : Nat} (hrd : ∀ j, rd j < 256) (y k1 : Nat) (hy1 : y < 64) (hk1 : k1 ≤ 3) (hn1 : rn + k1 ≤ 220) : Met l yX6_reads (Cond.code yX6_reads cX6_reads 4 none :: TB) { frames := 1, cells := 0, slots := 0, locals := 25 } (xPre (fun _ => True) (dC, dI) A (tyS cB cI cL) (wM b cB cI cL rb rd rq rQ rw ra ro rn rk rv rf fN fF fB fR rl lB lR rt rg rx rz) [.ref (b 0), .int (nI y), .int (nI k1)]) (xQv (dC, dI) A (wM b cB cI cL rb rd rq rQ rw ra ro ((rds rd y k1 0 (rn, rk, rv)).1) ((rds rd y k1 0 (rn, rk, rv)).2.1) ((rds rd y k1 0 (rn, rk, rv)).2.2) rf fN fF fB fR rl lB lR rt rg rx rz)) 0 0 A := by
  refine x_ofWv (cc := cX6_reads) (maxL := 4) (by decide) rfl (Nat.le_of_ble_eq_true rfl) ?_
  intro p e s m args below meth c Q hx hb hml hts hown hK hN hP hD hS hret ls hl
  have hl : lv_has ls 4 [(0, .ref (b 0)), (1, .int (nI y)), (2, .int (nI k1))] := hl
  have hown : s.vm.findClass RX6 = some m.cls := hown
  have f20 := hts _ (List.mem_cons_of_mem _ tw_614)
  have in_X6 := (fun q hq => List.mem_cons_of_mem _ (inX6 q hq) : ∀ q ∈ wsX60, q ∈ (Cond.code yX6_reads cX6_reads 4 none :: TB))
  have f71 := hts _ (List.mem_cons_of_mem _ tw_613)
  have f7 := hts _ (List.mem_cons_of_mem _ tw_607)
  have f24 := hts _ (List.mem_cons_of_mem _ tw_615)
  refine lv_iconst (v := nI 0) hx hb dX6_reads_0 (by decide) ?_
  refine lv_istore_n (lv' := [(3, .int (nI 0)), (0, .ref (b 0)), (1, .int (nI y)), (2, .int (nI k1))]) hx hb dX6_reads_1 rfl hl (by decide) rfl (fun ls hl => ?_)
  have L2 : ∀ (fu2 : Nat) (j : Nat) (Z' : KS), (k1 - j < fu2) → (j ≤ k1) → (Z'.1 = rn + j) → (rds rd y (k1 - j) j Z' = rds rd y k1 0 (rn, rk, rv)) → ∀ (H : Heap) (locs : List Loc), va_P (dC, dI) vwCl (wM b cB cI cL rb rd rq rQ rw ra ro Z'.1 Z'.2.1 Z'.2.2 rf fN fF fB fR rl lB lR rt rg rx rz) H → va_D A (wM b cB cI cL rb rd rq rQ rw ra ro Z'.1 Z'.2.1 Z'.2.2 rf fN fF fB fR rl lB lR rt rg rx rz) → va_S A s.heap H locs → ∀ (ls : Array Slot), lv_has ls 4 [(0, .ref (b 0)), (1, .int (nI y)), (2, .int (nI k1)), (3, .int (nI j))] → W p l e { frames := 1, cells := 0, slots := 0, locals := 25 } s m args below meth c H locs 0 0 Q (F0 m 2 ls []) := by
    intro fu2
    induction fu2 with
    | zero => intro j Z' hm; exact absurd hm (Nat.not_lt_zero _)
    | succ fu2 ih2 =>
      intro j Z' hm i2_0 i2_1 i2_2 H locs hP hD hS ls hl
      refine lv_iload_n hx hb dX6_reads_2 rfl (lv_at hl 3 rfl) ?_
      refine lv_iload_n hx hb dX6_reads_3 rfl (lv_at hl 2 rfl) ?_
      refine x_icmp_ge (tgt := 80) hx hb dX6_reads_4 (by decide) (by omega) (by omega) (fun c4 => ?_) (fun c4 => ?_)
      · have zz := i2_2
        rw [show k1 - j = 0 by omega, rds] at zz
        have e1 : Z'.1 = ((rds rd y k1 0 (rn, rk, rv)).1) := by rw [zz]
        have h9 : wM b cB cI cL rb rd rq rQ rw ra ro Z'.1 Z'.2.1 Z'.2.2 rf fN fF fB fR rl lB lR rt rg rx rz = wM b cB cI cL rb rd rq rQ rw ra ro ((rds rd y k1 0 (rn, rk, rv)).1) Z'.2.1 Z'.2.2 rf fN fF fB fR rl lB lR rt rg rx rz := by rw [← e1]
        have hP := x_wP h9 hP
        have hD := x_wD h9 hD
        have e2 : Z'.2.1 = ((rds rd y k1 0 (rn, rk, rv)).2.1) := by rw [zz]
        have h9 : wM b cB cI cL rb rd rq rQ rw ra ro ((rds rd y k1 0 (rn, rk, rv)).1) Z'.2.1 Z'.2.2 rf fN fF fB fR rl lB lR rt rg rx rz = wM b cB cI cL rb rd rq rQ rw ra ro ((rds rd y k1 0 (rn, rk, rv)).1) ((rds rd y k1 0 (rn, rk, rv)).2.1) Z'.2.2 rf fN fF fB fR rl lB lR rt rg rx rz := by rw [← e2]
        have hP := x_wP h9 hP
        have hD := x_wD h9 hD
        have e3 : Z'.2.2 = ((rds rd y k1 0 (rn, rk, rv)).2.2) := by rw [zz]
        have h9 : wM b cB cI cL rb rd rq rQ rw ra ro ((rds rd y k1 0 (rn, rk, rv)).1) ((rds rd y k1 0 (rn, rk, rv)).2.1) Z'.2.2 rf fN fF fB fR rl lB lR rt rg rx rz = wM b cB cI cL rb rd rq rQ rw ra ro ((rds rd y k1 0 (rn, rk, rv)).1) ((rds rd y k1 0 (rn, rk, rv)).2.1) ((rds rd y k1 0 (rn, rk, rv)).2.2) rf fN fF fB fR rl lB lR rt rg rx rz := by rw [← e3]
        have hP := x_wP h9 hP
        have hD := x_wD h9 hD
        exact hret dX6_reads_80 hP hD hS
      · refine lv_aload_n hx hb dX6_reads_7 rfl (lv_at hl 0 rfl) ?_
        refine va_get (D := (dC, dI)) (ci := 6) (v := .ref (b 4)) (C := RX6) (T := TX6) (N := 22) hx hb hts in_X6 hown hK hP 0 rfl rfl 8 (by decide) f20 (fun _ h9 => h9) rfl dX6_reads_8 ?_
        refine lv_aload_n hx hb dX6_reads_11 rfl (lv_at hl 0 rfl) ?_
        refine va_get (D := (dC, dI)) (ci := 6) (v := .int (nI Z'.1)) (C := RX6) (T := TX6) (N := 22) hx hb hts in_X6 hown hK hP 0 rfl rfl 7 (by decide) f71 (fun _ h9 => h9) rfl dX6_reads_12 ?_
        refine lv_aload_n hx hb dX6_reads_15 rfl (lv_at hl 0 rfl) ?_
        refine va_get (D := (dC, dI)) (ci := 6) (v := .ref (b 1)) (C := RX6) (T := TX6) (N := 22) hx hb hts in_X6 hown hK hP 0 rfl rfl 1 (by decide) f7 (fun _ h9 => h9) rfl dX6_reads_16 ?_
        refine lv_bipush (v := nI 64) hx hb dX6_reads_19 (by decide) ?_
        refine lv_iload_n hx hb dX6_reads_21 rfl (lv_at hl 1 rfl) ?_
        refine x_imul hx hb dX6_reads_22 ?_
        refine lv_bipush (v := nI 8) hx hb dX6_reads_23 (by decide) ?_
        refine x_iadd hx hb dX6_reads_25 ?_
        refine lv_bipush (v := nI 16) hx hb dX6_reads_26 (by decide) ?_
        refine lv_iload_n hx hb dX6_reads_28 rfl (lv_at hl 3 rfl) ?_
        refine x_imul hx hb dX6_reads_29 ?_
        refine x_iadd hx hb dX6_reads_30 ?_
        refine lv_bipush (v := nI 8) hx hb dX6_reads_31 (by decide) ?_
        refine x_calll (va_runS (As := [.ref (b 1), .int (nI (((64 * y) + 8) + (16 * j))), .int (nI 8)]) (rest := [.int (nI Z'.1), .ref (b 4)]) ⟨hx, hb, hml, hown, hts⟩ (c_M_number (k1 := 1) (t1 := 0) (g := rd) rfl (tyS_B cB cI cL) (by decide) hrd (((64 * y) + 8) + (16 * j)) 8 (by omega) (by omega)) (va_cwS 3 hts (tbS tw_760 tw_761 tw_91 tw_762) rfl rfl rfl (by decide +kernel) ⟨Nat.le_of_ble_eq_true rfl, Nat.le_of_ble_eq_true rfl⟩) ⟨y_blind, y_pre hK hP hD⟩ rfl rfl hl.1 rfl (lv_room (Nat.le_of_ble_eq_true rfl)) dX6_reads_33 ⟨Nat.zero_le _, Nat.zero_le _⟩) hS (fun H locs hP hD hS => ?_)
        have hP : va_P (dC, dI) vwCl (wM b cB cI cL rb rd rq rQ rw ra ro Z'.1 Z'.2.1 Z'.2.2 rf fN fF fB fR rl lB lR rt rg rx rz) H := hP
        have hD : va_D A (wM b cB cI cL rb rd rq rQ rw ra ro Z'.1 Z'.2.1 Z'.2.2 rf fN fF fB fR rl lB lR rt rg rx rz) := hD
        have hv33 : nm1 rd 8 (((64 * y) + 8) + (16 * j)) < 18446744073709551616 := nm1_lt hrd 8 (((64 * y) + 8) + (16 * j))
        refine x_last hx hb hK hP hD hS 4 2 rfl rfl (by omega) (by decide) dX6_reads_36 (fun H locs hP hD hS => ?_)
        have hP : va_P (dC, dI) vwCl (wM b cB cI cL rb rd rq rQ rw ra ro Z'.1 (va_up Z'.2.1 Z'.1 (lN (nm1 rd 8 (((64 * y) + 8) + (16 * j))))) Z'.2.2 rf fN fF fB fR rl lB lR rt rg rx rz) H := hP
        have hD : va_D A (wM b cB cI cL rb rd rq rQ rw ra ro Z'.1 (va_up Z'.2.1 Z'.1 (lN (nm1 rd 8 (((64 * y) + 8) + (16 * j))))) Z'.2.2 rf fN fF fB fR rl lB lR rt rg rx rz) := hD
        refine lv_aload_n hx hb dX6_reads_37 rfl (lv_at hl 0 rfl) ?_
        refine va_get (D := (dC, dI)) (ci := 6) (v := .ref (b 5)) (C := RX6) (T := TX6) (N := 22) hx hb hts in_X6 hown hK hP 0 rfl rfl 9 (by decide) f24 (fun _ h9 => h9) rfl dX6_reads_38 ?_
        refine lv_aload_n hx hb dX6_reads_41 rfl (lv_at hl 0 rfl) ?_
        refine lv_dup hx hb dX6_reads_42 rfl ?_
        refine va_get (D := (dC, dI)) (ci := 6) (v := .int (nI Z'.1)) (C := RX6) (T := TX6) (N := 22) hx hb hts in_X6 hown hK hP 0 rfl rfl 7 (by decide) f71 (fun _ h9 => h9) rfl dX6_reads_43 ?_
        refine lv_dup_x1 hx hb dX6_reads_46 rfl rfl ?_
        refine lv_iconst (v := nI 1) hx hb dX6_reads_47 (by decide) ?_
        refine x_iadd hx hb dX6_reads_48 ?_
        refine va_put (D := (dC, dI)) (ci := 6) (v := .int (nI (Z'.1 + 1))) (ty := .int) (C := RX6) (T := TX6) (N := 22) hx hb hts in_X6 tyX6 tyX6_ok nmX6 hown hK hP hD hS 0 rfl rfl 7 (by decide) f71 (fun _ h9 => h9) rfl (by decide +kernel) rfl rfl (Nat.le_of_ble_eq_true rfl) dX6_reads_49 (fun H locs hP hD hS => ?_)
        have hP : va_P (dC, dI) vwCl (wM b cB cI cL rb rd rq rQ rw ra ro (Z'.1 + 1) (va_up Z'.2.1 Z'.1 (lN (nm1 rd 8 (((64 * y) + 8) + (16 * j))))) Z'.2.2 rf fN fF fB fR rl lB lR rt rg rx rz) H := hP
        have hD : va_D A (wM b cB cI cL rb rd rq rQ rw ra ro (Z'.1 + 1) (va_up Z'.2.1 Z'.1 (lN (nm1 rd 8 (((64 * y) + 8) + (16 * j))))) Z'.2.2 rf fN fF fB fR rl lB lR rt rg rx rz) := hD
        refine lv_aload_n hx hb dX6_reads_52 rfl (lv_at hl 0 rfl) ?_
        refine va_get (D := (dC, dI)) (ci := 6) (v := .ref (b 1)) (C := RX6) (T := TX6) (N := 22) hx hb hts in_X6 hown hK hP 0 rfl rfl 1 (by decide) f7 (fun _ h9 => h9) rfl dX6_reads_53 ?_
        refine lv_bipush (v := nI 64) hx hb dX6_reads_56 (by decide) ?_
        refine lv_iload_n hx hb dX6_reads_58 rfl (lv_at hl 1 rfl) ?_
        refine x_imul hx hb dX6_reads_59 ?_
        refine lv_bipush (v := nI 16) hx hb dX6_reads_60 (by decide) ?_
        refine x_iadd hx hb dX6_reads_62 ?_
        refine lv_bipush (v := nI 16) hx hb dX6_reads_63 (by decide) ?_
        refine lv_iload_n hx hb dX6_reads_65 rfl (lv_at hl 3 rfl) ?_
        refine x_imul hx hb dX6_reads_66 ?_
        refine x_iadd hx hb dX6_reads_67 ?_
        refine lv_bipush (v := nI 8) hx hb dX6_reads_68 (by decide) ?_
        refine x_calll (va_runS (As := [.ref (b 1), .int (nI (((64 * y) + 16) + (16 * j))), .int (nI 8)]) (rest := [.int (nI Z'.1), .ref (b 5)]) ⟨hx, hb, hml, hown, hts⟩ (c_M_number (k1 := 1) (t1 := 0) (g := rd) rfl (tyS_B cB cI cL) (by decide) hrd (((64 * y) + 16) + (16 * j)) 8 (by omega) (by omega)) (va_cwS 3 hts (tbS tw_760 tw_761 tw_91 tw_762) rfl rfl rfl (by decide +kernel) ⟨Nat.le_of_ble_eq_true rfl, Nat.le_of_ble_eq_true rfl⟩) ⟨y_blind, y_pre hK hP hD⟩ rfl rfl hl.1 rfl (lv_room (Nat.le_of_ble_eq_true rfl)) dX6_reads_70 ⟨Nat.zero_le _, Nat.zero_le _⟩) hS (fun H locs hP hD hS => ?_)
        have hP : va_P (dC, dI) vwCl (wM b cB cI cL rb rd rq rQ rw ra ro (Z'.1 + 1) (va_up Z'.2.1 Z'.1 (lN (nm1 rd 8 (((64 * y) + 8) + (16 * j))))) Z'.2.2 rf fN fF fB fR rl lB lR rt rg rx rz) H := hP
        have hD : va_D A (wM b cB cI cL rb rd rq rQ rw ra ro (Z'.1 + 1) (va_up Z'.2.1 Z'.1 (lN (nm1 rd 8 (((64 * y) + 8) + (16 * j))))) Z'.2.2 rf fN fF fB fR rl lB lR rt rg rx rz) := hD
        have hv70 : nm1 rd 8 (((64 * y) + 16) + (16 * j)) < 18446744073709551616 := nm1_lt hrd 8 (((64 * y) + 16) + (16 * j))
        refine x_last hx hb hK hP hD hS 5 2 rfl rfl (by omega) (by decide) dX6_reads_73 (fun H locs hP hD hS => ?_)
        have hP : va_P (dC, dI) vwCl (wM b cB cI cL rb rd rq rQ rw ra ro (Z'.1 + 1) (va_up Z'.2.1 Z'.1 (lN (nm1 rd 8 (((64 * y) + 8) + (16 * j))))) (va_up Z'.2.2 Z'.1 (lN (nm1 rd 8 (((64 * y) + 16) + (16 * j))))) rf fN fF fB fR rl lB lR rt rg rx rz) H := hP
        have hD : va_D A (wM b cB cI cL rb rd rq rQ rw ra ro (Z'.1 + 1) (va_up Z'.2.1 Z'.1 (lN (nm1 rd 8 (((64 * y) + 8) + (16 * j))))) (va_up Z'.2.2 Z'.1 (lN (nm1 rd 8 (((64 * y) + 16) + (16 * j))))) rf fN fF fB fR rl lB lR rt rg rx rz) := hD
        refine lv_iinc (v := nI (j + 1)) (lv' := [(3, .int (nI (j + 1))), (0, .ref (b 0)), (1, .int (nI y)), (2, .int (nI k1))]) hx hb dX6_reads_74 hl (k := 3) rfl (x_inc _) (by decide) rfl (fun ls hl => ?_)
        refine lv_goto (tgt := 2) hx hb dX6_reads_77 (by decide) ?_
        have e4 : (Z'.1 + 1) = ((rdS rd y j Z').1) := by rfl
        have e5 : (va_up Z'.2.1 Z'.1 (lN (nm1 rd 8 (((64 * y) + 8) + (16 * j))))) = ((rdS rd y j Z').2.1) := by rfl
        have e6 : (va_up Z'.2.2 Z'.1 (lN (nm1 rd 8 (((64 * y) + 16) + (16 * j))))) = ((rdS rd y j Z').2.2) := by rfl
        exact ih2 (j + 1) (rdS rd y j Z') (by omega) (by omega) (by show Z'.1 + 1 = rn + (j + 1); omega) (by have h := i2_2; rw [show k1 - j = (k1 - (j + 1)) + 1 by omega, rds] at h; exact h) _ _ (x_wP (by rw [← e4, e5, e6]) hP) (x_wD (by rw [← e4, e5, e6]) hD) hS ls (lv_sub hl [1, 2, 3, 0] rfl)
  have e7 : rn = ((rn, rk, rv).1) := by rfl
  have e8 : rk = ((rn, rk, rv).2.1) := by rfl
  have e9 : rv = ((rn, rk, rv).2.2) := by rfl
  exact L2 (k1 - 0 + 1) 0 (rn, rk, rv) (by omega) (by omega) (by rfl) (by rfl) _ _ (x_wP (by rw [← e7, ← e8, ← e9]) hP) (x_wD (by rw [← e7, ← e8, ← e9]) hD) hS ls (lv_sub hl [1, 2, 3, 0] rfl)

set_option maxHeartbeats 4000000 in
set_option maxRecDepth 100000 in
theorem c_M_isFileBlock {l : Launch} {dC : Nat → ClassId} {dI : Nat → Nat → Nat} {A : Nat → Prop} {b : Nat → Nat} {cB cI cL : ClassId} {rb : Nat} {rd : Nat → Nat} {rq : Nat} {rQ rw : Nat → Nat} {ra : Nat} {ro : Bool} {rn : Nat} {rk rv : Nat → Int64} {rf : Nat} {fN fF fB fR : Nat → Nat} {rl : Nat} {lB lR : Nat → Nat} {rt rg rx rz : Nat} (hrb : rb ≤ 64) (hrd : ∀ j, rd j < 256) (hfN : ∀ j, fN j < 1048576) (hfF : ∀ j, fF j < 1048576) (hfB : ∀ j, fB j < 1048576) (hfR : ∀ j, fR j < 1048576) (f1 p1 : Nat) (hf1 : f1 < 5) (hp1 : p1 < 2 ^ 20) (hr1 : 3 * p1 ≤ fR f1) : Met l yX6_isFileBlock (Cond.code yX6_isFileBlock cX6_isFileBlock 7 (some .boolean) :: TB) { frames := 2, cells := 0, slots := 0, locals := 46 } (xPre (fun _ => True) (dC, dI) A (tyS cB cI cL) (wM b cB cI cL rb rd rq rQ rw ra ro rn rk rv rf fN fF fB fR rl lB lR rt rg rx rz) [.ref (b 0), .int (nI f1), .int (nI p1)]) (xQi (dC, dI) A (bI (ibM rb rd fN fF fB fR f1 p1)) (wM b cB cI cL rb rd rq rQ rw ra ro rn rk rv rf fN fF fB fR rl lB lR rt rg rx rz)) 0 0 A := by
  refine x_ofWz (cc := cX6_isFileBlock) (maxL := 7) (by decide) rfl (Nat.le_of_ble_eq_true rfl) (x_narZ _) ?_
  intro p e s m args below meth c Q hx hb hml hts hown hK hN hP hD hS hret ls hl
  have hl : lv_has ls 7 [(0, .ref (b 0)), (1, .int (nI f1)), (2, .int (nI p1))] := hl
  have hown : s.vm.findClass RX6 = some m.cls := hown
  have q1 := hfN f1
  have q2 := hfF f1
  have q3 := hfB f1
  have q4 := hfR f1
  have q5 := hrd (64 * (fF f1 + p1))
  have q6 := hrd (64 * (fF f1 + p1) + 1)
  have f30 := hts _ (List.mem_cons_of_mem _ tw_618)
  have in_X6 := (fun q hq => List.mem_cons_of_mem _ (inX6 q hq) : ∀ q ∈ wsX60, q ∈ (Cond.code yX6_isFileBlock cX6_isFileBlock 7 (some .boolean) :: TB))
  have f99 := hts _ (List.mem_cons_of_mem _ tw_606)
  have f36 := hts _ (List.mem_cons_of_mem _ tw_620)
  have f7 := hts _ (List.mem_cons_of_mem _ tw_607)
  have f27 := hts _ (List.mem_cons_of_mem _ tw_617)
  have f33 := hts _ (List.mem_cons_of_mem _ tw_619)
  refine lv_aload_n hx hb dX6_isFileBlock_0 rfl (lv_at hl 0 rfl) ?_
  refine va_get (D := (dC, dI)) (ci := 6) (v := .ref (b 7)) (C := RX6) (T := TX6) (N := 22) hx hb hts in_X6 hown hK hP 0 rfl rfl 12 (by decide) f30 (fun _ h9 => h9) rfl dX6_isFileBlock_1 ?_
  refine lv_iload_n hx hb dX6_isFileBlock_4 rfl (lv_at hl 1 rfl) ?_
  refine x_iald hx hb hK hP 7 1 rfl rfl (by omega) (by decide) dX6_isFileBlock_5 ?_
  refine lv_iload_n hx hb dX6_isFileBlock_6 rfl (lv_at hl 2 rfl) ?_
  refine x_iadd hx hb dX6_isFileBlock_7 ?_
  refine lv_istore_n (lv' := [(3, .int (nI ((fF f1) + p1))), (0, .ref (b 0)), (1, .int (nI f1)), (2, .int (nI p1))]) hx hb dX6_isFileBlock_8 rfl hl (by decide) rfl (fun ls hl => ?_)
  refine lv_iload_n hx hb dX6_isFileBlock_9 rfl (lv_at hl 0 rfl) ?_
  refine lv_aload_n hx hb dX6_isFileBlock_10 rfl (lv_at hl 1 rfl) ?_
  refine va_get (D := (dC, dI)) (ci := 6) (v := .int (nI rb)) (C := RX6) (T := TX6) (N := 22) hx hb hts in_X6 hown hK hP 0 rfl rfl 0 (by decide) f99 (fun _ h9 => h9) rfl dX6_isFileBlock_11 ?_
  refine x_icmp_ge (tgt := 25) hx hb dX6_isFileBlock_14 (by decide) (by omega) (by omega) (fun c14 => ?_) (fun c14 => ?_)
  · refine lv_iconst (v := nI 0) hx hb dX6_isFileBlock_25 (by decide) ?_
    exact hret dX6_isFileBlock_26 (by first | exact ib_f (fun q => absurd q.1 (Nat.not_lt.mpr c14)) | exact ib_f (fun q => absurd (c22.symm.trans q.2.1) (by decide))) hP hD hS
  · refine lv_aload_n hx hb dX6_isFileBlock_17 rfl (lv_at hl 1 rfl) ?_
    refine lv_iload_n hx hb dX6_isFileBlock_18 rfl (lv_at hl 0 rfl) ?_
    refine x_calli (va_runV (As := [.int (nI ((fF f1) + p1))]) (rest := []) ⟨hx, hb, hml, hown, hts⟩ (c_M_isWhole hrd ((fF f1) + p1) (by omega)) (cwV 1 hts (tbV tw_763 tw_765 tw_75 tw_91 tw_766) rfl rfl rfl (by decide +kernel) ⟨Nat.le_of_ble_eq_true rfl, Nat.le_of_ble_eq_true rfl⟩) ⟨y_blind, va_recv hK hP (ci := 6) (q0 := 0) rfl rfl, y_pre hK hP hD⟩ rfl rfl hl.1 rfl (lv_room (Nat.le_of_ble_eq_true rfl)) dX6_isFileBlock_19 ⟨Nat.zero_le _, Nat.zero_le _⟩) hS (fun H locs hP hD hS => ?_)
    have hP : va_P (dC, dI) vwCl (wM b cB cI cL rb rd rq rQ rw ra ro rn rk rv rf fN fF fB fR rl lB lR rt rg rx rz) H := hP
    have hD : va_D A (wM b cB cI cL rb rd rq rQ rw ra ro rn rk rv rf fN fF fB fR rl lB lR rt rg rx rz) := hD
    refine x_if_ne_b (tgt := 27) hx hb dX6_isFileBlock_22 (by decide) (fun c22 => ?_) (fun c22 => ?_)
    · refine lv_bipush (v := nI 64) hx hb dX6_isFileBlock_27 (by decide) ?_
      refine lv_iload_n hx hb dX6_isFileBlock_29 rfl (lv_at hl 0 rfl) ?_
      refine x_imul hx hb dX6_isFileBlock_30 ?_
      refine lv_istore (lv' := [(4, .int (nI (64 * ((fF f1) + p1)))), (3, .int (nI ((fF f1) + p1))), (0, .ref (b 0)), (1, .int (nI f1)), (2, .int (nI p1))]) hx hb dX6_isFileBlock_31 hl (by decide) rfl (fun ls hl => ?_)
      refine lv_aload_n hx hb dX6_isFileBlock_33 rfl (lv_at hl 2 rfl) ?_
      refine va_get (D := (dC, dI)) (ci := 6) (v := .ref (b 9)) (C := RX6) (T := TX6) (N := 22) hx hb hts in_X6 hown hK hP 0 rfl rfl 14 (by decide) f36 (fun _ h9 => h9) rfl dX6_isFileBlock_34 ?_
      refine lv_iload_n hx hb dX6_isFileBlock_37 rfl (lv_at hl 3 rfl) ?_
      refine x_iald hx hb hK hP 9 1 rfl rfl (by omega) (by decide) dX6_isFileBlock_38 ?_
      refine lv_iconst (v := nI 3) hx hb dX6_isFileBlock_39 (by decide) ?_
      refine lv_iload_n hx hb dX6_isFileBlock_40 rfl (lv_at hl 4 rfl) ?_
      refine x_imul hx hb dX6_isFileBlock_41 ?_
      refine x_isub hx hb dX6_isFileBlock_42 (by omega) ?_
      refine lv_istore (lv' := [(5, .int (nI ((fR f1) - (3 * p1)))), (4, .int (nI (64 * ((fF f1) + p1)))), (3, .int (nI ((fF f1) + p1))), (0, .ref (b 0)), (1, .int (nI f1)), (2, .int (nI p1))]) hx hb dX6_isFileBlock_43 hl (by decide) rfl (fun ls hl => ?_)
      refine lv_iload hx hb dX6_isFileBlock_45 (lv_at hl 0 rfl) ?_
      refine lv_iconst (v := nI 3) hx hb dX6_isFileBlock_47 (by decide) ?_
      have L59 : ∀ (H : Heap) (locs : List Loc), va_P (dC, dI) vwCl (wM b cB cI cL rb rd rq rQ rw ra ro rn rk rv rf fN fF fB fR rl lB lR rt rg rx rz) H → va_D A (wM b cB cI cL rb rd rq rQ rw ra ro rn rk rv rf fN fF fB fR rl lB lR rt rg rx rz) → va_S A s.heap H locs → ∀ (ls : Array Slot), lv_has ls 7 [(0, .ref (b 0)), (1, .int (nI f1)), (2, .int (nI p1)), (3, .int (nI ((fF f1) + p1))), (4, .int (nI (64 * ((fF f1) + p1)))), (5, .int (nI ((fR f1) - (3 * p1)))), (6, .int (nI (min 3 (fR f1 - 3 * p1))))] → W p l e { frames := 2, cells := 0, slots := 0, locals := 46 } s m args below meth c H locs 0 0 Q (F0 m 59 ls []) := by
        intro   H locs hP hD hS ls hl
        refine lv_aload_n hx hb dX6_isFileBlock_59 rfl (lv_at hl 0 rfl) ?_
        refine va_get (D := (dC, dI)) (ci := 6) (v := .ref (b 1)) (C := RX6) (T := TX6) (N := 22) hx hb hts in_X6 hown hK hP 0 rfl rfl 1 (by decide) f7 (fun _ h9 => h9) rfl dX6_isFileBlock_60 ?_
        refine lv_iload hx hb dX6_isFileBlock_63 (lv_at hl 4 rfl) ?_
        refine x_bald hx hb hK hP 1 0 rfl rfl (by omega) (by decide) dX6_isFileBlock_65 ?_
        refine lv_iconst (v := nI 2) hx hb dX6_isFileBlock_66 (by decide) ?_
        refine lv_icmp_ne (tgt := 157) hx hb dX6_isFileBlock_67 (by decide) (fun c67 => ?_) (fun c67 => ?_)
        · have c67 : ¬ rd (64 * (fF f1 + p1)) = 2 := fun q => c67 ((sb_eq q5 (by decide)).mpr q)
          refine lv_iconst (v := nI 0) hx hb dX6_isFileBlock_157 (by decide) ?_
          exact hret dX6_isFileBlock_158 (by first | exact ib_t ⟨c14, c22, c67, c85, lN_inj (by omega) (by omega) c108, lN_inj (by omega) (by omega) c126, lN_inj (by omega) (by omega) c150⟩ | exact ib_f (fun q => c67 q.2.2.1) | exact ib_f (fun q => c85 q.2.2.2.1) | exact ib_f (fun q => c108 (by rw [q.2.2.2.2.1])) | exact ib_f (fun q => c126 (by rw [q.2.2.2.2.2.1])) | exact ib_f (fun q => c150 (by rw [q.2.2.2.2.2.2]))) hP hD hS
        · have c67 : rd (64 * (fF f1 + p1)) = 2 := (sb_eq q5 (by decide)).mp c67
          refine lv_aload_n hx hb dX6_isFileBlock_70 rfl (lv_at hl 0 rfl) ?_
          refine va_get (D := (dC, dI)) (ci := 6) (v := .ref (b 1)) (C := RX6) (T := TX6) (N := 22) hx hb hts in_X6 hown hK hP 0 rfl rfl 1 (by decide) f7 (fun _ h9 => h9) rfl dX6_isFileBlock_71 ?_
          refine lv_iload hx hb dX6_isFileBlock_74 (lv_at hl 4 rfl) ?_
          refine lv_iconst (v := nI 1) hx hb dX6_isFileBlock_76 (by decide) ?_
          refine x_iadd hx hb dX6_isFileBlock_77 ?_
          refine x_bald hx hb hK hP 1 0 rfl rfl (by omega) (by decide) dX6_isFileBlock_78 ?_
          refine lv_sipush (v := nI 255) hx hb dX6_isFileBlock_79 (by decide) ?_
          refine lv_iand hx hb dX6_isFileBlock_82 ?_
          refine x_top (y := nI (rd (64 * (fF f1 + p1) + 1))) (x_b255 (hrd _)) ?_
          refine lv_iload hx hb dX6_isFileBlock_83 (lv_at hl 6 rfl) ?_
          refine x_icmp_ne (tgt := 157) hx hb dX6_isFileBlock_85 (by decide) (by omega) (by omega) (fun c85 => ?_) (fun c85 => ?_)
          · refine lv_iconst (v := nI 0) hx hb dX6_isFileBlock_157 (by decide) ?_
            exact hret dX6_isFileBlock_158 (by first | exact ib_t ⟨c14, c22, c67, c85, lN_inj (by omega) (by omega) c108, lN_inj (by omega) (by omega) c126, lN_inj (by omega) (by omega) c150⟩ | exact ib_f (fun q => c67 q.2.2.1) | exact ib_f (fun q => c85 q.2.2.2.1) | exact ib_f (fun q => c108 (by rw [q.2.2.2.2.1])) | exact ib_f (fun q => c126 (by rw [q.2.2.2.2.2.1])) | exact ib_f (fun q => c150 (by rw [q.2.2.2.2.2.2]))) hP hD hS
          · refine lv_aload_n hx hb dX6_isFileBlock_88 rfl (lv_at hl 0 rfl) ?_
            refine va_get (D := (dC, dI)) (ci := 6) (v := .ref (b 1)) (C := RX6) (T := TX6) (N := 22) hx hb hts in_X6 hown hK hP 0 rfl rfl 1 (by decide) f7 (fun _ h9 => h9) rfl dX6_isFileBlock_89 ?_
            refine lv_iload hx hb dX6_isFileBlock_92 (lv_at hl 4 rfl) ?_
            refine lv_iconst (v := nI 2) hx hb dX6_isFileBlock_94 (by decide) ?_
            refine x_iadd hx hb dX6_isFileBlock_95 ?_
            refine lv_iconst (v := nI 2) hx hb dX6_isFileBlock_96 (by decide) ?_
            refine x_calll (va_runS (As := [.ref (b 1), .int (nI ((64 * ((fF f1) + p1)) + 2)), .int (nI 2)]) (rest := []) ⟨hx, hb, hml, hown, hts⟩ (c_M_number (k1 := 1) (t1 := 0) (g := rd) rfl (tyS_B cB cI cL) (by decide) hrd ((64 * ((fF f1) + p1)) + 2) 2 (by omega) (by omega)) (va_cwS 3 hts (tbS tw_760 tw_761 tw_91 tw_762) rfl rfl rfl (by decide +kernel) ⟨Nat.le_of_ble_eq_true rfl, Nat.le_of_ble_eq_true rfl⟩) ⟨y_blind, y_pre hK hP hD⟩ rfl rfl hl.1 rfl (lv_room (Nat.le_of_ble_eq_true rfl)) dX6_isFileBlock_97 ⟨Nat.zero_le _, Nat.zero_le _⟩) hS (fun H locs hP hD hS => ?_)
            have hP : va_P (dC, dI) vwCl (wM b cB cI cL rb rd rq rQ rw ra ro rn rk rv rf fN fF fB fR rl lB lR rt rg rx rz) H := hP
            have hD : va_D A (wM b cB cI cL rb rd rq rQ rw ra ro rn rk rv rf fN fF fB fR rl lB lR rt rg rx rz) := hD
            have hv97 : nm1 rd 2 ((64 * ((fF f1) + p1)) + 2) < 65536 := nm1_lt hrd 2 ((64 * ((fF f1) + p1)) + 2)
            refine lv_aload_n hx hb dX6_isFileBlock_100 rfl (lv_at hl 0 rfl) ?_
            refine va_get (D := (dC, dI)) (ci := 6) (v := .ref (b 6)) (C := RX6) (T := TX6) (N := 22) hx hb hts in_X6 hown hK hP 0 rfl rfl 11 (by decide) f27 (fun _ h9 => h9) rfl dX6_isFileBlock_101 ?_
            refine lv_iload_n hx hb dX6_isFileBlock_104 rfl (lv_at hl 1 rfl) ?_
            refine x_iald hx hb hK hP 6 1 rfl rfl (by omega) (by decide) dX6_isFileBlock_105 ?_
            refine lv_i2l (v := lN (fN f1)) hx hb dX6_isFileBlock_106 (nI_l (by omega)) ?_
            refine W.lcmp hx hb dX6_isFileBlock_107 ?_
            refine x_lif_ne (tgt := 157) hx hb dX6_isFileBlock_108 (by decide) (fun c108 => ?_) (fun c108 => ?_)
            · refine lv_iconst (v := nI 0) hx hb dX6_isFileBlock_157 (by decide) ?_
              exact hret dX6_isFileBlock_158 (by first | exact ib_t ⟨c14, c22, c67, c85, lN_inj (by omega) (by omega) c108, lN_inj (by omega) (by omega) c126, lN_inj (by omega) (by omega) c150⟩ | exact ib_f (fun q => c67 q.2.2.1) | exact ib_f (fun q => c85 q.2.2.2.1) | exact ib_f (fun q => c108 (by rw [q.2.2.2.2.1])) | exact ib_f (fun q => c126 (by rw [q.2.2.2.2.2.1])) | exact ib_f (fun q => c150 (by rw [q.2.2.2.2.2.2]))) hP hD hS
            · refine lv_aload_n hx hb dX6_isFileBlock_111 rfl (lv_at hl 0 rfl) ?_
              refine va_get (D := (dC, dI)) (ci := 6) (v := .ref (b 1)) (C := RX6) (T := TX6) (N := 22) hx hb hts in_X6 hown hK hP 0 rfl rfl 1 (by decide) f7 (fun _ h9 => h9) rfl dX6_isFileBlock_112 ?_
              refine lv_iload hx hb dX6_isFileBlock_115 (lv_at hl 4 rfl) ?_
              refine lv_iconst (v := nI 4) hx hb dX6_isFileBlock_117 (by decide) ?_
              refine x_iadd hx hb dX6_isFileBlock_118 ?_
              refine lv_iconst (v := nI 2) hx hb dX6_isFileBlock_119 (by decide) ?_
              refine x_calll (va_runS (As := [.ref (b 1), .int (nI ((64 * ((fF f1) + p1)) + 4)), .int (nI 2)]) (rest := []) ⟨hx, hb, hml, hown, hts⟩ (c_M_number (k1 := 1) (t1 := 0) (g := rd) rfl (tyS_B cB cI cL) (by decide) hrd ((64 * ((fF f1) + p1)) + 4) 2 (by omega) (by omega)) (va_cwS 3 hts (tbS tw_760 tw_761 tw_91 tw_762) rfl rfl rfl (by decide +kernel) ⟨Nat.le_of_ble_eq_true rfl, Nat.le_of_ble_eq_true rfl⟩) ⟨y_blind, y_pre hK hP hD⟩ rfl rfl hl.1 rfl (lv_room (Nat.le_of_ble_eq_true rfl)) dX6_isFileBlock_120 ⟨Nat.zero_le _, Nat.zero_le _⟩) hS (fun H locs hP hD hS => ?_)
              have hP : va_P (dC, dI) vwCl (wM b cB cI cL rb rd rq rQ rw ra ro rn rk rv rf fN fF fB fR rl lB lR rt rg rx rz) H := hP
              have hD : va_D A (wM b cB cI cL rb rd rq rQ rw ra ro rn rk rv rf fN fF fB fR rl lB lR rt rg rx rz) := hD
              have hv120 : nm1 rd 2 ((64 * ((fF f1) + p1)) + 4) < 65536 := nm1_lt hrd 2 ((64 * ((fF f1) + p1)) + 4)
              refine lv_iload_n hx hb dX6_isFileBlock_123 rfl (lv_at hl 2 rfl) ?_
              refine lv_i2l (v := lN p1) hx hb dX6_isFileBlock_124 (nI_l (by omega)) ?_
              refine W.lcmp hx hb dX6_isFileBlock_125 ?_
              refine x_lif_ne (tgt := 157) hx hb dX6_isFileBlock_126 (by decide) (fun c126 => ?_) (fun c126 => ?_)
              · refine lv_iconst (v := nI 0) hx hb dX6_isFileBlock_157 (by decide) ?_
                exact hret dX6_isFileBlock_158 (by first | exact ib_t ⟨c14, c22, c67, c85, lN_inj (by omega) (by omega) c108, lN_inj (by omega) (by omega) c126, lN_inj (by omega) (by omega) c150⟩ | exact ib_f (fun q => c67 q.2.2.1) | exact ib_f (fun q => c85 q.2.2.2.1) | exact ib_f (fun q => c108 (by rw [q.2.2.2.2.1])) | exact ib_f (fun q => c126 (by rw [q.2.2.2.2.2.1])) | exact ib_f (fun q => c150 (by rw [q.2.2.2.2.2.2]))) hP hD hS
              · refine lv_aload_n hx hb dX6_isFileBlock_129 rfl (lv_at hl 0 rfl) ?_
                refine va_get (D := (dC, dI)) (ci := 6) (v := .ref (b 1)) (C := RX6) (T := TX6) (N := 22) hx hb hts in_X6 hown hK hP 0 rfl rfl 1 (by decide) f7 (fun _ h9 => h9) rfl dX6_isFileBlock_130 ?_
                refine lv_iload hx hb dX6_isFileBlock_133 (lv_at hl 4 rfl) ?_
                refine lv_bipush (v := nI 6) hx hb dX6_isFileBlock_135 (by decide) ?_
                refine x_iadd hx hb dX6_isFileBlock_137 ?_
                refine lv_iconst (v := nI 2) hx hb dX6_isFileBlock_138 (by decide) ?_
                refine x_calll (va_runS (As := [.ref (b 1), .int (nI ((64 * ((fF f1) + p1)) + 6)), .int (nI 2)]) (rest := []) ⟨hx, hb, hml, hown, hts⟩ (c_M_number (k1 := 1) (t1 := 0) (g := rd) rfl (tyS_B cB cI cL) (by decide) hrd ((64 * ((fF f1) + p1)) + 6) 2 (by omega) (by omega)) (va_cwS 3 hts (tbS tw_760 tw_761 tw_91 tw_762) rfl rfl rfl (by decide +kernel) ⟨Nat.le_of_ble_eq_true rfl, Nat.le_of_ble_eq_true rfl⟩) ⟨y_blind, y_pre hK hP hD⟩ rfl rfl hl.1 rfl (lv_room (Nat.le_of_ble_eq_true rfl)) dX6_isFileBlock_139 ⟨Nat.zero_le _, Nat.zero_le _⟩) hS (fun H locs hP hD hS => ?_)
                have hP : va_P (dC, dI) vwCl (wM b cB cI cL rb rd rq rQ rw ra ro rn rk rv rf fN fF fB fR rl lB lR rt rg rx rz) H := hP
                have hD : va_D A (wM b cB cI cL rb rd rq rQ rw ra ro rn rk rv rf fN fF fB fR rl lB lR rt rg rx rz) := hD
                have hv139 : nm1 rd 2 ((64 * ((fF f1) + p1)) + 6) < 65536 := nm1_lt hrd 2 ((64 * ((fF f1) + p1)) + 6)
                refine lv_aload_n hx hb dX6_isFileBlock_142 rfl (lv_at hl 0 rfl) ?_
                refine va_get (D := (dC, dI)) (ci := 6) (v := .ref (b 8)) (C := RX6) (T := TX6) (N := 22) hx hb hts in_X6 hown hK hP 0 rfl rfl 13 (by decide) f33 (fun _ h9 => h9) rfl dX6_isFileBlock_143 ?_
                refine lv_iload_n hx hb dX6_isFileBlock_146 rfl (lv_at hl 1 rfl) ?_
                refine x_iald hx hb hK hP 8 1 rfl rfl (by omega) (by decide) dX6_isFileBlock_147 ?_
                refine lv_i2l (v := lN (fB f1)) hx hb dX6_isFileBlock_148 (nI_l (by omega)) ?_
                refine W.lcmp hx hb dX6_isFileBlock_149 ?_
                refine x_lif_ne (tgt := 157) hx hb dX6_isFileBlock_150 (by decide) (fun c150 => ?_) (fun c150 => ?_)
                · refine lv_iconst (v := nI 0) hx hb dX6_isFileBlock_157 (by decide) ?_
                  exact hret dX6_isFileBlock_158 (by first | exact ib_t ⟨c14, c22, c67, c85, lN_inj (by omega) (by omega) c108, lN_inj (by omega) (by omega) c126, lN_inj (by omega) (by omega) c150⟩ | exact ib_f (fun q => c67 q.2.2.1) | exact ib_f (fun q => c85 q.2.2.2.1) | exact ib_f (fun q => c108 (by rw [q.2.2.2.2.1])) | exact ib_f (fun q => c126 (by rw [q.2.2.2.2.2.1])) | exact ib_f (fun q => c150 (by rw [q.2.2.2.2.2.2]))) hP hD hS
                · refine lv_iconst (v := nI 1) hx hb dX6_isFileBlock_153 (by decide) ?_
                  refine lv_goto (tgt := 158) hx hb dX6_isFileBlock_154 (by decide) ?_
                  exact hret dX6_isFileBlock_158 (by first | exact ib_t ⟨c14, c22, c67, c85, lN_inj (by omega) (by omega) c108, lN_inj (by omega) (by omega) c126, lN_inj (by omega) (by omega) c150⟩ | exact ib_f (fun q => c67 q.2.2.1) | exact ib_f (fun q => c85 q.2.2.2.1) | exact ib_f (fun q => c108 (by rw [q.2.2.2.2.1])) | exact ib_f (fun q => c126 (by rw [q.2.2.2.2.2.1])) | exact ib_f (fun q => c150 (by rw [q.2.2.2.2.2.2]))) hP hD hS
      refine x_icmp_ge (tgt := 56) hx hb dX6_isFileBlock_48 (by decide) (by omega) (by omega) (fun c48 => ?_) (fun c48 => ?_)
      · refine lv_iconst (v := nI 3) hx hb dX6_isFileBlock_56 (by decide) ?_
        refine lv_istore (lv' := [(6, .int (nI 3)), (5, .int (nI ((fR f1) - (3 * p1)))), (4, .int (nI (64 * ((fF f1) + p1)))), (3, .int (nI ((fF f1) + p1))), (0, .ref (b 0)), (1, .int (nI f1)), (2, .int (nI p1))]) hx hb dX6_isFileBlock_57 hl (by decide) rfl (fun ls hl => ?_)
        have e1 : 3 = (min 3 (fR f1 - 3 * p1)) := by omega
        exact L59  _ _ hP hD hS ls (x_lvc (l1 := [(0, .ref (b 0)), (1, .int (nI f1)), (2, .int (nI p1)), (3, .int (nI ((fF f1) + p1))), (4, .int (nI (64 * ((fF f1) + p1)))), (5, .int (nI ((fR f1) - (3 * p1)))), (6, .int (nI 3))]) (by rw [← e1]) (lv_sub hl [4, 5, 6, 3, 2, 1, 0] rfl))
      · refine lv_iload hx hb dX6_isFileBlock_51 (lv_at hl 0 rfl) ?_
        refine lv_goto (tgt := 57) hx hb dX6_isFileBlock_53 (by decide) ?_
        refine lv_istore (lv' := [(6, .int (nI ((fR f1) - (3 * p1)))), (5, .int (nI ((fR f1) - (3 * p1)))), (4, .int (nI (64 * ((fF f1) + p1)))), (3, .int (nI ((fF f1) + p1))), (0, .ref (b 0)), (1, .int (nI f1)), (2, .int (nI p1))]) hx hb dX6_isFileBlock_57 hl (by decide) rfl (fun ls hl => ?_)
        have e2 : ((fR f1) - (3 * p1)) = (min 3 (fR f1 - 3 * p1)) := by omega
        exact L59  _ _ hP hD hS ls (x_lvc (l1 := [(0, .ref (b 0)), (1, .int (nI f1)), (2, .int (nI p1)), (3, .int (nI ((fF f1) + p1))), (4, .int (nI (64 * ((fF f1) + p1)))), (5, .int (nI ((fR f1) - (3 * p1)))), (6, .int (nI ((fR f1) - (3 * p1))))]) (by rw [← e2]) (lv_sub hl [4, 5, 6, 3, 2, 1, 0] rfl))
    · refine lv_iconst (v := nI 0) hx hb dX6_isFileBlock_25 (by decide) ?_
      exact hret dX6_isFileBlock_26 (by first | exact ib_f (fun q => absurd q.1 (Nat.not_lt.mpr c14)) | exact ib_f (fun q => absurd (c22.symm.trans q.2.1) (by decide))) hP hD hS

set_option maxHeartbeats 4000000 in
set_option maxRecDepth 100000 in
theorem c_M_isLog {l : Launch} {dC : Nat → ClassId} {dI : Nat → Nat → Nat} {A : Nat → Prop} {b : Nat → Nat} {cB cI cL : ClassId} {rb : Nat} {rd : Nat → Nat} {rq : Nat} {rQ rw : Nat → Nat} {ra : Nat} {ro : Bool} {rn : Nat} {rk rv : Nat → Int64} {rf : Nat} {fN fF fB fR : Nat → Nat} {rl : Nat} {lB lR : Nat → Nat} {rt rg rx rz : Nat} (hrd : ∀ j, rd j < 256) (hrf : rf ≤ 5) (hfF : ∀ j, fF j < 1048576) (hfB : ∀ j, fB j < 1048576) (y : Nat) (hy1 : y < 64) : Met l yX6_isLog (Cond.code yX6_isLog cX6_isLog 2 (some .boolean) :: TB) { frames := 2, cells := 0, slots := 0, locals := 46 } (xPre (fun _ => True) (dC, dI) A (tyS cB cI cL) (wM b cB cI cL rb rd rq rQ rw ra ro rn rk rv rf fN fF fB fR rl lB lR rt rg rx rz) [.ref (b 0), .int (nI y)]) (xQi (dC, dI) A (bI (ilM rd fF fB rf y)) (wM b cB cI cL rb rd rq rQ rw ra ro rn rk rv rf fN fF fB fR rl lB lR rt rg rx rz)) 0 0 A := by
  refine x_ofWz (cc := cX6_isLog) (maxL := 2) (by decide) rfl (Nat.le_of_ble_eq_true rfl) (x_narZ _) ?_
  intro p e s m args below meth c Q hx hb hml hts hown hK hN hP hD hS hret ls hl
  have hl : lv_has ls 2 [(0, .ref (b 0)), (1, .int (nI y))] := hl
  have hown : s.vm.findClass RX6 = some m.cls := hown
  have q5 := hrd (64 * y)
  have f7 := hts _ (List.mem_cons_of_mem _ tw_607)
  have in_X6 := (fun q hq => List.mem_cons_of_mem _ (inX6 q hq) : ∀ q ∈ wsX60, q ∈ (Cond.code yX6_isLog cX6_isLog 2 (some .boolean) :: TB))
  refine lv_aload_n hx hb dX6_isLog_0 rfl (lv_at hl 0 rfl) ?_
  refine lv_iload_n hx hb dX6_isLog_1 rfl (lv_at hl 1 rfl) ?_
  refine x_calli (va_runV (As := [.int (nI y)]) (rest := []) ⟨hx, hb, hml, hown, hts⟩ (c_M_isOfFiles (by omega) hfF hfB y (by omega)) (cwV 1 hts (tbV tw_686 tw_688 tw_63 tw_91 tw_689) rfl rfl rfl (by decide +kernel) ⟨Nat.le_of_ble_eq_true rfl, Nat.le_of_ble_eq_true rfl⟩) ⟨y_blind, va_recv hK hP (ci := 6) (q0 := 0) rfl rfl, y_pre hK hP hD⟩ rfl rfl hl.1 rfl (lv_room (Nat.le_of_ble_eq_true rfl)) dX6_isLog_2 ⟨Nat.zero_le _, Nat.zero_le _⟩) hS (fun H locs hP hD hS => ?_)
  have hP : va_P (dC, dI) vwCl (wM b cB cI cL rb rd rq rQ rw ra ro rn rk rv rf fN fF fB fR rl lB lR rt rg rx rz) H := hP
  have hD : va_D A (wM b cB cI cL rb rd rq rQ rw ra ro rn rk rv rf fN fF fB fR rl lB lR rt rg rx rz) := hD
  refine x_if_ne_b (tgt := 33) hx hb dX6_isLog_5 (by decide) (fun c5 => ?_) (fun c5 => ?_)
  · refine lv_iconst (v := nI 0) hx hb dX6_isLog_33 (by decide) ?_
    exact hret dX6_isLog_34 (by first | exact il_t ⟨c5, c13, c26⟩ | exact il_f (fun q => absurd (c5.symm.trans q.1) (by decide)) | exact il_f (fun q => absurd (c13.symm.trans q.2.1) (by decide)) | exact il_f (fun q => c26 q.2.2)) hP hD hS
  · refine lv_aload_n hx hb dX6_isLog_8 rfl (lv_at hl 0 rfl) ?_
    refine lv_iload_n hx hb dX6_isLog_9 rfl (lv_at hl 1 rfl) ?_
    refine x_calli (va_runV (As := [.int (nI y)]) (rest := []) ⟨hx, hb, hml, hown, hts⟩ (c_M_isWhole hrd y (by omega)) (cwV 1 hts (tbV tw_763 tw_765 tw_75 tw_91 tw_766) rfl rfl rfl (by decide +kernel) ⟨Nat.le_of_ble_eq_true rfl, Nat.le_of_ble_eq_true rfl⟩) ⟨y_blind, va_recv hK hP (ci := 6) (q0 := 0) rfl rfl, y_pre hK hP hD⟩ rfl rfl hl.1 rfl (lv_room (Nat.le_of_ble_eq_true rfl)) dX6_isLog_10 ⟨Nat.zero_le _, Nat.zero_le _⟩) hS (fun H locs hP hD hS => ?_)
    have hP : va_P (dC, dI) vwCl (wM b cB cI cL rb rd rq rQ rw ra ro rn rk rv rf fN fF fB fR rl lB lR rt rg rx rz) H := hP
    have hD : va_D A (wM b cB cI cL rb rd rq rQ rw ra ro rn rk rv rf fN fF fB fR rl lB lR rt rg rx rz) := hD
    refine x_if_eq_b (tgt := 33) hx hb dX6_isLog_13 (by decide) (fun c13 => ?_) (fun c13 => ?_)
    · refine lv_iconst (v := nI 0) hx hb dX6_isLog_33 (by decide) ?_
      exact hret dX6_isLog_34 (by first | exact il_t ⟨c5, c13, c26⟩ | exact il_f (fun q => absurd (c5.symm.trans q.1) (by decide)) | exact il_f (fun q => absurd (c13.symm.trans q.2.1) (by decide)) | exact il_f (fun q => c26 q.2.2)) hP hD hS
    · refine lv_aload_n hx hb dX6_isLog_16 rfl (lv_at hl 0 rfl) ?_
      refine va_get (D := (dC, dI)) (ci := 6) (v := .ref (b 1)) (C := RX6) (T := TX6) (N := 22) hx hb hts in_X6 hown hK hP 0 rfl rfl 1 (by decide) f7 (fun _ h9 => h9) rfl dX6_isLog_17 ?_
      refine lv_bipush (v := nI 64) hx hb dX6_isLog_20 (by decide) ?_
      refine lv_iload_n hx hb dX6_isLog_22 rfl (lv_at hl 1 rfl) ?_
      refine x_imul hx hb dX6_isLog_23 ?_
      refine x_bald hx hb hK hP 1 0 rfl rfl (by omega) (by decide) dX6_isLog_24 ?_
      refine lv_iconst (v := nI 1) hx hb dX6_isLog_25 (by decide) ?_
      refine lv_icmp_ne (tgt := 33) hx hb dX6_isLog_26 (by decide) (fun c26 => ?_) (fun c26 => ?_)
      · have c26 : ¬ rd (64 * y) = 1 := fun q => c26 ((sb_eq q5 (by decide)).mpr q)
        refine lv_iconst (v := nI 0) hx hb dX6_isLog_33 (by decide) ?_
        exact hret dX6_isLog_34 (by first | exact il_t ⟨c5, c13, c26⟩ | exact il_f (fun q => absurd (c5.symm.trans q.1) (by decide)) | exact il_f (fun q => absurd (c13.symm.trans q.2.1) (by decide)) | exact il_f (fun q => c26 q.2.2)) hP hD hS
      · have c26 : rd (64 * y) = 1 := (sb_eq q5 (by decide)).mp c26
        refine lv_iconst (v := nI 1) hx hb dX6_isLog_29 (by decide) ?_
        refine lv_goto (tgt := 34) hx hb dX6_isLog_30 (by decide) ?_
        exact hret dX6_isLog_34 (by first | exact il_t ⟨c5, c13, c26⟩ | exact il_f (fun q => absurd (c5.symm.trans q.1) (by decide)) | exact il_f (fun q => absurd (c13.symm.trans q.2.1) (by decide)) | exact il_f (fun q => c26 q.2.2)) hP hD hS

set_option maxHeartbeats 4000000 in
set_option maxRecDepth 100000 in
theorem c_M_isFile {l : Launch} {dC : Nat → ClassId} {dI : Nat → Nat → Nat} {A : Nat → Prop} {b : Nat → Nat} {cB cI cL : ClassId} {rb : Nat} {rd : Nat → Nat} {rq : Nat} {rQ rw : Nat → Nat} {ra : Nat} {ro : Bool} {rn : Nat} {rk rv : Nat → Int64} {rf : Nat} {fN fF fB fR : Nat → Nat} {rl : Nat} {lB lR : Nat → Nat} {rt rg rx rz : Nat} (hrd : ∀ j, rd j < 256) (at1 fr1 bf : Nat) (ha1 : at1 + 8 ≤ 4096) (hf1 : fr1 + 8 * bf ≤ 4096) : Met l yX6_isFile (Cond.code yX6_isFile cX6_isFile 15 (some .boolean) :: TB) { frames := 1, cells := 0, slots := 0, locals := 25 } (xPre (fun _ => True) (dC, dI) A (tyS cB cI cL) (wM b cB cI cL rb rd rq rQ rw ra ro rn rk rv rf fN fF fB fR rl lB lR rt rg rx rz) [.ref (b 0), .int (nI at1), .int (nI fr1), .int (nI bf)]) (xQi (dC, dI) A (bI (ifl rd at1 fr1 bf)) (wM b cB cI cL rb rd rq rQ rw ra ro rn rk rv rf fN fF fB fR rl lB lR rt rg rx rz)) 0 0 A := by
  refine x_ofWz (cc := cX6_isFile) (maxL := 15) (by decide) rfl (Nat.le_of_ble_eq_true rfl) (x_narZ _) ?_
  intro p e s m args below meth c Q hx hb hml hts hown hK hN hP hD hS hret ls hl
  have hl : lv_has ls 15 [(0, .ref (b 0)), (1, .int (nI at1)), (2, .int (nI fr1)), (3, .int (nI bf))] := hl
  have hown : s.vm.findClass RX6 = some m.cls := hown
  have w2 := nm1_lt hrd 2 (at1 + 2)
  have w2 : nm1 rd 2 (at1 + 2) < 65536 := w2
  have w4 := nm1_lt hrd 2 (at1 + 4)
  have w4 : nm1 rd 2 (at1 + 4) < 65536 := w4
  have w6 := nm1_lt hrd 2 (at1 + 6)
  have w6 : nm1 rd 2 (at1 + 6) < 65536 := w6
  have f7 := hts _ (List.mem_cons_of_mem _ tw_607)
  have in_X6 := (fun q hq => List.mem_cons_of_mem _ (inX6 q hq) : ∀ q ∈ wsX60, q ∈ (Cond.code yX6_isFile cX6_isFile 15 (some .boolean) :: TB))
  refine lv_aload_n hx hb dX6_isFile_0 rfl (lv_at hl 0 rfl) ?_
  refine va_get (D := (dC, dI)) (ci := 6) (v := .ref (b 1)) (C := RX6) (T := TX6) (N := 22) hx hb hts in_X6 hown hK hP 0 rfl rfl 1 (by decide) f7 (fun _ h9 => h9) rfl dX6_isFile_1 ?_
  refine lv_iload_n hx hb dX6_isFile_4 rfl (lv_at hl 1 rfl) ?_
  refine lv_iconst (v := nI 2) hx hb dX6_isFile_5 (by decide) ?_
  refine x_iadd hx hb dX6_isFile_6 ?_
  refine lv_iconst (v := nI 2) hx hb dX6_isFile_7 (by decide) ?_
  refine x_calll (va_runS (As := [.ref (b 1), .int (nI (at1 + 2)), .int (nI 2)]) (rest := []) ⟨hx, hb, hml, hown, hts⟩ (c_M_number (k1 := 1) (t1 := 0) (g := rd) rfl (tyS_B cB cI cL) (by decide) hrd (at1 + 2) 2 (by omega) (by omega)) (va_cwS 3 hts (tbS tw_760 tw_761 tw_91 tw_762) rfl rfl rfl (by decide +kernel) ⟨Nat.le_of_ble_eq_true rfl, Nat.le_of_ble_eq_true rfl⟩) ⟨y_blind, y_pre hK hP hD⟩ rfl rfl hl.1 rfl (lv_room (Nat.le_of_ble_eq_true rfl)) dX6_isFile_8 ⟨Nat.zero_le _, Nat.zero_le _⟩) hS (fun H locs hP hD hS => ?_)
  have hP : va_P (dC, dI) vwCl (wM b cB cI cL rb rd rq rQ rw ra ro rn rk rv rf fN fF fB fR rl lB lR rt rg rx rz) H := hP
  have hD : va_D A (wM b cB cI cL rb rd rq rQ rw ra ro rn rk rv rf fN fF fB fR rl lB lR rt rg rx rz) := hD
  have hv8 : nm1 rd 2 (at1 + 2) < 65536 := nm1_lt hrd 2 (at1 + 2)
  refine lv_lstore (lv' := [(4, .long (lN (nm1 rd 2 (at1 + 2)))), (0, .ref (b 0)), (1, .int (nI at1)), (2, .int (nI fr1)), (3, .int (nI bf))]) hx hb dX6_isFile_11 hl (by decide) rfl (fun ls hl => ?_)
  refine lv_aload_n hx hb dX6_isFile_13 rfl (lv_at hl 1 rfl) ?_
  refine va_get (D := (dC, dI)) (ci := 6) (v := .ref (b 1)) (C := RX6) (T := TX6) (N := 22) hx hb hts in_X6 hown hK hP 0 rfl rfl 1 (by decide) f7 (fun _ h9 => h9) rfl dX6_isFile_14 ?_
  refine lv_iload_n hx hb dX6_isFile_17 rfl (lv_at hl 2 rfl) ?_
  refine lv_iconst (v := nI 4) hx hb dX6_isFile_18 (by decide) ?_
  refine x_iadd hx hb dX6_isFile_19 ?_
  refine lv_iconst (v := nI 2) hx hb dX6_isFile_20 (by decide) ?_
  refine x_calll (va_runS (As := [.ref (b 1), .int (nI (at1 + 4)), .int (nI 2)]) (rest := []) ⟨hx, hb, hml, hown, hts⟩ (c_M_number (k1 := 1) (t1 := 0) (g := rd) rfl (tyS_B cB cI cL) (by decide) hrd (at1 + 4) 2 (by omega) (by omega)) (va_cwS 3 hts (tbS tw_760 tw_761 tw_91 tw_762) rfl rfl rfl (by decide +kernel) ⟨Nat.le_of_ble_eq_true rfl, Nat.le_of_ble_eq_true rfl⟩) ⟨y_blind, y_pre hK hP hD⟩ rfl rfl hl.1 rfl (lv_room (Nat.le_of_ble_eq_true rfl)) dX6_isFile_21 ⟨Nat.zero_le _, Nat.zero_le _⟩) hS (fun H locs hP hD hS => ?_)
  have hP : va_P (dC, dI) vwCl (wM b cB cI cL rb rd rq rQ rw ra ro rn rk rv rf fN fF fB fR rl lB lR rt rg rx rz) H := hP
  have hD : va_D A (wM b cB cI cL rb rd rq rQ rw ra ro rn rk rv rf fN fF fB fR rl lB lR rt rg rx rz) := hD
  have hv21 : nm1 rd 2 (at1 + 4) < 65536 := nm1_lt hrd 2 (at1 + 4)
  refine lv_lstore (lv' := [(6, .long (lN (nm1 rd 2 (at1 + 4)))), (4, .long (lN (nm1 rd 2 (at1 + 2)))), (0, .ref (b 0)), (1, .int (nI at1)), (2, .int (nI fr1)), (3, .int (nI bf))]) hx hb dX6_isFile_24 hl (by decide) rfl (fun ls hl => ?_)
  refine lv_aload_n hx hb dX6_isFile_26 rfl (lv_at hl 2 rfl) ?_
  refine va_get (D := (dC, dI)) (ci := 6) (v := .ref (b 1)) (C := RX6) (T := TX6) (N := 22) hx hb hts in_X6 hown hK hP 0 rfl rfl 1 (by decide) f7 (fun _ h9 => h9) rfl dX6_isFile_27 ?_
  refine lv_iload_n hx hb dX6_isFile_30 rfl (lv_at hl 3 rfl) ?_
  refine lv_bipush (v := nI 6) hx hb dX6_isFile_31 (by decide) ?_
  refine x_iadd hx hb dX6_isFile_33 ?_
  refine lv_iconst (v := nI 2) hx hb dX6_isFile_34 (by decide) ?_
  refine x_calll (va_runS (As := [.ref (b 1), .int (nI (at1 + 6)), .int (nI 2)]) (rest := []) ⟨hx, hb, hml, hown, hts⟩ (c_M_number (k1 := 1) (t1 := 0) (g := rd) rfl (tyS_B cB cI cL) (by decide) hrd (at1 + 6) 2 (by omega) (by omega)) (va_cwS 3 hts (tbS tw_760 tw_761 tw_91 tw_762) rfl rfl rfl (by decide +kernel) ⟨Nat.le_of_ble_eq_true rfl, Nat.le_of_ble_eq_true rfl⟩) ⟨y_blind, y_pre hK hP hD⟩ rfl rfl hl.1 rfl (lv_room (Nat.le_of_ble_eq_true rfl)) dX6_isFile_35 ⟨Nat.zero_le _, Nat.zero_le _⟩) hS (fun H locs hP hD hS => ?_)
  have hP : va_P (dC, dI) vwCl (wM b cB cI cL rb rd rq rQ rw ra ro rn rk rv rf fN fF fB fR rl lB lR rt rg rx rz) H := hP
  have hD : va_D A (wM b cB cI cL rb rd rq rQ rw ra ro rn rk rv rf fN fF fB fR rl lB lR rt rg rx rz) := hD
  have hv35 : nm1 rd 2 (at1 + 6) < 65536 := nm1_lt hrd 2 (at1 + 6)
  refine lv_lstore (lv' := [(8, .long (lN (nm1 rd 2 (at1 + 6)))), (6, .long (lN (nm1 rd 2 (at1 + 4)))), (4, .long (lN (nm1 rd 2 (at1 + 2)))), (0, .ref (b 0)), (1, .int (nI at1)), (2, .int (nI fr1)), (3, .int (nI bf))]) hx hb dX6_isFile_38 hl (by decide) rfl (fun ls hl => ?_)
  refine lv_lload hx hb dX6_isFile_40 (lv_at hl 2 rfl) ?_
  refine lv_ldc2 (v := lN 2) hx hb hown (hts _ (List.mem_cons_of_mem _ tw_738)) dX6_isFile_42 ?_
  refine W.lcmp hx hb dX6_isFile_45 ?_
  refine x_lif_lt (tgt := 80) hx hb dX6_isFile_46 (by decide) (fun c46 => ?_) (fun c46 => ?_)
  · have c46 : nm1 rd 2 (at1 + 2) < 2 := (pk_lLT (by omega) (by omega)).mp c46
    refine lv_iconst (v := nI 0) hx hb dX6_isFile_80 (by decide) ?_
    exact hret dX6_isFile_81 (by exact ifl_f (by omega)) hP hD hS
  · have c46 : 2 ≤ nm1 rd 2 (at1 + 2) := Nat.le_of_not_lt (fun q => c46 ((pk_lLT (by omega) (by omega)).mpr q))
    refine lv_lload hx hb dX6_isFile_49 (lv_at hl 1 rfl) ?_
    refine lv_lconst (v := lN 1) hx hb dX6_isFile_51 rfl ?_
    refine W.lcmp hx hb dX6_isFile_52 ?_
    refine x_lif_lt (tgt := 80) hx hb dX6_isFile_53 (by decide) (fun c53 => ?_) (fun c53 => ?_)
    · have c53 : nm1 rd 2 (at1 + 4) < 1 := (pk_lLT (by omega) (by omega)).mp c53
      refine lv_iconst (v := nI 0) hx hb dX6_isFile_80 (by decide) ?_
      exact hret dX6_isFile_81 (by exact ifl_f (by omega)) hP hD hS
    · have c53 : 1 ≤ nm1 rd 2 (at1 + 4) := Nat.le_of_not_lt (fun q => c53 ((pk_lLT (by omega) (by omega)).mpr q))
      refine lv_lload hx hb dX6_isFile_56 (lv_at hl 0 rfl) ?_
      refine lv_ldc2 (v := lN 3) hx hb hown (hts _ (List.mem_cons_of_mem _ tw_743)) dX6_isFile_58 ?_
      refine lv_lload hx hb dX6_isFile_61 (lv_at hl 1 rfl) ?_
      refine lv_lmul hx hb dX6_isFile_63 ?_
      refine x_topl (y := lN (3 * nm1 rd 2 (at1 + 4))) (lN_mul _ _) ?_
      refine lv_ldc2 (v := lN 2) hx hb hown (hts _ (List.mem_cons_of_mem _ tw_738)) dX6_isFile_64 ?_
      refine lv_lsub hx hb dX6_isFile_67 ?_
      refine x_topl (y := lN (3 * nm1 rd 2 (at1 + 4) - 2)) (lN_sub (by omega)) ?_
      refine lv_ldc2 (v := lN 3) hx hb hown (hts _ (List.mem_cons_of_mem _ tw_743)) dX6_isFile_68 ?_
      refine lv_lload hx hb dX6_isFile_71 (lv_at hl 1 rfl) ?_
      refine lv_lmul hx hb dX6_isFile_73 ?_
      refine x_topl (y := lN (3 * nm1 rd 2 (at1 + 4))) (lN_mul _ _) ?_
      refine x_calli (va_runS (As := [.long (lN (nm1 rd 2 (at1 + 6))), .long (lN (3 * nm1 rd 2 (at1 + 4) - 2)), .long (lN (3 * nm1 rd 2 (at1 + 4)))]) (rest := []) ⟨hx, hb, hml, hown, hts⟩ (c_M_isInN (nm1 rd 2 (at1 + 6)) (3 * nm1 rd 2 (at1 + 4) - 2) (3 * nm1 rd 2 (at1 + 4)) (by omega) (by omega) (by omega)) (va_cwS 3 hts (tbS tw_599 tw_600 tw_91 tw_601) rfl rfl rfl (by decide +kernel) ⟨Nat.le_of_ble_eq_true rfl, Nat.le_of_ble_eq_true rfl⟩) ⟨y_blind, y_pre hK hP hD⟩ rfl rfl hl.1 rfl (lv_room (Nat.le_of_ble_eq_true rfl)) dX6_isFile_74 ⟨Nat.zero_le _, Nat.zero_le _⟩) hS (fun H locs hP hD hS => ?_)
      have hP : va_P (dC, dI) vwCl (wM b cB cI cL rb rd rq rQ rw ra ro rn rk rv rf fN fF fB fR rl lB lR rt rg rx rz) H := hP
      have hD : va_D A (wM b cB cI cL rb rd rq rQ rw ra ro rn rk rv rf fN fF fB fR rl lB lR rt rg rx rz) := hD
      refine x_if_ne_b (tgt := 82) hx hb dX6_isFile_77 (by decide) (fun c77 => ?_) (fun c77 => ?_)
      · have c77 := of_decide_eq_true c77
        refine lv_iconst (v := nI 0) hx hb dX6_isFile_82 (by decide) ?_
        refine lv_istore (lv' := [(10, .int (nI 0)), (8, .long (lN (nm1 rd 2 (at1 + 6)))), (6, .long (lN (nm1 rd 2 (at1 + 4)))), (4, .long (lN (nm1 rd 2 (at1 + 2)))), (0, .ref (b 0)), (1, .int (nI at1)), (2, .int (nI fr1)), (3, .int (nI bf))]) hx hb dX6_isFile_83 hl (by decide) rfl (fun ls hl => ?_)
        have L85 : ∀ (fu85 : Nat) (i : Nat), (bf - i < fu85) → (i ≤ bf) → (iflL rd at1 fr1 (bf - i) i = iflL rd at1 fr1 bf 0) → ∀ (H : Heap) (locs : List Loc), va_P (dC, dI) vwCl (wM b cB cI cL rb rd rq rQ rw ra ro rn rk rv rf fN fF fB fR rl lB lR rt rg rx rz) H → va_D A (wM b cB cI cL rb rd rq rQ rw ra ro rn rk rv rf fN fF fB fR rl lB lR rt rg rx rz) → va_S A s.heap H locs → ∀ (ls : Array Slot), lv_has ls 15 [(0, .ref (b 0)), (1, .int (nI at1)), (2, .int (nI fr1)), (3, .int (nI bf)), (4, .long (lN (nm1 rd 2 (at1 + 2)))), (6, .long (lN (nm1 rd 2 (at1 + 4)))), (8, .long (lN (nm1 rd 2 (at1 + 6)))), (10, .int (nI i))] → W p l e { frames := 1, cells := 0, slots := 0, locals := 25 } s m args below meth c H locs 0 0 Q (F0 m 85 ls []) := by
          intro fu85
          induction fu85 with
          | zero => intro i hm; exact absurd hm (Nat.not_lt_zero _)
          | succ fu85 ih85 =>
            intro i hm i85_0 i85_1 H locs hP hD hS ls hl
            refine lv_iload hx hb dX6_isFile_85 (lv_at hl 7 rfl) ?_
            refine lv_iload_n hx hb dX6_isFile_87 rfl (lv_at hl 3 rfl) ?_
            refine x_icmp_ge (tgt := 159) hx hb dX6_isFile_88 (by decide) (by omega) (by omega) (fun c88 => ?_) (fun c88 => ?_)
            · refine lv_iconst (v := nI 1) hx hb dX6_isFile_159 (by decide) ?_
              exact hret dX6_isFile_160 (by have h := i85_1; rw [show bf - i = 0 by omega, iflL] at h; exact ifl_y (by omega) h.symm) hP hD hS
            · refine lv_aload_n hx hb dX6_isFile_91 rfl (lv_at hl 0 rfl) ?_
              refine va_get (D := (dC, dI)) (ci := 6) (v := .ref (b 1)) (C := RX6) (T := TX6) (N := 22) hx hb hts in_X6 hown hK hP 0 rfl rfl 1 (by decide) f7 (fun _ h9 => h9) rfl dX6_isFile_92 ?_
              refine lv_iload_n hx hb dX6_isFile_95 rfl (lv_at hl 2 rfl) ?_
              refine lv_bipush (v := nI 8) hx hb dX6_isFile_96 (by decide) ?_
              refine lv_iload hx hb dX6_isFile_98 (lv_at hl 7 rfl) ?_
              refine x_imul hx hb dX6_isFile_100 ?_
              refine x_iadd hx hb dX6_isFile_101 ?_
              refine lv_iconst (v := nI 2) hx hb dX6_isFile_102 (by decide) ?_
              refine x_iadd hx hb dX6_isFile_103 ?_
              refine lv_iconst (v := nI 2) hx hb dX6_isFile_104 (by decide) ?_
              refine x_calll (va_runS (As := [.ref (b 1), .int (nI ((fr1 + (8 * i)) + 2)), .int (nI 2)]) (rest := []) ⟨hx, hb, hml, hown, hts⟩ (c_M_number (k1 := 1) (t1 := 0) (g := rd) rfl (tyS_B cB cI cL) (by decide) hrd ((fr1 + (8 * i)) + 2) 2 (by omega) (by omega)) (va_cwS 3 hts (tbS tw_760 tw_761 tw_91 tw_762) rfl rfl rfl (by decide +kernel) ⟨Nat.le_of_ble_eq_true rfl, Nat.le_of_ble_eq_true rfl⟩) ⟨y_blind, y_pre hK hP hD⟩ rfl rfl hl.1 rfl (lv_room (Nat.le_of_ble_eq_true rfl)) dX6_isFile_105 ⟨Nat.zero_le _, Nat.zero_le _⟩) hS (fun H locs hP hD hS => ?_)
              have hP : va_P (dC, dI) vwCl (wM b cB cI cL rb rd rq rQ rw ra ro rn rk rv rf fN fF fB fR rl lB lR rt rg rx rz) H := hP
              have hD : va_D A (wM b cB cI cL rb rd rq rQ rw ra ro rn rk rv rf fN fF fB fR rl lB lR rt rg rx rz) := hD
              have hv105 : nm1 rd 2 ((fr1 + (8 * i)) + 2) < 65536 := nm1_lt hrd 2 ((fr1 + (8 * i)) + 2)
              refine lv_lstore (lv' := [(11, .long (lN (nm1 rd 2 ((fr1 + (8 * i)) + 2)))), (0, .ref (b 0)), (1, .int (nI at1)), (2, .int (nI fr1)), (3, .int (nI bf)), (4, .long (lN (nm1 rd 2 (at1 + 2)))), (6, .long (lN (nm1 rd 2 (at1 + 4)))), (8, .long (lN (nm1 rd 2 (at1 + 6)))), (10, .int (nI i))]) hx hb dX6_isFile_108 hl (by decide) rfl (fun ls hl => ?_)
              refine lv_aload_n hx hb dX6_isFile_110 rfl (lv_at hl 1 rfl) ?_
              refine va_get (D := (dC, dI)) (ci := 6) (v := .ref (b 1)) (C := RX6) (T := TX6) (N := 22) hx hb hts in_X6 hown hK hP 0 rfl rfl 1 (by decide) f7 (fun _ h9 => h9) rfl dX6_isFile_111 ?_
              refine lv_iload_n hx hb dX6_isFile_114 rfl (lv_at hl 3 rfl) ?_
              refine lv_bipush (v := nI 8) hx hb dX6_isFile_115 (by decide) ?_
              refine lv_iload hx hb dX6_isFile_117 (lv_at hl 8 rfl) ?_
              refine x_imul hx hb dX6_isFile_119 ?_
              refine x_iadd hx hb dX6_isFile_120 ?_
              refine lv_iconst (v := nI 4) hx hb dX6_isFile_121 (by decide) ?_
              refine x_iadd hx hb dX6_isFile_122 ?_
              refine lv_iconst (v := nI 2) hx hb dX6_isFile_123 (by decide) ?_
              refine x_calll (va_runS (As := [.ref (b 1), .int (nI ((fr1 + (8 * i)) + 4)), .int (nI 2)]) (rest := []) ⟨hx, hb, hml, hown, hts⟩ (c_M_number (k1 := 1) (t1 := 0) (g := rd) rfl (tyS_B cB cI cL) (by decide) hrd ((fr1 + (8 * i)) + 4) 2 (by omega) (by omega)) (va_cwS 3 hts (tbS tw_760 tw_761 tw_91 tw_762) rfl rfl rfl (by decide +kernel) ⟨Nat.le_of_ble_eq_true rfl, Nat.le_of_ble_eq_true rfl⟩) ⟨y_blind, y_pre hK hP hD⟩ rfl rfl hl.1 rfl (lv_room (Nat.le_of_ble_eq_true rfl)) dX6_isFile_124 ⟨Nat.zero_le _, Nat.zero_le _⟩) hS (fun H locs hP hD hS => ?_)
              have hP : va_P (dC, dI) vwCl (wM b cB cI cL rb rd rq rQ rw ra ro rn rk rv rf fN fF fB fR rl lB lR rt rg rx rz) H := hP
              have hD : va_D A (wM b cB cI cL rb rd rq rQ rw ra ro rn rk rv rf fN fF fB fR rl lB lR rt rg rx rz) := hD
              have hv124 : nm1 rd 2 ((fr1 + (8 * i)) + 4) < 65536 := nm1_lt hrd 2 ((fr1 + (8 * i)) + 4)
              refine lv_lstore (lv' := [(13, .long (lN (nm1 rd 2 ((fr1 + (8 * i)) + 4)))), (11, .long (lN (nm1 rd 2 ((fr1 + (8 * i)) + 2)))), (0, .ref (b 0)), (1, .int (nI at1)), (2, .int (nI fr1)), (3, .int (nI bf)), (4, .long (lN (nm1 rd 2 (at1 + 2)))), (6, .long (lN (nm1 rd 2 (at1 + 4)))), (8, .long (lN (nm1 rd 2 (at1 + 6)))), (10, .int (nI i))]) hx hb dX6_isFile_127 hl (by decide) rfl (fun ls hl => ?_)
              refine lv_lload hx hb dX6_isFile_129 (lv_at hl 6 rfl) ?_
              refine lv_lload hx hb dX6_isFile_131 (lv_at hl 1 rfl) ?_
              refine lv_lload hx hb dX6_isFile_133 (lv_at hl 0 rfl) ?_
              refine lv_ladd hx hb dX6_isFile_135 ?_
              refine x_topl (y := lN (nm1 rd 2 (fr1 + 8 * i + 2) + nm1 rd 2 (fr1 + 8 * i + 4))) (lN_add _ _) ?_
              refine W.lcmp hx hb dX6_isFile_136 ?_
              refine x_lif_ge (tgt := 153) hx hb dX6_isFile_137 (by decide) (fun c137 => ?_) (fun c137 => ?_)
              · have c137 : nm1 rd 2 (fr1 + 8 * i + 2) + nm1 rd 2 (fr1 + 8 * i + 4) ≤ nm1 rd 2 (at1 + 2) := (pk_lLE (by omega) (by omega)).mp c137
                refine lv_iinc (v := nI (i + 1)) (lv' := [(10, .int (nI (i + 1))), (13, .long (lN (nm1 rd 2 ((fr1 + (8 * i)) + 4)))), (11, .long (lN (nm1 rd 2 ((fr1 + (8 * i)) + 2)))), (0, .ref (b 0)), (1, .int (nI at1)), (2, .int (nI fr1)), (3, .int (nI bf)), (4, .long (lN (nm1 rd 2 (at1 + 2)))), (6, .long (lN (nm1 rd 2 (at1 + 4)))), (8, .long (lN (nm1 rd 2 (at1 + 6))))]) hx hb dX6_isFile_153 hl (k := 9) rfl (x_inc _) (by decide) rfl (fun ls hl => ?_)
                refine lv_goto (tgt := 85) hx hb dX6_isFile_156 (by decide) ?_
                exact ih85 (i + 1) (by omega) (by omega) (by have h := i85_1; have hh : ¬ (nm1 rd 2 (at1 + 2) < nm1 rd 2 (fr1 + 8 * i + 2) + nm1 rd 2 (fr1 + 8 * i + 4) ∧ nm1 rd 2 (fr1 + 8 * i + 2) < nm1 rd 2 (at1 + 2) + nm1 rd 2 (at1 + 4)) := (by omega); rw [show bf - i = (bf - (i + 1)) + 1 by omega, iflL, if_neg hh] at h; exact h) _ _ hP hD hS ls (lv_sub hl [3, 4, 5, 6, 7, 8, 9, 0] rfl)
              · have c137 : nm1 rd 2 (at1 + 2) < nm1 rd 2 (fr1 + 8 * i + 2) + nm1 rd 2 (fr1 + 8 * i + 4) := Nat.lt_of_not_le (fun q => c137 ((pk_lLE (by omega) (by omega)).mpr q))
                refine lv_lload hx hb dX6_isFile_140 (lv_at hl 1 rfl) ?_
                refine lv_lload hx hb dX6_isFile_142 (lv_at hl 6 rfl) ?_
                refine lv_lload hx hb dX6_isFile_144 (lv_at hl 7 rfl) ?_
                refine lv_ladd hx hb dX6_isFile_146 ?_
                refine x_topl (y := lN (nm1 rd 2 (at1 + 2) + nm1 rd 2 (at1 + 4))) (lN_add _ _) ?_
                refine W.lcmp hx hb dX6_isFile_147 ?_
                refine x_lif_ge (tgt := 153) hx hb dX6_isFile_148 (by decide) (fun c148 => ?_) (fun c148 => ?_)
                · have c148 : nm1 rd 2 (at1 + 2) + nm1 rd 2 (at1 + 4) ≤ nm1 rd 2 (fr1 + 8 * i + 2) := (pk_lLE (by omega) (by omega)).mp c148
                  refine lv_iinc (v := nI (i + 1)) (lv' := [(10, .int (nI (i + 1))), (13, .long (lN (nm1 rd 2 ((fr1 + (8 * i)) + 4)))), (11, .long (lN (nm1 rd 2 ((fr1 + (8 * i)) + 2)))), (0, .ref (b 0)), (1, .int (nI at1)), (2, .int (nI fr1)), (3, .int (nI bf)), (4, .long (lN (nm1 rd 2 (at1 + 2)))), (6, .long (lN (nm1 rd 2 (at1 + 4)))), (8, .long (lN (nm1 rd 2 (at1 + 6))))]) hx hb dX6_isFile_153 hl (k := 9) rfl (x_inc _) (by decide) rfl (fun ls hl => ?_)
                  refine lv_goto (tgt := 85) hx hb dX6_isFile_156 (by decide) ?_
                  exact ih85 (i + 1) (by omega) (by omega) (by have h := i85_1; have hh : ¬ (nm1 rd 2 (at1 + 2) < nm1 rd 2 (fr1 + 8 * i + 2) + nm1 rd 2 (fr1 + 8 * i + 4) ∧ nm1 rd 2 (fr1 + 8 * i + 2) < nm1 rd 2 (at1 + 2) + nm1 rd 2 (at1 + 4)) := (by omega); rw [show bf - i = (bf - (i + 1)) + 1 by omega, iflL, if_neg hh] at h; exact h) _ _ hP hD hS ls (lv_sub hl [3, 4, 5, 6, 7, 8, 9, 0] rfl)
                · have c148 : nm1 rd 2 (fr1 + 8 * i + 2) < nm1 rd 2 (at1 + 2) + nm1 rd 2 (at1 + 4) := Nat.lt_of_not_le (fun q => c148 ((pk_lLE (by omega) (by omega)).mpr q))
                  refine lv_iconst (v := nI 0) hx hb dX6_isFile_151 (by decide) ?_
                  exact hret dX6_isFile_152 (by have h := i85_1; have hh : nm1 rd 2 (at1 + 2) < nm1 rd 2 (fr1 + 8 * i + 2) + nm1 rd 2 (fr1 + 8 * i + 4) ∧ nm1 rd 2 (fr1 + 8 * i + 2) < nm1 rd 2 (at1 + 2) + nm1 rd 2 (at1 + 4) := (by omega); rw [show bf - i = (bf - (i + 1)) + 1 by omega, iflL, if_pos hh] at h; exact ifl_n (by omega) h.symm) hP hD hS
        exact L85 (bf - 0 + 1) 0 (by omega) (by omega) (by rfl) _ _ hP hD hS ls (lv_sub hl [4, 5, 6, 7, 3, 2, 1, 0] rfl)
      · have c77 := of_decide_eq_false c77
        refine lv_iconst (v := nI 0) hx hb dX6_isFile_80 (by decide) ?_
        exact hret dX6_isFile_81 (by exact ifl_f (by omega)) hP hD hS

set_option maxHeartbeats 4000000 in
set_option maxRecDepth 100000 in
theorem c_M_isHead {l : Launch} {dC : Nat → ClassId} {dI : Nat → Nat → Nat} {A : Nat → Prop} {b : Nat → Nat} {cB cI cL : ClassId} {rb : Nat} {rd : Nat → Nat} {rq : Nat} {rQ rw : Nat → Nat} {ra : Nat} {ro : Bool} {rn : Nat} {rk rv : Nat → Int64} {rf : Nat} {fN fF fB fR : Nat → Nat} {rl : Nat} {lB lR : Nat → Nat} {rt rg rx rz : Nat} (hrd : ∀ j, rd j < 256) (y : Nat) (hy1 : y < 2) : Met l yX6_isHead (Cond.code yX6_isHead cX6_isHead 7 (some .boolean) :: TB) { frames := 2, cells := 0, slots := 0, locals := 59 } (xPre (fun _ => True) (dC, dI) A (tyS cB cI cL) (wM b cB cI cL rb rd rq rQ rw ra ro rn rk rv rf fN fF fB fR rl lB lR rt rg rx rz) [.ref (b 0), .int (nI y)]) (xQi (dC, dI) A (bI (ihd rd y)) (wM b cB cI cL rb rd rq rQ rw ra ro rn rk rv rf fN fF fB fR rl lB lR rt rg rx rz)) 0 0 A := by
  refine x_ofWz (cc := cX6_isHead) (maxL := 7) (by decide) rfl (Nat.le_of_ble_eq_true rfl) (x_narZ _) ?_
  intro p e s m args below meth c Q hx hb hml hts hown hK hN hP hD hS hret ls hl
  have hl : lv_has ls 7 [(0, .ref (b 0)), (1, .int (nI y))] := hl
  have hown : s.vm.findClass RX6 = some m.cls := hown
  have q5 := hrd (64 * y)
  have q6 := hrd (64 * y + 1)
  have w8 := nm1_lt hrd 8 (64 * y + 48)
  have w8 : nm1 rd 8 (64 * y + 48) < 18446744073709551616 := w8
  have f7 := hts _ (List.mem_cons_of_mem _ tw_607)
  have in_X6 := (fun q hq => List.mem_cons_of_mem _ (inX6 q hq) : ∀ q ∈ wsX60, q ∈ (Cond.code yX6_isHead cX6_isHead 7 (some .boolean) :: TB))
  refine lv_bipush (v := nI 64) hx hb dX6_isHead_0 (by decide) ?_
  refine lv_iload_n hx hb dX6_isHead_2 rfl (lv_at hl 1 rfl) ?_
  refine x_imul hx hb dX6_isHead_3 ?_
  refine lv_istore_n (lv' := [(2, .int (nI (64 * y))), (0, .ref (b 0)), (1, .int (nI y))]) hx hb dX6_isHead_4 rfl hl (by decide) rfl (fun ls hl => ?_)
  refine lv_aload_n hx hb dX6_isHead_5 rfl (lv_at hl 1 rfl) ?_
  refine va_get (D := (dC, dI)) (ci := 6) (v := .ref (b 1)) (C := RX6) (T := TX6) (N := 22) hx hb hts in_X6 hown hK hP 0 rfl rfl 1 (by decide) f7 (fun _ h9 => h9) rfl dX6_isHead_6 ?_
  refine lv_iload_n hx hb dX6_isHead_9 rfl (lv_at hl 0 rfl) ?_
  refine lv_iconst (v := nI 2) hx hb dX6_isHead_10 (by decide) ?_
  refine x_iadd hx hb dX6_isHead_11 ?_
  refine lv_bipush (v := nI 6) hx hb dX6_isHead_12 (by decide) ?_
  refine x_calll (va_runS (As := [.ref (b 1), .int (nI ((64 * y) + 2)), .int (nI 6)]) (rest := []) ⟨hx, hb, hml, hown, hts⟩ (c_M_number (k1 := 1) (t1 := 0) (g := rd) rfl (tyS_B cB cI cL) (by decide) hrd ((64 * y) + 2) 6 (by omega) (by omega)) (va_cwS 3 hts (tbS tw_760 tw_761 tw_91 tw_762) rfl rfl rfl (by decide +kernel) ⟨Nat.le_of_ble_eq_true rfl, Nat.le_of_ble_eq_true rfl⟩) ⟨y_blind, y_pre hK hP hD⟩ rfl rfl hl.1 rfl (lv_room (Nat.le_of_ble_eq_true rfl)) dX6_isHead_14 ⟨Nat.zero_le _, Nat.zero_le _⟩) hS (fun H locs hP hD hS => ?_)
  have hP : va_P (dC, dI) vwCl (wM b cB cI cL rb rd rq rQ rw ra ro rn rk rv rf fN fF fB fR rl lB lR rt rg rx rz) H := hP
  have hD : va_D A (wM b cB cI cL rb rd rq rQ rw ra ro rn rk rv rf fN fF fB fR rl lB lR rt rg rx rz) := hD
  have hv14 : nm1 rd 6 ((64 * y) + 2) < 281474976710656 := nm1_lt hrd 6 ((64 * y) + 2)
  refine lv_lstore_n (lv' := [(3, .long (lN (nm1 rd 6 ((64 * y) + 2)))), (2, .int (nI (64 * y))), (0, .ref (b 0)), (1, .int (nI y))]) hx hb dX6_isHead_17 rfl hl (by decide) rfl (fun ls hl => ?_)
  refine lv_aload_n hx hb dX6_isHead_18 rfl (lv_at hl 2 rfl) ?_
  refine lv_iload_n hx hb dX6_isHead_19 rfl (lv_at hl 3 rfl) ?_
  refine x_calli (va_runV (As := [.int (nI y)]) (rest := []) ⟨hx, hb, hml, hown, hts⟩ (c_M_isWhole hrd y (by omega)) (cwV 1 hts (tbV tw_763 tw_765 tw_75 tw_91 tw_766) rfl rfl rfl (by decide +kernel) ⟨Nat.le_of_ble_eq_true rfl, Nat.le_of_ble_eq_true rfl⟩) ⟨y_blind, va_recv hK hP (ci := 6) (q0 := 0) rfl rfl, y_pre hK hP hD⟩ rfl rfl hl.1 rfl (lv_room (Nat.le_of_ble_eq_true rfl)) dX6_isHead_20 ⟨Nat.zero_le _, Nat.zero_le _⟩) hS (fun H locs hP hD hS => ?_)
  have hP : va_P (dC, dI) vwCl (wM b cB cI cL rb rd rq rQ rw ra ro rn rk rv rf fN fF fB fR rl lB lR rt rg rx rz) H := hP
  have hD : va_D A (wM b cB cI cL rb rd rq rQ rw ra ro rn rk rv rf fN fF fB fR rl lB lR rt rg rx rz) := hD
  refine x_if_eq_b (tgt := 104) hx hb dX6_isHead_23 (by decide) (fun c23 => ?_) (fun c23 => ?_)
  · refine lv_iconst (v := nI 0) hx hb dX6_isHead_104 (by decide) ?_
    refine lv_istore (lv' := [(5, .int (nI 0)), (3, .long (lN (nm1 rd 6 ((64 * y) + 2)))), (2, .int (nI (64 * y))), (0, .ref (b 0)), (1, .int (nI y))]) hx hb dX6_isHead_105 hl (by decide) rfl (fun ls hl => ?_)
    refine lv_iload hx hb dX6_isHead_107 (lv_at hl 0 rfl) ?_
    refine x_if_ne (tgt := 114) hx hb dX6_isHead_109 (by decide) (by decide) (fun c109 => absurd c109 (by decide)) (fun c109 => ?_)
    refine lv_iconst (v := nI 0) hx hb dX6_isHead_112 (by decide) ?_
    exact hret dX6_isHead_113 (by first | exact ihd_f (fun q => absurd (c23.symm.trans q.1) (by decide)) | exact ihd_f (fun q => c33 q.2.1) | exact ihd_f (fun q => c52 ⟨Nat.zero_le _, q.2.2.1⟩) | exact ihd_f (fun q => c63 ⟨q.2.2.2.1, q.2.2.2.2.1⟩) | exact ihd_f (fun q => c74 q.2.2.2.2.2.1) | exact ihd_f (fun q => c97 q.2.2.2.2.2.2)) hP hD hS
  · refine lv_aload_n hx hb dX6_isHead_26 rfl (lv_at hl 2 rfl) ?_
    refine va_get (D := (dC, dI)) (ci := 6) (v := .ref (b 1)) (C := RX6) (T := TX6) (N := 22) hx hb hts in_X6 hown hK hP 0 rfl rfl 1 (by decide) f7 (fun _ h9 => h9) rfl dX6_isHead_27 ?_
    refine lv_iload_n hx hb dX6_isHead_30 rfl (lv_at hl 1 rfl) ?_
    refine x_bald hx hb hK hP 1 0 rfl rfl (by omega) (by decide) dX6_isHead_31 ?_
    refine lv_iconst (v := nI 3) hx hb dX6_isHead_32 (by decide) ?_
    refine lv_icmp_ne (tgt := 104) hx hb dX6_isHead_33 (by decide) (fun c33 => ?_) (fun c33 => ?_)
    · have c33 : ¬ rd (64 * y) = 3 := fun q => c33 ((sb_eq q5 (by decide)).mpr q)
      refine lv_iconst (v := nI 0) hx hb dX6_isHead_104 (by decide) ?_
      refine lv_istore (lv' := [(5, .int (nI 0)), (3, .long (lN (nm1 rd 6 ((64 * y) + 2)))), (2, .int (nI (64 * y))), (0, .ref (b 0)), (1, .int (nI y))]) hx hb dX6_isHead_105 hl (by decide) rfl (fun ls hl => ?_)
      refine lv_iload hx hb dX6_isHead_107 (lv_at hl 0 rfl) ?_
      refine x_if_ne (tgt := 114) hx hb dX6_isHead_109 (by decide) (by decide) (fun c109 => absurd c109 (by decide)) (fun c109 => ?_)
      refine lv_iconst (v := nI 0) hx hb dX6_isHead_112 (by decide) ?_
      exact hret dX6_isHead_113 (by first | exact ihd_f (fun q => absurd (c23.symm.trans q.1) (by decide)) | exact ihd_f (fun q => c33 q.2.1) | exact ihd_f (fun q => c52 ⟨Nat.zero_le _, q.2.2.1⟩) | exact ihd_f (fun q => c63 ⟨q.2.2.2.1, q.2.2.2.2.1⟩) | exact ihd_f (fun q => c74 q.2.2.2.2.2.1) | exact ihd_f (fun q => c97 q.2.2.2.2.2.2)) hP hD hS
    · have c33 : rd (64 * y) = 3 := (sb_eq q5 (by decide)).mp c33
      refine lv_aload_n hx hb dX6_isHead_36 rfl (lv_at hl 2 rfl) ?_
      refine va_get (D := (dC, dI)) (ci := 6) (v := .ref (b 1)) (C := RX6) (T := TX6) (N := 22) hx hb hts in_X6 hown hK hP 0 rfl rfl 1 (by decide) f7 (fun _ h9 => h9) rfl dX6_isHead_37 ?_
      refine lv_iload_n hx hb dX6_isHead_40 rfl (lv_at hl 1 rfl) ?_
      refine lv_iconst (v := nI 1) hx hb dX6_isHead_41 (by decide) ?_
      refine x_iadd hx hb dX6_isHead_42 ?_
      refine x_bald hx hb hK hP 1 0 rfl rfl (by omega) (by decide) dX6_isHead_43 ?_
      refine lv_i2l hx hb dX6_isHead_44 rfl ?_
      refine lv_lconst (v := lN 0) hx hb dX6_isHead_45 rfl ?_
      refine lv_ldc2 (v := lN 5) hx hb hown (hts _ (List.mem_cons_of_mem _ tw_767)) dX6_isHead_46 ?_
      refine x_calli (va_runS (As := [.long ((sb_b (rd ((64 * y) + 1))).toInt64), .long (lN 0), .long (lN 5)]) (rest := []) ⟨hx, hb, hml, hown, hts⟩ (c_M_isIn ((sb_b (rd ((64 * y) + 1))).toInt64) (lN 0) (lN 5)) (va_cwS 3 hts (tbS tw_599 tw_600 tw_91 tw_601) rfl rfl rfl (by decide +kernel) ⟨Nat.le_of_ble_eq_true rfl, Nat.le_of_ble_eq_true rfl⟩) ⟨y_blind, y_pre hK hP hD⟩ rfl rfl hl.1 rfl (lv_room (Nat.le_of_ble_eq_true rfl)) dX6_isHead_49 ⟨Nat.zero_le _, Nat.zero_le _⟩) hS (fun H locs hP hD hS => ?_)
      have hP : va_P (dC, dI) vwCl (wM b cB cI cL rb rd rq rQ rw ra ro rn rk rv rf fN fF fB fR rl lB lR rt rg rx rz) H := hP
      have hD : va_D A (wM b cB cI cL rb rd rq rQ rw ra ro rn rk rv rf fN fF fB fR rl lB lR rt rg rx rz) := hD
      refine x_if_eq_b (tgt := 104) hx hb dX6_isHead_52 (by decide) (fun c52 => ?_) (fun c52 => ?_)
      · rw [sb_isI q6 (by decide) (by decide)] at c52
        have c52 := of_decide_eq_false c52
        refine lv_iconst (v := nI 0) hx hb dX6_isHead_104 (by decide) ?_
        refine lv_istore (lv' := [(5, .int (nI 0)), (3, .long (lN (nm1 rd 6 ((64 * y) + 2)))), (2, .int (nI (64 * y))), (0, .ref (b 0)), (1, .int (nI y))]) hx hb dX6_isHead_105 hl (by decide) rfl (fun ls hl => ?_)
        refine lv_iload hx hb dX6_isHead_107 (lv_at hl 0 rfl) ?_
        refine x_if_ne (tgt := 114) hx hb dX6_isHead_109 (by decide) (by decide) (fun c109 => absurd c109 (by decide)) (fun c109 => ?_)
        refine lv_iconst (v := nI 0) hx hb dX6_isHead_112 (by decide) ?_
        exact hret dX6_isHead_113 (by first | exact ihd_f (fun q => absurd (c23.symm.trans q.1) (by decide)) | exact ihd_f (fun q => c33 q.2.1) | exact ihd_f (fun q => c52 ⟨Nat.zero_le _, q.2.2.1⟩) | exact ihd_f (fun q => c63 ⟨q.2.2.2.1, q.2.2.2.2.1⟩) | exact ihd_f (fun q => c74 q.2.2.2.2.2.1) | exact ihd_f (fun q => c97 q.2.2.2.2.2.2)) hP hD hS
      · rw [sb_isI q6 (by decide) (by decide)] at c52
        have c52 := of_decide_eq_true c52
        refine lv_lload_n hx hb dX6_isHead_55 rfl (lv_at hl 0 rfl) ?_
        refine lv_lconst (v := lN 1) hx hb dX6_isHead_56 rfl ?_
        refine lv_ldc2 (v := lN 1000000000) hx hb hown (hts _ (List.mem_cons_of_mem _ tw_768)) dX6_isHead_57 ?_
        refine x_calli (va_runS (As := [.long (lN (nm1 rd 6 ((64 * y) + 2))), .long (lN 1), .long (lN 1000000000)]) (rest := []) ⟨hx, hb, hml, hown, hts⟩ (c_M_isInN (nm1 rd 6 ((64 * y) + 2)) 1 1000000000 (by omega) (by omega) (by omega)) (va_cwS 3 hts (tbS tw_599 tw_600 tw_91 tw_601) rfl rfl rfl (by decide +kernel) ⟨Nat.le_of_ble_eq_true rfl, Nat.le_of_ble_eq_true rfl⟩) ⟨y_blind, y_pre hK hP hD⟩ rfl rfl hl.1 rfl (lv_room (Nat.le_of_ble_eq_true rfl)) dX6_isHead_60 ⟨Nat.zero_le _, Nat.zero_le _⟩) hS (fun H locs hP hD hS => ?_)
        have hP : va_P (dC, dI) vwCl (wM b cB cI cL rb rd rq rQ rw ra ro rn rk rv rf fN fF fB fR rl lB lR rt rg rx rz) H := hP
        have hD : va_D A (wM b cB cI cL rb rd rq rQ rw ra ro rn rk rv rf fN fF fB fR rl lB lR rt rg rx rz) := hD
        refine x_if_eq_b (tgt := 104) hx hb dX6_isHead_63 (by decide) (fun c63 => ?_) (fun c63 => ?_)
        · have c63 := of_decide_eq_false c63
          refine lv_iconst (v := nI 0) hx hb dX6_isHead_104 (by decide) ?_
          refine lv_istore (lv' := [(5, .int (nI 0)), (3, .long (lN (nm1 rd 6 ((64 * y) + 2)))), (2, .int (nI (64 * y))), (0, .ref (b 0)), (1, .int (nI y))]) hx hb dX6_isHead_105 hl (by decide) rfl (fun ls hl => ?_)
          refine lv_iload hx hb dX6_isHead_107 (lv_at hl 0 rfl) ?_
          refine x_if_ne (tgt := 114) hx hb dX6_isHead_109 (by decide) (by decide) (fun c109 => absurd c109 (by decide)) (fun c109 => ?_)
          refine lv_iconst (v := nI 0) hx hb dX6_isHead_112 (by decide) ?_
          exact hret dX6_isHead_113 (by first | exact ihd_f (fun q => absurd (c23.symm.trans q.1) (by decide)) | exact ihd_f (fun q => c33 q.2.1) | exact ihd_f (fun q => c52 ⟨Nat.zero_le _, q.2.2.1⟩) | exact ihd_f (fun q => c63 ⟨q.2.2.2.1, q.2.2.2.2.1⟩) | exact ihd_f (fun q => c74 q.2.2.2.2.2.1) | exact ihd_f (fun q => c97 q.2.2.2.2.2.2)) hP hD hS
        · have c63 := of_decide_eq_true c63
          refine lv_lload_n hx hb dX6_isHead_66 rfl (lv_at hl 0 rfl) ?_
          refine lv_ldc2 (v := lN 2) hx hb hown (hts _ (List.mem_cons_of_mem _ tw_738)) dX6_isHead_67 ?_
          refine lv_lrem hx hb dX6_isHead_70 (by decide) ?_
          refine x_topl (y := lN (nm1 rd 6 (64 * y + 2) % 2)) (x_lrem2 (by omega)) ?_
          refine lv_iload_n hx hb dX6_isHead_71 rfl (lv_at hl 3 rfl) ?_
          refine lv_i2l (v := lN y) hx hb dX6_isHead_72 (nI_l (by omega)) ?_
          refine W.lcmp hx hb dX6_isHead_73 ?_
          refine x_lif_ne (tgt := 104) hx hb dX6_isHead_74 (by decide) (fun c74 => ?_) (fun c74 => ?_)
          · have c74 : ¬ nm1 rd 6 (64 * y + 2) % 2 = y := fun q => c74 (by rw [q])
            refine lv_iconst (v := nI 0) hx hb dX6_isHead_104 (by decide) ?_
            refine lv_istore (lv' := [(5, .int (nI 0)), (3, .long (lN (nm1 rd 6 ((64 * y) + 2)))), (2, .int (nI (64 * y))), (0, .ref (b 0)), (1, .int (nI y))]) hx hb dX6_isHead_105 hl (by decide) rfl (fun ls hl => ?_)
            refine lv_iload hx hb dX6_isHead_107 (lv_at hl 0 rfl) ?_
            refine x_if_ne (tgt := 114) hx hb dX6_isHead_109 (by decide) (by decide) (fun c109 => absurd c109 (by decide)) (fun c109 => ?_)
            refine lv_iconst (v := nI 0) hx hb dX6_isHead_112 (by decide) ?_
            exact hret dX6_isHead_113 (by first | exact ihd_f (fun q => absurd (c23.symm.trans q.1) (by decide)) | exact ihd_f (fun q => c33 q.2.1) | exact ihd_f (fun q => c52 ⟨Nat.zero_le _, q.2.2.1⟩) | exact ihd_f (fun q => c63 ⟨q.2.2.2.1, q.2.2.2.2.1⟩) | exact ihd_f (fun q => c74 q.2.2.2.2.2.1) | exact ihd_f (fun q => c97 q.2.2.2.2.2.2)) hP hD hS
          · have c74 : nm1 rd 6 (64 * y + 2) % 2 = y := lN_inj (by omega) (by omega) c74
            refine lv_aload_n hx hb dX6_isHead_77 rfl (lv_at hl 2 rfl) ?_
            refine va_get (D := (dC, dI)) (ci := 6) (v := .ref (b 1)) (C := RX6) (T := TX6) (N := 22) hx hb hts in_X6 hown hK hP 0 rfl rfl 1 (by decide) f7 (fun _ h9 => h9) rfl dX6_isHead_78 ?_
            refine lv_iload_n hx hb dX6_isHead_81 rfl (lv_at hl 1 rfl) ?_
            refine lv_bipush (v := nI 48) hx hb dX6_isHead_82 (by decide) ?_
            refine x_iadd hx hb dX6_isHead_84 ?_
            refine lv_bipush (v := nI 8) hx hb dX6_isHead_85 (by decide) ?_
            refine x_calll (va_runS (As := [.ref (b 1), .int (nI ((64 * y) + 48)), .int (nI 8)]) (rest := []) ⟨hx, hb, hml, hown, hts⟩ (c_M_number (k1 := 1) (t1 := 0) (g := rd) rfl (tyS_B cB cI cL) (by decide) hrd ((64 * y) + 48) 8 (by omega) (by omega)) (va_cwS 3 hts (tbS tw_760 tw_761 tw_91 tw_762) rfl rfl rfl (by decide +kernel) ⟨Nat.le_of_ble_eq_true rfl, Nat.le_of_ble_eq_true rfl⟩) ⟨y_blind, y_pre hK hP hD⟩ rfl rfl hl.1 rfl (lv_room (Nat.le_of_ble_eq_true rfl)) dX6_isHead_87 ⟨Nat.zero_le _, Nat.zero_le _⟩) hS (fun H locs hP hD hS => ?_)
            have hP : va_P (dC, dI) vwCl (wM b cB cI cL rb rd rq rQ rw ra ro rn rk rv rf fN fF fB fR rl lB lR rt rg rx rz) H := hP
            have hD : va_D A (wM b cB cI cL rb rd rq rQ rw ra ro rn rk rv rf fN fF fB fR rl lB lR rt rg rx rz) := hD
            have hv87 : nm1 rd 8 ((64 * y) + 48) < 18446744073709551616 := nm1_lt hrd 8 ((64 * y) + 48)
            refine lv_lconst (v := lN 1) hx hb dX6_isHead_90 rfl ?_
            refine lv_ldc2 (v := lN 1000000000) hx hb hown (hts _ (List.mem_cons_of_mem _ tw_768)) dX6_isHead_91 ?_
            refine x_calli (va_runS (As := [.long (lN (nm1 rd 8 ((64 * y) + 48))), .long (lN 1), .long (lN 1000000000)]) (rest := []) ⟨hx, hb, hml, hown, hts⟩ (c_M_isIn (lN (nm1 rd 8 (64 * y + 48))) (lN 1) (lN 1000000000)) (va_cwS 3 hts (tbS tw_599 tw_600 tw_91 tw_601) rfl rfl rfl (by decide +kernel) ⟨Nat.le_of_ble_eq_true rfl, Nat.le_of_ble_eq_true rfl⟩) ⟨y_blind, y_pre hK hP hD⟩ rfl rfl hl.1 rfl (lv_room (Nat.le_of_ble_eq_true rfl)) dX6_isHead_94 ⟨Nat.zero_le _, Nat.zero_le _⟩) hS (fun H locs hP hD hS => ?_)
            have hP : va_P (dC, dI) vwCl (wM b cB cI cL rb rd rq rQ rw ra ro rn rk rv rf fN fF fB fR rl lB lR rt rg rx rz) H := hP
            have hD : va_D A (wM b cB cI cL rb rd rq rQ rw ra ro rn rk rv rf fN fF fB fR rl lB lR rt rg rx rz) := hD
            refine x_if_eq_b (tgt := 104) hx hb dX6_isHead_97 (by decide) (fun c97 => ?_) (fun c97 => ?_)
            · rw [isI_8 w8] at c97
              have c97 := of_decide_eq_false c97
              refine lv_iconst (v := nI 0) hx hb dX6_isHead_104 (by decide) ?_
              refine lv_istore (lv' := [(5, .int (nI 0)), (3, .long (lN (nm1 rd 6 ((64 * y) + 2)))), (2, .int (nI (64 * y))), (0, .ref (b 0)), (1, .int (nI y))]) hx hb dX6_isHead_105 hl (by decide) rfl (fun ls hl => ?_)
              refine lv_iload hx hb dX6_isHead_107 (lv_at hl 0 rfl) ?_
              refine x_if_ne (tgt := 114) hx hb dX6_isHead_109 (by decide) (by decide) (fun c109 => absurd c109 (by decide)) (fun c109 => ?_)
              refine lv_iconst (v := nI 0) hx hb dX6_isHead_112 (by decide) ?_
              exact hret dX6_isHead_113 (by first | exact ihd_f (fun q => absurd (c23.symm.trans q.1) (by decide)) | exact ihd_f (fun q => c33 q.2.1) | exact ihd_f (fun q => c52 ⟨Nat.zero_le _, q.2.2.1⟩) | exact ihd_f (fun q => c63 ⟨q.2.2.2.1, q.2.2.2.2.1⟩) | exact ihd_f (fun q => c74 q.2.2.2.2.2.1) | exact ihd_f (fun q => c97 q.2.2.2.2.2.2)) hP hD hS
            · rw [isI_8 w8] at c97
              have c97 := of_decide_eq_true c97
              refine lv_iconst (v := nI 1) hx hb dX6_isHead_100 (by decide) ?_
              refine lv_goto (tgt := 105) hx hb dX6_isHead_101 (by decide) ?_
              refine lv_istore (lv' := [(5, .int (nI 1)), (3, .long (lN (nm1 rd 6 ((64 * y) + 2)))), (2, .int (nI (64 * y))), (0, .ref (b 0)), (1, .int (nI y))]) hx hb dX6_isHead_105 hl (by decide) rfl (fun ls hl => ?_)
              refine lv_iload hx hb dX6_isHead_107 (lv_at hl 0 rfl) ?_
              refine x_if_ne (tgt := 114) hx hb dX6_isHead_109 (by decide) (by decide) (fun c109 => ?_) (fun c109 => absurd c109 (by decide))
              refine lv_iconst (v := nI 0) hx hb dX6_isHead_114 (by decide) ?_
              refine lv_istore (lv' := [(6, .int (nI 0)), (5, .int (nI 1)), (3, .long (lN (nm1 rd 6 ((64 * y) + 2)))), (2, .int (nI (64 * y))), (0, .ref (b 0)), (1, .int (nI y))]) hx hb dX6_isHead_115 hl (by decide) rfl (fun ls hl => ?_)
              have L117 : ∀ (fu117 : Nat) (i : Nat), (rd (64 * y + 1) - i < fu117) → (i ≤ rd (64 * y + 1)) → (ihL rd y (rd (64 * y + 1) - i) i = ihL rd y (rd (64 * y + 1)) 0) → ∀ (H : Heap) (locs : List Loc), va_P (dC, dI) vwCl (wM b cB cI cL rb rd rq rQ rw ra ro rn rk rv rf fN fF fB fR rl lB lR rt rg rx rz) H → va_D A (wM b cB cI cL rb rd rq rQ rw ra ro rn rk rv rf fN fF fB fR rl lB lR rt rg rx rz) → va_S A s.heap H locs → ∀ (ls : Array Slot), lv_has ls 7 [(0, .ref (b 0)), (1, .int (nI y)), (2, .int (nI (64 * y))), (3, .long (lN (nm1 rd 6 ((64 * y) + 2)))), (5, .int (nI 1)), (6, .int (nI i))] → W p l e { frames := 2, cells := 0, slots := 0, locals := 59 } s m args below meth c H locs 0 0 Q (F0 m 117 ls []) := by
                intro fu117
                induction fu117 with
                | zero => intro i hm; exact absurd hm (Nat.not_lt_zero _)
                | succ fu117 ih117 =>
                  intro i hm i117_0 i117_1 H locs hP hD hS ls hl
                  refine lv_iload hx hb dX6_isHead_117 (lv_at hl 5 rfl) ?_
                  refine lv_aload_n hx hb dX6_isHead_119 rfl (lv_at hl 0 rfl) ?_
                  refine va_get (D := (dC, dI)) (ci := 6) (v := .ref (b 1)) (C := RX6) (T := TX6) (N := 22) hx hb hts in_X6 hown hK hP 0 rfl rfl 1 (by decide) f7 (fun _ h9 => h9) rfl dX6_isHead_120 ?_
                  refine lv_iload_n hx hb dX6_isHead_123 rfl (lv_at hl 2 rfl) ?_
                  refine lv_iconst (v := nI 1) hx hb dX6_isHead_124 (by decide) ?_
                  refine x_iadd hx hb dX6_isHead_125 ?_
                  refine x_bald hx hb hK hP 1 0 rfl rfl (by omega) (by decide) dX6_isHead_126 ?_
                  refine x_top (y := nI (rd (64 * y + 1))) (sb_small (by omega)) ?_
                  refine x_icmp_ge (tgt := 161) hx hb dX6_isHead_127 (by decide) (by omega) (by omega) (fun c127 => ?_) (fun c127 => ?_)
                  · refine lv_iconst (v := nI 1) hx hb dX6_isHead_161 (by decide) ?_
                    exact hret dX6_isHead_162 (by have h := i117_1; rw [show rd (64 * y + 1) - i = 0 by omega, ihL] at h; exact ihd_y ⟨c23, c33, c52.2, c63.1, c63.2, c74, c97⟩ h.symm) hP hD hS
                  · refine lv_aload_n hx hb dX6_isHead_130 rfl (lv_at hl 0 rfl) ?_
                    refine lv_iload_n hx hb dX6_isHead_131 rfl (lv_at hl 2 rfl) ?_
                    refine lv_bipush (v := nI 8) hx hb dX6_isHead_132 (by decide) ?_
                    refine x_iadd hx hb dX6_isHead_134 ?_
                    refine lv_bipush (v := nI 8) hx hb dX6_isHead_135 (by decide) ?_
                    refine lv_iload hx hb dX6_isHead_137 (lv_at hl 5 rfl) ?_
                    refine x_imul hx hb dX6_isHead_139 ?_
                    refine x_iadd hx hb dX6_isHead_140 ?_
                    refine lv_iload_n hx hb dX6_isHead_141 rfl (lv_at hl 2 rfl) ?_
                    refine lv_bipush (v := nI 8) hx hb dX6_isHead_142 (by decide) ?_
                    refine x_iadd hx hb dX6_isHead_144 ?_
                    refine lv_iload hx hb dX6_isHead_145 (lv_at hl 5 rfl) ?_
                    refine x_calli (va_runV (As := [.int (nI (((64 * y) + 8) + (8 * i))), .int (nI ((64 * y) + 8)), .int (nI i)]) (rest := []) ⟨hx, hb, hml, hown, hts⟩ (c_M_isFile hrd (((64 * y) + 8) + (8 * i)) ((64 * y) + 8) i (by omega) (by omega)) (cwV 3 hts (tbV tw_769 tw_771 tw_76 tw_91 tw_772) rfl rfl rfl (by decide +kernel) ⟨Nat.le_of_ble_eq_true rfl, Nat.le_of_ble_eq_true rfl⟩) ⟨y_blind, va_recv hK hP (ci := 6) (q0 := 0) rfl rfl, y_pre hK hP hD⟩ rfl rfl hl.1 rfl (lv_room (Nat.le_of_ble_eq_true rfl)) dX6_isHead_147 ⟨Nat.zero_le _, Nat.zero_le _⟩) hS (fun H locs hP hD hS => ?_)
                    have hP : va_P (dC, dI) vwCl (wM b cB cI cL rb rd rq rQ rw ra ro rn rk rv rf fN fF fB fR rl lB lR rt rg rx rz) H := hP
                    have hD : va_D A (wM b cB cI cL rb rd rq rQ rw ra ro rn rk rv rf fN fF fB fR rl lB lR rt rg rx rz) := hD
                    refine x_if_ne_b (tgt := 155) hx hb dX6_isHead_150 (by decide) (fun c150 => ?_) (fun c150 => ?_)
                    · refine lv_iinc (v := nI (i + 1)) (lv' := [(6, .int (nI (i + 1))), (0, .ref (b 0)), (1, .int (nI y)), (2, .int (nI (64 * y))), (3, .long (lN (nm1 rd 6 ((64 * y) + 2)))), (5, .int (nI 1))]) hx hb dX6_isHead_155 hl (k := 5) rfl (x_inc _) (by decide) rfl (fun ls hl => ?_)
                      refine lv_goto (tgt := 117) hx hb dX6_isHead_158 (by decide) ?_
                      exact ih117 (i + 1) (by omega) (by omega) (by have h := i117_1; rw [show rd (64 * y + 1) - i = (rd (64 * y + 1) - (i + 1)) + 1 by omega, ihL, if_pos c150] at h; exact h) _ _ hP hD hS ls (lv_sub hl [1, 2, 3, 4, 5, 0] rfl)
                    · refine lv_iconst (v := nI 0) hx hb dX6_isHead_153 (by decide) ?_
                      exact hret dX6_isHead_154 (by have h := i117_1; rw [show rd (64 * y + 1) - i = (rd (64 * y + 1) - (i + 1)) + 1 by omega, ihL, if_neg (by rw [c150]; decide)] at h; exact ihd_n h.symm) hP hD hS
              exact L117 (rd (64 * y + 1) - 0 + 1) 0 (by omega) (by omega) (by rfl) _ _ hP hD hS ls (lv_sub hl [4, 5, 3, 2, 1, 0] rfl)
