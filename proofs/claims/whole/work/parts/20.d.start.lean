set_option maxHeartbeats 4000000 in
set_option maxRecDepth 100000 in
theorem law_start {p : Program} {e : Env} {s : State} {m : MethodId} {below : List Frame} {meth : Method} {c : Code} (l : Launch) {b L : Nat} {xs : Nat → Int32} {Rel : Nat → SC → SM → Prop} (PP : Pairs Rel l) (h00 : ∀ u1 : Nat → Nat, Rel 0 ⟨u1 13, u1 14, u1 15, u1 16, true, 1, 0, 0, 0, 16, (fun _ => 0), 16, (uclr 16 (fun _ => 0)), 0, (fun _ => 0), (fun _ => 0), 0, (fun _ => lN 0), (fun _ => lN 0), (fun _ => 0), 0, 0, 1, (fun _ => 0), 0, 0, 1, (fun _ => 0)⟩ ⟨16, wz 4096 (fun _ => 0) 0, 0, (fun _ => 0), (fun _ => 0), 0, true, 0, (fun _ => lN 0), (fun _ => lN 0), 0, (fun _ => 0), (fun _ => 0), (fun _ => 0), (fun _ => 0), 0, (fun _ => 0), (fun _ => 0), 0, 0, 1, 0⟩) (hL : L ≤ 2560) (C0 : lw_At p s m meth c b L xs) : W p l e room_1 s m #[Value.ref b] below meth c s.heap [] 0 0 (lw_Z below #[Value.ref b] s) (entryFrame m ([Value.ref b] : List Value).toArray 4) := by
  obtain ⟨hx, hb, hr, hml, hown, hts, hX, hbl, hlocks, hgv⟩ := id C0
  have hown : s.vm.findClass RL = some m.cls := hown
  have hA : ∀ q : Nat, s.heap.size ≤ q → (fun q : Nat => s.heap.size ≤ q) q := fun _ h => h
  have hN : Nst s := nst_of hts
  obtain ⟨c0, iS0, hKn0⟩ := u_known (C := RX0) (T := TX0) (N := 2) (n := 2) hts (fun q hq => tbIn (inX0 q hq)) (hts _ (tbIn tw_101))
  obtain ⟨c1, iS1, hKn1⟩ := u_known (C := RX1) (T := TX1) (N := 4) (n := 4) hts (fun q hq => tbIn (inX1 q hq)) (hts _ (tbIn tw_182))
  obtain ⟨c2, iS2, hKn2⟩ := u_known (C := RX2) (T := TX2) (N := 3) (n := 3) hts (fun q hq => tbIn (inX2 q hq)) (hts _ (tbIn tw_141))
  obtain ⟨c3, iS3, hKn3⟩ := u_known (C := RX3) (T := TX3) (N := 4) (n := 4) hts (fun q hq => tbIn (inX3 q hq)) (hts _ (tbIn tw_161))
  obtain ⟨c4, iS4, hKn4⟩ := u_known (C := RX4) (T := TX4) (N := 2) (n := 2) hts (fun q hq => tbIn (inX4 q hq)) (hts _ (tbIn tw_116))
  obtain ⟨c5, iS5, hKn5⟩ := u_known (C := RX5) (T := TX5) (N := 11) (n := 11) hts (fun q hq => tbIn (inX5 q hq)) (hts _ (tbIn tw_93))
  obtain ⟨c6, iS6, hKn6⟩ := u_known (C := RX6) (T := TX6) (N := 22) (n := 22) hts (fun q hq => tbIn (inX6 q hq)) (hts _ (tbIn tw_588))
  obtain ⟨dC, dI, hKc⟩ : ∃ (dC : Nat → ClassId) (dI : Nat → Nat → Nat), ∀ (k : Nat) (q : vw_C), vwCl[k]? = some q → u_Kn s q.1 q.2.1 q.2.2 (dC k) (dI k) := by
    refine ⟨fun k => if k = 0 then c0 else if k = 1 then c1 else if k = 2 then c2 else if k = 3 then c3 else if k = 4 then c4 else if k = 5 then c5 else c6, fun k => if k = 0 then iS0 else if k = 1 then iS1 else if k = 2 then iS2 else if k = 3 then iS3 else if k = 4 then iS4 else if k = 5 then iS5 else iS6, ?_⟩
    intro k q hq
    match k, hq with
    | 0, hq => cases hq; exact hKn0
    | 1, hq => cases hq; exact hKn1
    | 2, hq => cases hq; exact hKn2
    | 3, hq => cases hq; exact hKn3
    | 4, hq => cases hq; exact hKn4
    | 5, hq => cases hq; exact hKn5
    | 6, hq => cases hq; exact hKn6
    | k + 7, hq => simp [vwCl] at hq
  obtain ⟨cB, hAB⟩ := arr_of (by simp) (hts (.arrayClass .byte) (tbIn tw_aB))
  obtain ⟨cI, hAI⟩ := arr_of (by simp) (hts (.arrayClass .int) (tbIn tw_aI))
  obtain ⟨cL, hAL⟩ := arr_of (by simp) (hts (.arrayClass .long) (tbIn tw_aL))
  have hK : va_K (dC, dI) vwCl (tyS cB cI cL) s := ⟨hKc, fun k q h => by
    match k, h with
    | 0, h => cases h; exact hAB
    | 1, h => cases h; exact hAI
    | 2, h => cases h; exact hAL
    | k + 3, h => simp [tyS] at h⟩
  have hS : va_S (fun q : Nat => s.heap.size ≤ q) s.heap s.heap [] := va_S.rf
  have hP : va_P (dC, dI) vwCl [] s.heap := fun k q h => by simp at h
  have hD : va_D (fun q : Nat => s.heap.size ≤ q) [] := ⟨fun i j p q h => by simp at h, fun k q h => by simp at h⟩
  have hl := lv_entry ([.ref b]) (n := 4) (Nat.le_of_ble_eq_true rfl)
  rw [lg_entry_eq]
  generalize (lg_sl ([.ref b]) ++ List.replicate (4 - (lg_sl ([.ref b])).length) Slot.unset).toArray = ls at hl ⊢
  have hl : lv_has ls 4 [(0, .ref b)] := hl
  refine va_new (ci := 5) (fs := [.null, .null, .null, .null, .null, .null, .int 0, .int 0, .int 0, .int 0, .int 0]) (C := RX5) (T := TX5) (N := 11) hx hb hts (fun q hq => tbIn (inX5 q hq)) tyX5 tyX5_ok hown (hts _ (tbIn tw_92)) (hts _ (tbIn tw_93)) (hts _ (tbIn tw_84)) hK hP hD hS hA rfl (fun j hj => by rcases (show j = 0 ∨ j = 1 ∨ j = 2 ∨ j = 3 ∨ j = 4 ∨ j = 5 ∨ j = 6 ∨ j = 7 ∨ j = 8 ∨ j = 9 ∨ j = 10 by omega) with rfl | rfl | rfl | rfl | rfl | rfl | rfl | rfl | rfl | rfl | rfl <;> rfl) (Nat.le_of_ble_eq_true rfl) (Nat.le_of_ble_eq_true rfl) dL_0 (fun q0 H hP hD hS => ?_)
  have hP : va_P (dC, dI) vwCl [(q0, .inr (5, [.null, .null, .null, .null, .null, .null, .int 0, .int 0, .int 0, .int 0, .int 0]))] H := hP
  have hD : va_D (fun q : Nat => s.heap.size ≤ q) [(q0, .inr (5, [.null, .null, .null, .null, .null, .null, .int 0, .int 0, .int 0, .int 0, .int 0]))] := hD
  refine W.widen (k := 1) (n := 11) (by omega) (by omega) ?_
  refine lv_dup hx hb dL_3 rfl ?_
  have hPc := hP.sub (ws' := [(q0, .inr (5, [.null, .null, .null, .null, .null, .null, .int 0, .int 0, .int 0, .int 0, .int 0]))]) [0] rfl
  have hDc := hD.sub (ws' := [(q0, .inr (5, [.null, .null, .null, .null, .null, .null, .int 0, .int 0, .int 0, .int 0, .int 0]))]) [0] (by decide) rfl
  have hFc := va_free (wc := [(q0, .inr (5, [.null, .null, .null, .null, .null, .null, .int 0, .int 0, .int 0, .int 0, .int 0]))]) hD hS hA [0] rfl
  refine va_callv (va_runI (As := []) (rest := [.ref q0]) ⟨hx, hb, hml, hown, hts⟩ (c_SL_init l dC dI cB cI cL q0 H.size) (cwI 0 hts (tbGL tw_96) rfl rfl rfl (hts _ (tbIn tw_84)) (hts _ (tbIn tw_94)) (hts _ (tbIn tw_95)) rfl (by decide +kernel) ⟨Nat.le_of_ble_eq_true rfl, Nat.le_of_ble_eq_true rfl⟩) ⟨z_blind, z_pre hK hPc hDc hN⟩ rfl rfl hl.1 rfl (lv_room (Nat.le_of_ble_eq_true rfl)) dL_4 ⟨Nat.le_of_ble_eq_true rfl, Nat.le_of_ble_eq_true rfl⟩) hS (fun q _ h => hFc q h) hFc (fun u1 t H1 locs ht hvm hw hB hz1 hk1 hS => ?_)
  obtain ⟨S, hS9⟩ : ∃ z : SC, z = ⟨u1 13, u1 14, u1 15, u1 16, true, 1, 0, 0, 0, 16, (fun _ => 0), 16, (uclr 16 (fun _ => 0)), 0, (fun _ => 0), (fun _ => 0), 0, (fun _ => lN 0), (fun _ => lN 0), (fun _ => 0), 0, 0, 1, (fun _ => 0), 0, 0, 1, (fun _ => 0)⟩ := ⟨_, rfl⟩
  obtain ⟨a, ha⟩ : ∃ z : Nat → Nat, z = (fun k => if k = 0 then q0 else u1 k) := ⟨_, rfl⟩
  obtain ⟨hP1, hD1⟩ := hB
  rw [ht] at hP1
  have hP1 : va_P (dC, dI) vwCl (vS a cB cI cL S) H1 := by rw [hS9, ha]; exact hP1
  have hD1 : va_D (va_A [(q0, .inr (5, [.null, .null, .null, .null, .null, .null, .int 0, .int 0, .int 0, .int 0, .int 0]))] H.size) (vS a cB cI cL S) := by rw [hS9, ha]; exact hD1
  obtain ⟨hP, hD⟩ := va_join (wr := []) (w1 := vS a cB cI cL S) hP hD [0] [] rfl rfl (by decide) (by decide) hk1 hFc hP1 hD1
  generalize H1 = H at hP hS ⊢
  refine W.widen (k := 17) (n := 8968) (by omega) (by omega) ?_
  have hP : va_P (dC, dI) vwCl (vS a cB cI cL S) H := hP
  have hD : va_D (fun q : Nat => s.heap.size ≤ q) (vS a cB cI cL S) := hD
  have ha0 : q0 = a 0 := by rw [ha]; rfl
  refine lv_astore_n (lv' := [(1, .ref q0), (0, .ref b)]) hx hb dL_7 rfl hl (by decide) rfl (fun ls hl => ?_)
  refine va_new (ci := 6) (fs := [.int 0, .null, .int 0, .null, .null, .int 0, .int 0, .int 0, .null, .null, .int 0, .null, .null, .null, .null, .int 0, .null, .null, .int 0, .long 0, .long 0, .int 0]) (C := RX6) (T := TX6) (N := 22) hx hb hts (fun q hq => tbIn (inX6 q hq)) tyX6 tyX6_ok hown (hts _ (tbIn tw_587)) (hts _ (tbIn tw_588)) (hts _ (tbIn tw_91)) hK hP hD hS hA rfl (fun j hj => by rcases (show j = 0 ∨ j = 1 ∨ j = 2 ∨ j = 3 ∨ j = 4 ∨ j = 5 ∨ j = 6 ∨ j = 7 ∨ j = 8 ∨ j = 9 ∨ j = 10 ∨ j = 11 ∨ j = 12 ∨ j = 13 ∨ j = 14 ∨ j = 15 ∨ j = 16 ∨ j = 17 ∨ j = 18 ∨ j = 19 ∨ j = 20 ∨ j = 21 by omega) with rfl | rfl | rfl | rfl | rfl | rfl | rfl | rfl | rfl | rfl | rfl | rfl | rfl | rfl | rfl | rfl | rfl | rfl | rfl | rfl | rfl | rfl <;> rfl) (Nat.le_of_ble_eq_true rfl) (Nat.le_of_ble_eq_true rfl) dL_8 (fun q1 H hP hD hS => ?_)
  have hP : va_P (dC, dI) vwCl (vS a cB cI cL S ++ [(q1, .inr (6, [.int 0, .null, .int 0, .null, .null, .int 0, .int 0, .int 0, .null, .null, .int 0, .null, .null, .null, .null, .int 0, .null, .null, .int 0, .long 0, .long 0, .int 0]))]) H := hP
  have hD : va_D (fun q : Nat => s.heap.size ≤ q) (vS a cB cI cL S ++ [(q1, .inr (6, [.int 0, .null, .int 0, .null, .null, .int 0, .int 0, .int 0, .null, .null, .int 0, .null, .null, .null, .null, .int 0, .null, .null, .int 0, .long 0, .long 0, .int 0]))]) := hD
  refine W.widen (k := 18) (n := 8990) (by omega) (by omega) ?_
  refine lv_dup hx hb dL_11 rfl ?_
  have hPc := hP.sub (ws' := [(q1, .inr (6, [.int 0, .null, .int 0, .null, .null, .int 0, .int 0, .int 0, .null, .null, .int 0, .null, .null, .null, .null, .int 0, .null, .null, .int 0, .long 0, .long 0, .int 0]))]) [17] rfl
  have hDc := hD.sub (ws' := [(q1, .inr (6, [.int 0, .null, .int 0, .null, .null, .int 0, .int 0, .int 0, .null, .null, .int 0, .null, .null, .null, .null, .int 0, .null, .null, .int 0, .long 0, .long 0, .int 0]))]) [17] (by decide) rfl
  have hFc := va_free (wc := [(q1, .inr (6, [.int 0, .null, .int 0, .null, .null, .int 0, .int 0, .int 0, .null, .null, .int 0, .null, .null, .null, .null, .int 0, .null, .null, .int 0, .long 0, .long 0, .int 0]))]) hD hS hA [17] rfl
  refine va_callv (va_runI (As := []) (rest := [.ref q1]) ⟨hx, hb, hml, hown, hts⟩ (c_M_init l dC dI cB cI cL q1 H.size) (cwI 0 hts (tbGL tw_591) rfl rfl rfl (hts _ (tbIn tw_91)) (hts _ (tbIn tw_589)) (hts _ (tbIn tw_590)) rfl (by decide +kernel) ⟨Nat.le_of_ble_eq_true rfl, Nat.le_of_ble_eq_true rfl⟩) ⟨zM_blind, zM_pre hK hPc hDc⟩ rfl rfl hl.1 rfl (lv_room (Nat.le_of_ble_eq_true rfl)) dL_12 ⟨Nat.le_of_ble_eq_true rfl, Nat.le_of_ble_eq_true rfl⟩) hS (fun q _ h => hFc q h) hFc (fun u2 t H1 locs ht hvm hw hB hz1 hk1 hS => ?_)
  obtain ⟨M, hM9⟩ : ∃ z : SM, z = ⟨16, wz 4096 (fun _ => 0) 0, 0, (fun _ => 0), (fun _ => 0), 0, true, 0, (fun _ => lN 0), (fun _ => lN 0), 0, (fun _ => 0), (fun _ => 0), (fun _ => 0), (fun _ => 0), 0, (fun _ => 0), (fun _ => 0), 0, 0, 1, 0⟩ := ⟨_, rfl⟩
  obtain ⟨b9, hb9⟩ : ∃ z : Nat → Nat, z = (fun k => if k = 0 then q1 else u2 k) := ⟨_, rfl⟩
  obtain ⟨hP1, hD1⟩ := hB
  rw [ht] at hP1
  have hP1 : va_P (dC, dI) vwCl (vM b9 cB cI cL M) H1 := by rw [hM9, hb9]; exact hP1
  have hD1 : va_D (va_A [(q1, .inr (6, [.int 0, .null, .int 0, .null, .null, .int 0, .int 0, .int 0, .null, .null, .int 0, .null, .null, .null, .null, .int 0, .null, .null, .int 0, .long 0, .long 0, .int 0]))] H.size) (vM b9 cB cI cL M) := by rw [hM9, hb9]; exact hD1
  obtain ⟨hP, hD⟩ := va_join (wr := (vS a cB cI cL S)) (w1 := vM b9 cB cI cL M) hP hD [17] [0, 1, 2, 3, 4, 5, 6, 7, 8, 9, 10, 11, 12, 13, 14, 15, 16] rfl rfl (by decide) (by decide) hk1 hFc hP1 hD1
  generalize H1 = H at hP hS ⊢
  refine W.widen (k := 29) (n := 22128) (by omega) (by omega) ?_
  have hb0 : q1 = b9 0 := by rw [hb9]; rfl
  refine lv_astore_n (lv' := [(2, .ref q1), (1, .ref q0), (0, .ref b)]) hx hb dL_15 rfl hl (by decide) rfl (fun ls hl => ?_)
  refine lv_iconst (v := nI 0) hx hb dL_16 (by decide) ?_
  refine lv_istore_n (lv' := [(3, .int (nI 0)), (2, .ref q1), (1, .ref q0), (0, .ref b)]) hx hb dL_17 rfl hl (by decide) rfl (fun ls hl => ?_)
  rw [ha0, hb0] at hl
  exact law_loop PP hL C0 hK (L + 1) 0 S M (by omega) (by omega) (by rw [hS9, hM9]; exact h00 u1) _ _ hP hD hS ls (lv_sub hl [3, 2, 1, 0] rfl)
