set_option maxHeartbeats 4000000 in
set_option maxRecDepth 100000 in
theorem p_open (l : Launch)  : PrI Rel l yX5_open (Cond.code yX5_open cX5_open 3 (some .int) :: TB) { frames := 6, cells := 0, slots := 0, locals := 145 } yX6_open (Cond.code yX6_open cX6_open 3 (some .int) :: TB) { frames := 4, cells := 0, slots := 0, locals := 95 } [] := by
  intro dC dI cB cI cL a b k S M hk hR
  obtain ⟨⟨⟨b1, b2, b3, b4, b5, b6, b7⟩, ⟨d1, d2, d3, d4, d5, d6, d7, d8, d9⟩⟩, ⟨⟨n1, n2, n3⟩, n4, n5, n6, n7, n8⟩, hO, hC⟩ := id hR
  cases hro : m_ro M with
  | true => exact ⟨S, M, -5, hR.later, fun A => c_SL_openT (n5.trans hro), fun A => c_M_openT hro⟩
  | false =>
    have hA : Ag (64 * c_dn S) (c_dg S) (m_rd M) := by rw [n1]; exact n4
    have hL0 := hrd_lt (dn := c_dn S) (dg := c_dg S) (b := 0) (F := c_eF S) b1 b6
    have hL1 := hrd_lt (dn := c_dn S) (dg := c_dg S) (b := 1) (F := c_pF S) b1 b7
    cases e0 : ihd (m_rd M) 0 with
    | false =>
      obtain ⟨F0, hr0⟩ := hrd_no (F := c_eF S) (show 0 < c_dn S by omega) hA e0
      rw [hr0] at hL0
      cases e1 : ihd (m_rd M) 1 with
      | false =>
        obtain ⟨F1, hr1⟩ := hrd_no (F := c_pF S) (show 1 < c_dn S by omega) hA e1
        rw [hr1] at hL1
        have hh : hdL (m_rd M) 2 0 none = none := by
          show hdS (m_rd M) 1 (hdS (m_rd M) 0 none) = none
          rw [hd_no e0, hd_no e1]
        obtain ⟨S0, hS0⟩ : ∃ S0, opL (c_dn S) (c_dg S) (c_dn S) 0 F0 0 0 ((0, c_tk S, c_tv S, c_ts S), uclr (c_dn S) (c_ug S), 0) = S0 := ⟨_, rfl⟩
        obtain ⟨V0, hV0⟩ : ∃ V0, rpl (c_dn S) (c_dg S) (c_dn S) (c_dn S) (S0.1, 1, mol (c_dn S) (c_dg S) (c_dn S) (c_dn S - 2) 2 S0.2.1) = V0 := ⟨_, rfl⟩
        obtain ⟨L0, hL0x⟩ : ∃ L0, rlG (m_rb M) (m_rd M) (m_fF M) (m_fB M) 0 64 (0, m_rk M, m_rv M, 0, m_lB M, m_lR M, 1) = L0 := ⟨_, rfl⟩
        have hro2 := rel_open (k := k) (n := 0) (gen := 0) (nx0 := 1) (h1 := c_h1 S) (h2 := c_h2 S) (s1 := c_s1 S) (s2 := c_s2 S) (pf := 0) (pg := 0) (px := 1) (pF := F1) (Z := (m_fN M, m_fF M, m_fB M, m_fR M, 0)) (Y := (0, m_rk M, m_rv M)) hR hL0 hL1 ⟨d4, d5, d6, d7⟩ (fun i hi => absurd hi (Nat.not_lt_zero _)) (by decide) (by decide) (by decide) (fun i hi => absurd hi (Nat.not_lt_zero _)) (fun i j _ hi => absurd hi (Nat.not_lt_zero _)) rfl (Nat.zero_le 65536) rfl hS0 hV0 hL0x
        obtain ⟨⟨o1, o2, o3, o4⟩, hRel⟩ := hro2
        have o2 : 0 + 3 * lgK (m_rb M) (m_rd M) (m_fF M) (m_fB M) 0 1 ≤ 186 := o2
        have o3 : lgK (m_rb M) (m_rd M) (m_fF M) (m_fB M) 0 1 ≤ 62 := o3
        refine ⟨_, _, nI L0.1, hRel, fun A => ?_, fun A => c_M_openN (by omega) d1 d5 d6 d8 hro hh L0 hL0x (by omega) (by omega)⟩
        rw [← o4]
        exact c_SL_openGH (by omega) n6 n8 b1 b2 b5 b6 b7 S0 V0 (0, 0, 1, F0) (0, 0, 1, F1) (n5.trans hro) hr0 hr1 (Nat.lt_irrefl 0) (Nat.zero_le 5) (fun i hi => absurd hi (Nat.not_lt_zero _)) rfl hS0 hV0 o1 (fun i => by rw [hfl, if_neg (fun q => absurd q.1 (Nat.not_lt_zero _))]; decide)
      | true =>
        obtain ⟨F1, hr1, hf1, hgd1, hc1⟩ := hrd_yes (F := c_pF S) (show 1 < c_dn S by omega) hA e1
        rw [hr1] at hL1
        have hh : hdL (m_rd M) 2 0 none = some 1 := by
          show hdS (m_rd M) 1 (hdS (m_rd M) 0 none) = some 1
          rw [hd_no e0, hd_new e1]
        obtain ⟨i1, i2, i3, i4, i5, i6, i7, i8⟩ := hc1
        obtain ⟨Z0, hZ0⟩ : ∃ Z0, rf1 (m_rd M) (64 * 1) (m_rd M (64 * 1 + 1)) 0 (m_fN M, m_fF M, m_fB M, m_fR M, 0) = Z0 := ⟨_, rfl⟩
        obtain ⟨hHZ, hgF, hgN, hzz, hz2, hZb, hn16⟩ := head_files (F' := F1) d1 d4 d5 d6 d7 i3 hf1 hgd1 hZ0
        have hgo : ∀ i, i < (m_rd M (64 * 1 + 1)) → (hfl (m_rd M (64 * 1 + 1)) F1 i 3 + 2) / 3 = hfl (m_rd M (64 * 1 + 1)) F1 i 2 := fun i hi => by
          rw [(hHZ i hi).2.2.1, (hHZ i hi).2.2.2]
          exact (hgF i hi).2.2
        have hgF2 : ∀ g, g < (m_rd M (64 * 1 + 1)) → 2 ≤ Z0.2.1 g ∧ 1 ≤ Z0.2.2.1 g ∧ 3 * Z0.2.2.1 g ≤ Z0.2.2.2.1 g + 2 := fun g hg => by
          have z := hgF g hg
          exact ⟨z.1, z.2.1, by omega⟩
        obtain ⟨Y0, hY0⟩ : ∃ Y0, rgO (m_rb M) (m_rd M) Z0 (m_rd M (64 * 1 + 1)) 0 (0, m_rk M, m_rv M) = Y0 := ⟨_, rfl⟩
        have hfw : fwO (c_dn S) (c_dg S) (m_rd M (64 * 1 + 1)) F1 (m_rd M (64 * 1 + 1)) 0 = Y0.1 := fw_eq n1 n4 hHZ hY0
        cases hY1 : Y0.1 with
        | some wr =>
          have hw1 : wr < 2 ^ 31 := rgO_lt hZb.2.1 hZb.2.2.1 (by rw [hY0]; exact hY1)
          exact ⟨⟨c_s1 S, c_s2 S, c_h1 S, c_h2 S, c_op S, c_nx S, c_wt S, c_sf S, c_lf S, c_dn S, c_dg S, c_un S, c_ug S, c_qn S, c_qt S, c_qg S, c_tn S, c_tk S, c_tv S, c_ts S, (m_rd M (64 * 1 + 1), nm1 (m_rd M) 6 (64 * 1 + 2), nm1 (m_rd M) 8 (64 * 1 + 48), F1).1, (m_rd M (64 * 1 + 1), nm1 (m_rd M) 6 (64 * 1 + 2), nm1 (m_rd M) 8 (64 * 1 + 48), F1).2.1, (m_rd M (64 * 1 + 1), nm1 (m_rd M) 6 (64 * 1 + 2), nm1 (m_rd M) 8 (64 * 1 + 48), F1).2.2.1, (m_rd M (64 * 1 + 1), nm1 (m_rd M) 6 (64 * 1 + 2), nm1 (m_rd M) 8 (64 * 1 + 48), F1).2.2.2, (0, 0, 1, F0).1, (0, 0, 1, F0).2.1, (0, 0, 1, F0).2.2.1, (0, 0, 1, F0).2.2.2⟩, ⟨m_rb M, m_rd M, 0, m_rQ M, m_rw M, m_ra M, m_ro M, 0, Y0.2.2.1, Y0.2.2.2, 0, Z0.1, Z0.2.1, Z0.2.2.1, Z0.2.2.2.1, 0, m_lB M, m_lR M, 0, 0, 1, 0⟩, -10 - nI wr, ⟨⟨⟨b1, b2, b3, b4, b5, hL1, hL0⟩, ⟨d1, d2, d3, hZb.1, hZb.2.1, hZb.2.2.1, hZb.2.2.2, d8, d9⟩⟩, ⟨⟨n1, n2, n3⟩, n4, n5, n6, n7, n8⟩, fun o => absurd (hro.symm.trans o) (by decide), fun _ => rfl⟩, fun A => c_SL_openWS (by omega) n6 n8 b1 b2 b5 b6 b7 wr (0, 0, 1, F0) (m_rd M (64 * 1 + 1), nm1 (m_rd M) 6 (64 * 1 + 2), nm1 (m_rd M) 8 (64 * 1 + 48), F1) (n5.trans hro) hr0 hr1 (show 0 < nm1 (m_rd M) 6 (64 * 1 + 2) by omega) i3 hgo (hfw.trans hY1) hw1, fun A => c_M_openW (by omega) d1 d4 d5 d6 d7 d8 1 (by decide) Z0 Y0 hro hh i3 i8 hZ0 hY0 hgF2 hgN wr hY1 hw1⟩
        | none =>
          obtain ⟨S0, hS0⟩ : ∃ S0, opL (c_dn S) (c_dg S) (c_dn S) (m_rd M (64 * 1 + 1)) F1 (m_rd M (64 * 1 + 1)) 0 ((0, c_tk S, c_tv S, c_ts S), uclr (c_dn S) (c_ug S), 0) = S0 := ⟨_, rfl⟩
          obtain ⟨V0, hV0⟩ : ∃ V0, rpl (c_dn S) (c_dg S) (c_dn S) (c_dn S) (S0.1, nm1 (m_rd M) 8 (64 * 1 + 48), mol (c_dn S) (c_dg S) (c_dn S) (c_dn S - 2) 2 S0.2.1) = V0 := ⟨_, rfl⟩
          obtain ⟨L0, hLg⟩ : ∃ L0, rlG (m_rb M) (m_rd M) Z0.2.1 Z0.2.2.1 (m_rd M (64 * 1 + 1)) 64 (Y0.2.1, Y0.2.2.1, Y0.2.2.2, 0, m_lB M, m_lR M, nm1 (m_rd M) 8 (64 * 1 + 48)) = L0 := ⟨_, rfl⟩
          have hYn : rgO (m_rb M) (m_rd M) Z0 (m_rd M (64 * 1 + 1)) 0 (0, m_rk M, m_rv M) = (none, Y0.2) := by
            rw [hY0, ← hY1]
          have hro2 := rel_open (k := k) (n := (m_rd M (64 * 1 + 1))) (gen := nm1 (m_rd M) 6 (64 * 1 + 2)) (nx0 := nm1 (m_rd M) 8 (64 * 1 + 48)) (h1 := c_s1 S) (h2 := c_s2 S) (s1 := c_h1 S) (s2 := c_h2 S) (pf := (0, 0, 1, F0).1) (pg := (0, 0, 1, F0).2.1) (px := (0, 0, 1, F0).2.2.1) (pF := (0, 0, 1, F0).2.2.2) hR hL1 hL0 hZb hHZ i3 i5 ⟨i7, i8⟩ hgF hgN hzz hz2 hYn hS0 hV0 hLg
          obtain ⟨⟨o1, o2, o3, o4⟩, hRel⟩ := hro2
          refine ⟨_, _, nI L0.1, hRel, fun A => ?_, fun A => c_M_openG (by omega) d1 d4 d5 d6 d7 d8 1 (by decide) Z0 Y0 hro hh i3 i8 hZ0 hY0 hgF2 hgN hY1 L0 hLg (by omega) (by omega)⟩
          rw [← o4]
          exact c_SL_openGS (by omega) n6 n8 b1 b2 b5 b6 b7 S0 V0 (0, 0, 1, F0) (m_rd M (64 * 1 + 1), nm1 (m_rd M) 6 (64 * 1 + 2), nm1 (m_rd M) 8 (64 * 1 + 48), F1) (n5.trans hro) hr0 hr1 (show 0 < nm1 (m_rd M) 6 (64 * 1 + 2) by omega) i3 hgo (hfw.trans hY1) hS0 hV0 o1 hn16
    | true =>
      obtain ⟨F0, hr0, hf0, hgd0, hc0⟩ := hrd_yes (F := c_eF S) (show 0 < c_dn S by omega) hA e0
      rw [hr0] at hL0
      cases e1 : ihd (m_rd M) 1 with
      | false =>
        obtain ⟨F1, hr1⟩ := hrd_no (F := c_pF S) (show 1 < c_dn S by omega) hA e1
        rw [hr1] at hL1
        have hh : hdL (m_rd M) 2 0 none = some 0 := by
          show hdS (m_rd M) 1 (hdS (m_rd M) 0 none) = some 0
          rw [hd_new e0, hd_no e1]
        obtain ⟨i1, i2, i3, i4, i5, i6, i7, i8⟩ := hc0
        obtain ⟨Z0, hZ0⟩ : ∃ Z0, rf1 (m_rd M) (64 * 0) (m_rd M (64 * 0 + 1)) 0 (m_fN M, m_fF M, m_fB M, m_fR M, 0) = Z0 := ⟨_, rfl⟩
        obtain ⟨hHZ, hgF, hgN, hzz, hz2, hZb, hn16⟩ := head_files (F' := F0) d1 d4 d5 d6 d7 i3 hf0 hgd0 hZ0
        have hgo : ∀ i, i < (m_rd M (64 * 0 + 1)) → (hfl (m_rd M (64 * 0 + 1)) F0 i 3 + 2) / 3 = hfl (m_rd M (64 * 0 + 1)) F0 i 2 := fun i hi => by
          rw [(hHZ i hi).2.2.1, (hHZ i hi).2.2.2]
          exact (hgF i hi).2.2
        have hgF2 : ∀ g, g < (m_rd M (64 * 0 + 1)) → 2 ≤ Z0.2.1 g ∧ 1 ≤ Z0.2.2.1 g ∧ 3 * Z0.2.2.1 g ≤ Z0.2.2.2.1 g + 2 := fun g hg => by
          have z := hgF g hg
          exact ⟨z.1, z.2.1, by omega⟩
        obtain ⟨Y0, hY0⟩ : ∃ Y0, rgO (m_rb M) (m_rd M) Z0 (m_rd M (64 * 0 + 1)) 0 (0, m_rk M, m_rv M) = Y0 := ⟨_, rfl⟩
        have hfw : fwO (c_dn S) (c_dg S) (m_rd M (64 * 0 + 1)) F0 (m_rd M (64 * 0 + 1)) 0 = Y0.1 := fw_eq n1 n4 hHZ hY0
        cases hY1 : Y0.1 with
        | some wr =>
          have hw1 : wr < 2 ^ 31 := rgO_lt hZb.2.1 hZb.2.2.1 (by rw [hY0]; exact hY1)
          exact ⟨⟨c_h1 S, c_h2 S, c_s1 S, c_s2 S, c_op S, c_nx S, c_wt S, c_sf S, c_lf S, c_dn S, c_dg S, c_un S, c_ug S, c_qn S, c_qt S, c_qg S, c_tn S, c_tk S, c_tv S, c_ts S, (m_rd M (64 * 0 + 1), nm1 (m_rd M) 6 (64 * 0 + 2), nm1 (m_rd M) 8 (64 * 0 + 48), F0).1, (m_rd M (64 * 0 + 1), nm1 (m_rd M) 6 (64 * 0 + 2), nm1 (m_rd M) 8 (64 * 0 + 48), F0).2.1, (m_rd M (64 * 0 + 1), nm1 (m_rd M) 6 (64 * 0 + 2), nm1 (m_rd M) 8 (64 * 0 + 48), F0).2.2.1, (m_rd M (64 * 0 + 1), nm1 (m_rd M) 6 (64 * 0 + 2), nm1 (m_rd M) 8 (64 * 0 + 48), F0).2.2.2, (0, 0, 1, F1).1, (0, 0, 1, F1).2.1, (0, 0, 1, F1).2.2.1, (0, 0, 1, F1).2.2.2⟩, ⟨m_rb M, m_rd M, 0, m_rQ M, m_rw M, m_ra M, m_ro M, 0, Y0.2.2.1, Y0.2.2.2, 0, Z0.1, Z0.2.1, Z0.2.2.1, Z0.2.2.2.1, 0, m_lB M, m_lR M, 0, 0, 1, 0⟩, -10 - nI wr, ⟨⟨⟨b1, b2, b3, b4, b5, hL0, hL1⟩, ⟨d1, d2, d3, hZb.1, hZb.2.1, hZb.2.2.1, hZb.2.2.2, d8, d9⟩⟩, ⟨⟨n1, n2, n3⟩, n4, n5, n6, n7, n8⟩, fun o => absurd (hro.symm.trans o) (by decide), fun _ => rfl⟩, fun A => c_SL_openWH (by omega) n6 n8 b1 b2 b5 b6 b7 wr (m_rd M (64 * 0 + 1), nm1 (m_rd M) 6 (64 * 0 + 2), nm1 (m_rd M) 8 (64 * 0 + 48), F0) (0, 0, 1, F1) (n5.trans hro) hr0 hr1 (show ¬ nm1 (m_rd M) 6 (64 * 0 + 2) < 0 by omega) i3 hgo (hfw.trans hY1) hw1, fun A => c_M_openW (by omega) d1 d4 d5 d6 d7 d8 0 (by decide) Z0 Y0 hro hh i3 i8 hZ0 hY0 hgF2 hgN wr hY1 hw1⟩
        | none =>
          obtain ⟨S0, hS0⟩ : ∃ S0, opL (c_dn S) (c_dg S) (c_dn S) (m_rd M (64 * 0 + 1)) F0 (m_rd M (64 * 0 + 1)) 0 ((0, c_tk S, c_tv S, c_ts S), uclr (c_dn S) (c_ug S), 0) = S0 := ⟨_, rfl⟩
          obtain ⟨V0, hV0⟩ : ∃ V0, rpl (c_dn S) (c_dg S) (c_dn S) (c_dn S) (S0.1, nm1 (m_rd M) 8 (64 * 0 + 48), mol (c_dn S) (c_dg S) (c_dn S) (c_dn S - 2) 2 S0.2.1) = V0 := ⟨_, rfl⟩
          obtain ⟨L0, hLg⟩ : ∃ L0, rlG (m_rb M) (m_rd M) Z0.2.1 Z0.2.2.1 (m_rd M (64 * 0 + 1)) 64 (Y0.2.1, Y0.2.2.1, Y0.2.2.2, 0, m_lB M, m_lR M, nm1 (m_rd M) 8 (64 * 0 + 48)) = L0 := ⟨_, rfl⟩
          have hYn : rgO (m_rb M) (m_rd M) Z0 (m_rd M (64 * 0 + 1)) 0 (0, m_rk M, m_rv M) = (none, Y0.2) := by
            rw [hY0, ← hY1]
          have hro2 := rel_open (k := k) (n := (m_rd M (64 * 0 + 1))) (gen := nm1 (m_rd M) 6 (64 * 0 + 2)) (nx0 := nm1 (m_rd M) 8 (64 * 0 + 48)) (h1 := c_h1 S) (h2 := c_h2 S) (s1 := c_s1 S) (s2 := c_s2 S) (pf := (0, 0, 1, F1).1) (pg := (0, 0, 1, F1).2.1) (px := (0, 0, 1, F1).2.2.1) (pF := (0, 0, 1, F1).2.2.2) hR hL0 hL1 hZb hHZ i3 i5 ⟨i7, i8⟩ hgF hgN hzz hz2 hYn hS0 hV0 hLg
          obtain ⟨⟨o1, o2, o3, o4⟩, hRel⟩ := hro2
          refine ⟨_, _, nI L0.1, hRel, fun A => ?_, fun A => c_M_openG (by omega) d1 d4 d5 d6 d7 d8 0 (by decide) Z0 Y0 hro hh i3 i8 hZ0 hY0 hgF2 hgN hY1 L0 hLg (by omega) (by omega)⟩
          rw [← o4]
          exact c_SL_openGH (by omega) n6 n8 b1 b2 b5 b6 b7 S0 V0 (m_rd M (64 * 0 + 1), nm1 (m_rd M) 6 (64 * 0 + 2), nm1 (m_rd M) 8 (64 * 0 + 48), F0) (0, 0, 1, F1) (n5.trans hro) hr0 hr1 (show ¬ nm1 (m_rd M) 6 (64 * 0 + 2) < 0 by omega) i3 hgo (hfw.trans hY1) hS0 hV0 o1 hn16
      | true =>
        obtain ⟨F1, hr1, hf1, hgd1, hc1⟩ := hrd_yes (F := c_pF S) (show 1 < c_dn S by omega) hA e1
        rw [hr1] at hL1
        by_cases c : nm1 (m_rd M) 6 (64 * 0 + 2) < nm1 (m_rd M) 6 (64 * 1 + 2)
        · have cc := c
          have hh : hdL (m_rd M) 2 0 none = some 1 := by
            show hdS (m_rd M) 1 (hdS (m_rd M) 0 none) = some 1
            rw [hd_new e0, hd_gt e1 cc]
          obtain ⟨i1, i2, i3, i4, i5, i6, i7, i8⟩ := hc1
          obtain ⟨Z0, hZ0⟩ : ∃ Z0, rf1 (m_rd M) (64 * 1) (m_rd M (64 * 1 + 1)) 0 (m_fN M, m_fF M, m_fB M, m_fR M, 0) = Z0 := ⟨_, rfl⟩
          obtain ⟨hHZ, hgF, hgN, hzz, hz2, hZb, hn16⟩ := head_files (F' := F1) d1 d4 d5 d6 d7 i3 hf1 hgd1 hZ0
          have hgo : ∀ i, i < (m_rd M (64 * 1 + 1)) → (hfl (m_rd M (64 * 1 + 1)) F1 i 3 + 2) / 3 = hfl (m_rd M (64 * 1 + 1)) F1 i 2 := fun i hi => by
            rw [(hHZ i hi).2.2.1, (hHZ i hi).2.2.2]
            exact (hgF i hi).2.2
          have hgF2 : ∀ g, g < (m_rd M (64 * 1 + 1)) → 2 ≤ Z0.2.1 g ∧ 1 ≤ Z0.2.2.1 g ∧ 3 * Z0.2.2.1 g ≤ Z0.2.2.2.1 g + 2 := fun g hg => by
            have z := hgF g hg
            exact ⟨z.1, z.2.1, by omega⟩
          obtain ⟨Y0, hY0⟩ : ∃ Y0, rgO (m_rb M) (m_rd M) Z0 (m_rd M (64 * 1 + 1)) 0 (0, m_rk M, m_rv M) = Y0 := ⟨_, rfl⟩
          have hfw : fwO (c_dn S) (c_dg S) (m_rd M (64 * 1 + 1)) F1 (m_rd M (64 * 1 + 1)) 0 = Y0.1 := fw_eq n1 n4 hHZ hY0
          cases hY1 : Y0.1 with
          | some wr =>
            have hw1 : wr < 2 ^ 31 := rgO_lt hZb.2.1 hZb.2.2.1 (by rw [hY0]; exact hY1)
            exact ⟨⟨c_s1 S, c_s2 S, c_h1 S, c_h2 S, c_op S, c_nx S, c_wt S, c_sf S, c_lf S, c_dn S, c_dg S, c_un S, c_ug S, c_qn S, c_qt S, c_qg S, c_tn S, c_tk S, c_tv S, c_ts S, (m_rd M (64 * 1 + 1), nm1 (m_rd M) 6 (64 * 1 + 2), nm1 (m_rd M) 8 (64 * 1 + 48), F1).1, (m_rd M (64 * 1 + 1), nm1 (m_rd M) 6 (64 * 1 + 2), nm1 (m_rd M) 8 (64 * 1 + 48), F1).2.1, (m_rd M (64 * 1 + 1), nm1 (m_rd M) 6 (64 * 1 + 2), nm1 (m_rd M) 8 (64 * 1 + 48), F1).2.2.1, (m_rd M (64 * 1 + 1), nm1 (m_rd M) 6 (64 * 1 + 2), nm1 (m_rd M) 8 (64 * 1 + 48), F1).2.2.2, (m_rd M (64 * 0 + 1), nm1 (m_rd M) 6 (64 * 0 + 2), nm1 (m_rd M) 8 (64 * 0 + 48), F0).1, (m_rd M (64 * 0 + 1), nm1 (m_rd M) 6 (64 * 0 + 2), nm1 (m_rd M) 8 (64 * 0 + 48), F0).2.1, (m_rd M (64 * 0 + 1), nm1 (m_rd M) 6 (64 * 0 + 2), nm1 (m_rd M) 8 (64 * 0 + 48), F0).2.2.1, (m_rd M (64 * 0 + 1), nm1 (m_rd M) 6 (64 * 0 + 2), nm1 (m_rd M) 8 (64 * 0 + 48), F0).2.2.2⟩, ⟨m_rb M, m_rd M, 0, m_rQ M, m_rw M, m_ra M, m_ro M, 0, Y0.2.2.1, Y0.2.2.2, 0, Z0.1, Z0.2.1, Z0.2.2.1, Z0.2.2.2.1, 0, m_lB M, m_lR M, 0, 0, 1, 0⟩, -10 - nI wr, ⟨⟨⟨b1, b2, b3, b4, b5, hL1, hL0⟩, ⟨d1, d2, d3, hZb.1, hZb.2.1, hZb.2.2.1, hZb.2.2.2, d8, d9⟩⟩, ⟨⟨n1, n2, n3⟩, n4, n5, n6, n7, n8⟩, fun o => absurd (hro.symm.trans o) (by decide), fun _ => rfl⟩, fun A => c_SL_openWS (by omega) n6 n8 b1 b2 b5 b6 b7 wr (m_rd M (64 * 0 + 1), nm1 (m_rd M) 6 (64 * 0 + 2), nm1 (m_rd M) 8 (64 * 0 + 48), F0) (m_rd M (64 * 1 + 1), nm1 (m_rd M) 6 (64 * 1 + 2), nm1 (m_rd M) 8 (64 * 1 + 48), F1) (n5.trans hro) hr0 hr1 cc i3 hgo (hfw.trans hY1) hw1, fun A => c_M_openW (by omega) d1 d4 d5 d6 d7 d8 1 (by decide) Z0 Y0 hro hh i3 i8 hZ0 hY0 hgF2 hgN wr hY1 hw1⟩
          | none =>
            obtain ⟨S0, hS0⟩ : ∃ S0, opL (c_dn S) (c_dg S) (c_dn S) (m_rd M (64 * 1 + 1)) F1 (m_rd M (64 * 1 + 1)) 0 ((0, c_tk S, c_tv S, c_ts S), uclr (c_dn S) (c_ug S), 0) = S0 := ⟨_, rfl⟩
            obtain ⟨V0, hV0⟩ : ∃ V0, rpl (c_dn S) (c_dg S) (c_dn S) (c_dn S) (S0.1, nm1 (m_rd M) 8 (64 * 1 + 48), mol (c_dn S) (c_dg S) (c_dn S) (c_dn S - 2) 2 S0.2.1) = V0 := ⟨_, rfl⟩
            obtain ⟨L0, hLg⟩ : ∃ L0, rlG (m_rb M) (m_rd M) Z0.2.1 Z0.2.2.1 (m_rd M (64 * 1 + 1)) 64 (Y0.2.1, Y0.2.2.1, Y0.2.2.2, 0, m_lB M, m_lR M, nm1 (m_rd M) 8 (64 * 1 + 48)) = L0 := ⟨_, rfl⟩
            have hYn : rgO (m_rb M) (m_rd M) Z0 (m_rd M (64 * 1 + 1)) 0 (0, m_rk M, m_rv M) = (none, Y0.2) := by
              rw [hY0, ← hY1]
            have hro2 := rel_open (k := k) (n := (m_rd M (64 * 1 + 1))) (gen := nm1 (m_rd M) 6 (64 * 1 + 2)) (nx0 := nm1 (m_rd M) 8 (64 * 1 + 48)) (h1 := c_s1 S) (h2 := c_s2 S) (s1 := c_h1 S) (s2 := c_h2 S) (pf := (m_rd M (64 * 0 + 1), nm1 (m_rd M) 6 (64 * 0 + 2), nm1 (m_rd M) 8 (64 * 0 + 48), F0).1) (pg := (m_rd M (64 * 0 + 1), nm1 (m_rd M) 6 (64 * 0 + 2), nm1 (m_rd M) 8 (64 * 0 + 48), F0).2.1) (px := (m_rd M (64 * 0 + 1), nm1 (m_rd M) 6 (64 * 0 + 2), nm1 (m_rd M) 8 (64 * 0 + 48), F0).2.2.1) (pF := (m_rd M (64 * 0 + 1), nm1 (m_rd M) 6 (64 * 0 + 2), nm1 (m_rd M) 8 (64 * 0 + 48), F0).2.2.2) hR hL1 hL0 hZb hHZ i3 i5 ⟨i7, i8⟩ hgF hgN hzz hz2 hYn hS0 hV0 hLg
            obtain ⟨⟨o1, o2, o3, o4⟩, hRel⟩ := hro2
            refine ⟨_, _, nI L0.1, hRel, fun A => ?_, fun A => c_M_openG (by omega) d1 d4 d5 d6 d7 d8 1 (by decide) Z0 Y0 hro hh i3 i8 hZ0 hY0 hgF2 hgN hY1 L0 hLg (by omega) (by omega)⟩
            rw [← o4]
            exact c_SL_openGS (by omega) n6 n8 b1 b2 b5 b6 b7 S0 V0 (m_rd M (64 * 0 + 1), nm1 (m_rd M) 6 (64 * 0 + 2), nm1 (m_rd M) 8 (64 * 0 + 48), F0) (m_rd M (64 * 1 + 1), nm1 (m_rd M) 6 (64 * 1 + 2), nm1 (m_rd M) 8 (64 * 1 + 48), F1) (n5.trans hro) hr0 hr1 cc i3 hgo (hfw.trans hY1) hS0 hV0 o1 hn16
        · have cc := Nat.not_lt.mp c
          have hh : hdL (m_rd M) 2 0 none = some 0 := by
            show hdS (m_rd M) 1 (hdS (m_rd M) 0 none) = some 0
            rw [hd_new e0, hd_le e1 cc]
          obtain ⟨i1, i2, i3, i4, i5, i6, i7, i8⟩ := hc0
          obtain ⟨Z0, hZ0⟩ : ∃ Z0, rf1 (m_rd M) (64 * 0) (m_rd M (64 * 0 + 1)) 0 (m_fN M, m_fF M, m_fB M, m_fR M, 0) = Z0 := ⟨_, rfl⟩
          obtain ⟨hHZ, hgF, hgN, hzz, hz2, hZb, hn16⟩ := head_files (F' := F0) d1 d4 d5 d6 d7 i3 hf0 hgd0 hZ0
          have hgo : ∀ i, i < (m_rd M (64 * 0 + 1)) → (hfl (m_rd M (64 * 0 + 1)) F0 i 3 + 2) / 3 = hfl (m_rd M (64 * 0 + 1)) F0 i 2 := fun i hi => by
            rw [(hHZ i hi).2.2.1, (hHZ i hi).2.2.2]
            exact (hgF i hi).2.2
          have hgF2 : ∀ g, g < (m_rd M (64 * 0 + 1)) → 2 ≤ Z0.2.1 g ∧ 1 ≤ Z0.2.2.1 g ∧ 3 * Z0.2.2.1 g ≤ Z0.2.2.2.1 g + 2 := fun g hg => by
            have z := hgF g hg
            exact ⟨z.1, z.2.1, by omega⟩
          obtain ⟨Y0, hY0⟩ : ∃ Y0, rgO (m_rb M) (m_rd M) Z0 (m_rd M (64 * 0 + 1)) 0 (0, m_rk M, m_rv M) = Y0 := ⟨_, rfl⟩
          have hfw : fwO (c_dn S) (c_dg S) (m_rd M (64 * 0 + 1)) F0 (m_rd M (64 * 0 + 1)) 0 = Y0.1 := fw_eq n1 n4 hHZ hY0
          cases hY1 : Y0.1 with
          | some wr =>
            have hw1 : wr < 2 ^ 31 := rgO_lt hZb.2.1 hZb.2.2.1 (by rw [hY0]; exact hY1)
            exact ⟨⟨c_h1 S, c_h2 S, c_s1 S, c_s2 S, c_op S, c_nx S, c_wt S, c_sf S, c_lf S, c_dn S, c_dg S, c_un S, c_ug S, c_qn S, c_qt S, c_qg S, c_tn S, c_tk S, c_tv S, c_ts S, (m_rd M (64 * 0 + 1), nm1 (m_rd M) 6 (64 * 0 + 2), nm1 (m_rd M) 8 (64 * 0 + 48), F0).1, (m_rd M (64 * 0 + 1), nm1 (m_rd M) 6 (64 * 0 + 2), nm1 (m_rd M) 8 (64 * 0 + 48), F0).2.1, (m_rd M (64 * 0 + 1), nm1 (m_rd M) 6 (64 * 0 + 2), nm1 (m_rd M) 8 (64 * 0 + 48), F0).2.2.1, (m_rd M (64 * 0 + 1), nm1 (m_rd M) 6 (64 * 0 + 2), nm1 (m_rd M) 8 (64 * 0 + 48), F0).2.2.2, (m_rd M (64 * 1 + 1), nm1 (m_rd M) 6 (64 * 1 + 2), nm1 (m_rd M) 8 (64 * 1 + 48), F1).1, (m_rd M (64 * 1 + 1), nm1 (m_rd M) 6 (64 * 1 + 2), nm1 (m_rd M) 8 (64 * 1 + 48), F1).2.1, (m_rd M (64 * 1 + 1), nm1 (m_rd M) 6 (64 * 1 + 2), nm1 (m_rd M) 8 (64 * 1 + 48), F1).2.2.1, (m_rd M (64 * 1 + 1), nm1 (m_rd M) 6 (64 * 1 + 2), nm1 (m_rd M) 8 (64 * 1 + 48), F1).2.2.2⟩, ⟨m_rb M, m_rd M, 0, m_rQ M, m_rw M, m_ra M, m_ro M, 0, Y0.2.2.1, Y0.2.2.2, 0, Z0.1, Z0.2.1, Z0.2.2.1, Z0.2.2.2.1, 0, m_lB M, m_lR M, 0, 0, 1, 0⟩, -10 - nI wr, ⟨⟨⟨b1, b2, b3, b4, b5, hL0, hL1⟩, ⟨d1, d2, d3, hZb.1, hZb.2.1, hZb.2.2.1, hZb.2.2.2, d8, d9⟩⟩, ⟨⟨n1, n2, n3⟩, n4, n5, n6, n7, n8⟩, fun o => absurd (hro.symm.trans o) (by decide), fun _ => rfl⟩, fun A => c_SL_openWH (by omega) n6 n8 b1 b2 b5 b6 b7 wr (m_rd M (64 * 0 + 1), nm1 (m_rd M) 6 (64 * 0 + 2), nm1 (m_rd M) 8 (64 * 0 + 48), F0) (m_rd M (64 * 1 + 1), nm1 (m_rd M) 6 (64 * 1 + 2), nm1 (m_rd M) 8 (64 * 1 + 48), F1) (n5.trans hro) hr0 hr1 c i3 hgo (hfw.trans hY1) hw1, fun A => c_M_openW (by omega) d1 d4 d5 d6 d7 d8 0 (by decide) Z0 Y0 hro hh i3 i8 hZ0 hY0 hgF2 hgN wr hY1 hw1⟩
          | none =>
            obtain ⟨S0, hS0⟩ : ∃ S0, opL (c_dn S) (c_dg S) (c_dn S) (m_rd M (64 * 0 + 1)) F0 (m_rd M (64 * 0 + 1)) 0 ((0, c_tk S, c_tv S, c_ts S), uclr (c_dn S) (c_ug S), 0) = S0 := ⟨_, rfl⟩
            obtain ⟨V0, hV0⟩ : ∃ V0, rpl (c_dn S) (c_dg S) (c_dn S) (c_dn S) (S0.1, nm1 (m_rd M) 8 (64 * 0 + 48), mol (c_dn S) (c_dg S) (c_dn S) (c_dn S - 2) 2 S0.2.1) = V0 := ⟨_, rfl⟩
            obtain ⟨L0, hLg⟩ : ∃ L0, rlG (m_rb M) (m_rd M) Z0.2.1 Z0.2.2.1 (m_rd M (64 * 0 + 1)) 64 (Y0.2.1, Y0.2.2.1, Y0.2.2.2, 0, m_lB M, m_lR M, nm1 (m_rd M) 8 (64 * 0 + 48)) = L0 := ⟨_, rfl⟩
            have hYn : rgO (m_rb M) (m_rd M) Z0 (m_rd M (64 * 0 + 1)) 0 (0, m_rk M, m_rv M) = (none, Y0.2) := by
              rw [hY0, ← hY1]
            have hro2 := rel_open (k := k) (n := (m_rd M (64 * 0 + 1))) (gen := nm1 (m_rd M) 6 (64 * 0 + 2)) (nx0 := nm1 (m_rd M) 8 (64 * 0 + 48)) (h1 := c_h1 S) (h2 := c_h2 S) (s1 := c_s1 S) (s2 := c_s2 S) (pf := (m_rd M (64 * 1 + 1), nm1 (m_rd M) 6 (64 * 1 + 2), nm1 (m_rd M) 8 (64 * 1 + 48), F1).1) (pg := (m_rd M (64 * 1 + 1), nm1 (m_rd M) 6 (64 * 1 + 2), nm1 (m_rd M) 8 (64 * 1 + 48), F1).2.1) (px := (m_rd M (64 * 1 + 1), nm1 (m_rd M) 6 (64 * 1 + 2), nm1 (m_rd M) 8 (64 * 1 + 48), F1).2.2.1) (pF := (m_rd M (64 * 1 + 1), nm1 (m_rd M) 6 (64 * 1 + 2), nm1 (m_rd M) 8 (64 * 1 + 48), F1).2.2.2) hR hL0 hL1 hZb hHZ i3 i5 ⟨i7, i8⟩ hgF hgN hzz hz2 hYn hS0 hV0 hLg
            obtain ⟨⟨o1, o2, o3, o4⟩, hRel⟩ := hro2
            refine ⟨_, _, nI L0.1, hRel, fun A => ?_, fun A => c_M_openG (by omega) d1 d4 d5 d6 d7 d8 0 (by decide) Z0 Y0 hro hh i3 i8 hZ0 hY0 hgF2 hgN hY1 L0 hLg (by omega) (by omega)⟩
            rw [← o4]
            exact c_SL_openGH (by omega) n6 n8 b1 b2 b5 b6 b7 S0 V0 (m_rd M (64 * 0 + 1), nm1 (m_rd M) 6 (64 * 0 + 2), nm1 (m_rd M) 8 (64 * 0 + 48), F0) (m_rd M (64 * 1 + 1), nm1 (m_rd M) 6 (64 * 1 + 2), nm1 (m_rd M) 8 (64 * 1 + 48), F1) (n5.trans hro) hr0 hr1 c i3 hgo (hfw.trans hY1) hS0 hV0 o1 hn16
