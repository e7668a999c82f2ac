set_option maxHeartbeats 4000000 in
set_option maxRecDepth 100000 in
theorem p_flush (l : Launch)  : PrI Rel l yX5_flush (Cond.code yX5_flush cX5_flush 3 (some .int) :: TB) { frames := 5, cells := 0, slots := 0, locals := 121 } yX6_flush (Cond.code yX6_flush cX6_flush 2 (some .int) :: TB) { frames := 4, cells := 0, slots := 0, locals := 89 } [] := by
  intro dC dI cB cI cL a b k S M hk hR
  obtain ⟨⟨⟨b1, b2, b3, b4, b5, b6, b7⟩, ⟨d1, d2, d3, d4, d5, d6, d7, d8, d9⟩⟩, ⟨⟨n1, n2, n3⟩, n4, n5, n6, n7, n8⟩, hO, hC⟩ := id hR
  cases hro : m_ro M with
  | false => exact ⟨S, M, -4, hR.later, fun A => c_SL_flushC (n5.trans hro), fun A => c_M_flushC hro⟩
  | true =>
    obtain ⟨hu, hq, ht, hg⟩ := hO hro
    have hrm := rel_room n3 n2 hu hg
    obtain ⟨⟨u1, u2, u3, u4, u5, u6, u7⟩, ⟨v1, v2, v3, v4, v5⟩, u8, u9⟩ := hu
    obtain ⟨q1, q2, q3, ⟨q4, q5⟩, q6⟩ := hq
    obtain ⟨t1, t2, t3, t4, t5, t6⟩ := ht
    have hul : ulr (c_ug S) 1 (c_un S) 0 0 = frM (usM (m_rf M) (m_fF M) (m_fB M) (m_rl M) (m_lB M)) 1 (m_rb M - 2) 2 0 := by
      rw [u7]
      exact ulr_heads (by decide) (by omega) (by rw [u8 0 (by omega), usM_head (by decide)]; decide) (by rw [u8 1 (by omega), usM_head (by decide)]; decide) (fun x _ h2 => u8 x h2)
    by_cases h0 : m_rt M = 0
    · exact ⟨S, M, nI 0, hR.later, fun A => c_SL_flushZ (n5.trans hro) (u2.trans h0), fun A => c_M_flushZ hro h0⟩
    · cases hfr : frM (usM (m_rf M) (m_fF M) (m_fB M) (m_rl M) (m_lB M)) 1 (m_rb M - 2) 2 0 with
      | none => exact ⟨S, M, -3, hR.later, fun A => c_SL_flushF n6 b2 (by omega) (by omega) (n5.trans hro) (by omega) (hul.trans hfr), fun A => c_M_flushF (by omega) d2 d3 (by omega) (by omega) v2 d5 d6 (by omega) d8 (by omega) (by omega) hro (by omega) hfr⟩
      | some y =>
        have hf := frM_free (y := 2) (r := 0) (by omega) (by omega) (fun x h1 h2 => by omega) hfr
        have hl := rel_free hg n3 n2 hfr
        have hL := rel_log (k := k + 1) hR.1 hR.2.1 hro (by omega) ⟨⟨u1, u2, u3, u4, u5, u6, u7⟩, u8, u9⟩ (by omega) ⟨q1, q2, q3, ⟨q4, q5⟩, q6⟩ ⟨t1, t2, t3, t4, t5, t6⟩ hg hfr (by omega)
        refine ⟨_, _, nI (m_rt M), hL.1, fun A => ?_, fun A => c_M_flushL (by omega) d2 d3 (by omega) (by omega) v2 d5 d6 (by omega) d8 (by omega) (by omega) y hro (by omega) hfr (by omega) (by omega)⟩
        rw [← u2]
        exact c_SL_flushL n6 n7 n8 b2 b3 b4 b5 (by omega) (by omega) y (n5.trans hro) (by omega) (by omega) (hul.trans hfr) (by omega) (by omega) hL.2

set_option maxHeartbeats 4000000 in
set_option maxRecDepth 100000 in
theorem p_add (l : Launch) (z0 : Int64) (z1 : Int64) : PrI Rel l yX5_add (Cond.code yX5_add cX5_add 7 (some .int) :: TB) { frames := 5, cells := 0, slots := 0, locals := 121 } yX6_add (Cond.code yX6_add cX6_add 5 (some .int) :: TB) { frames := 4, cells := 0, slots := 0, locals := 89 } [.long z0, .long z1] := by
  intro dC dI cB cI cL a b k S M hk hR
  obtain ⟨⟨⟨b1, b2, b3, b4, b5, b6, b7⟩, ⟨d1, d2, d3, d4, d5, d6, d7, d8, d9⟩⟩, ⟨⟨n1, n2, n3⟩, n4, n5, n6, n7, n8⟩, hO, hC⟩ := id hR
  cases hro : m_ro M with
  | false => exact ⟨S, M, -4, hR.later, fun A => c_SL_addC z0 z1 (n5.trans hro), fun A => c_M_addC z0 z1 hro⟩
  | true =>
    obtain ⟨hu, hq, ht, hg⟩ := hO hro
    have hrm := rel_room n3 n2 hu hg
    obtain ⟨⟨u1, u2, u3, u4, u5, u6, u7⟩, ⟨v1, v2, v3, v4, v5⟩, u8, u9⟩ := hu
    obtain ⟨q1, q2, q3, ⟨q4, q5⟩, q6⟩ := hq
    obtain ⟨t1, t2, t3, t4, t5, t6⟩ := ht
    have hul : ulr (c_ug S) 1 (c_un S) 0 0 = frM (usM (m_rf M) (m_fF M) (m_fB M) (m_rl M) (m_lB M)) 1 (m_rb M - 2) 2 0 := by
      rw [u7]
      exact ulr_heads (by decide) (by omega) (by rw [u8 0 (by omega), usM_head (by decide)]; decide) (by rw [u8 1 (by omega), usM_head (by decide)]; decide) (fun x _ h2 => u8 x h2)
    have hcap : m_rn M < 192 := by omega
    have hT : tI (c_tn S, c_tk S, c_tv S, c_ts S) z0 z1 (c_nx S) = (m_rn M + 1, tpl (tup (c_tk S) z0 (m_rn M) 0) (m_rn M) (c_tk S) z0, tpl (tup (c_tk S) z0 (m_rn M) 0) (m_rn M) (c_tv S) z1, tpl (tup (c_tk S) z0 (m_rn M) 0) (m_rn M) (c_ts S) (c_nx S)) := by
      rw [u6, tI, if_pos hcap]
    have hS := same_add (k := z0) (v := z1) (q := c_nx S) t1 t2
    have hsq : va_up (sqM (c_ex S) (ifM (m_fR M) (m_rf M) 0 0)) (m_rn M) (c_nx S) = sqM (c_ex S) (ifM (m_fR M) (m_rf M) 0 0) := by
      funext x
      by_cases e : x = m_rn M
      · rw [e, va_up_self, sqM, if_neg (by omega)]
        omega
      · rw [va_up_ne _ _ e]
    rw [hsq] at hS
    have hT1 : RelT ⟨c_h1 S, c_h2 S, c_s1 S, c_s2 S, c_op S, c_nx S + 1, c_wt S + 1, c_sf S, c_lf S, c_dn S, c_dg S, c_un S, c_ug S, c_qn S, c_qt S, c_qg S, m_rn M + 1, tpl (tup (c_tk S) z0 (m_rn M) 0) (m_rn M) (c_tk S) z0, tpl (tup (c_tk S) z0 (m_rn M) 0) (m_rn M) (c_tv S) z1, tpl (tup (c_tk S) z0 (m_rn M) 0) (m_rn M) (c_ts S) (c_nx S), c_ef S, c_eg S, c_ex S, c_eF S, c_pf S, c_pg S, c_px S, c_pF S⟩ ⟨m_rb M, m_rd M, m_rq M, m_rQ M, m_rw M, m_ra M, m_ro M, m_rn M + 1, va_up (m_rk M) (m_rn M) z0, va_up (m_rv M) (m_rn M) z1, m_rf M, m_fN M, m_fF M, m_fB M, m_fR M, m_rl M, m_lB M, m_lR M, m_rt M + 1, m_rg M, m_rx M + 1, m_rz M⟩ := ⟨hS.1, hS.2, ⟨t3, by show ifM (m_fR M) (m_rf M) 0 0 ≤ m_rn M + 1; omega, by show m_rx M + 1 = c_ex S + (m_rn M + 1 - ifM (m_fR M) (m_rf M) 0 0); omega, by show m_rt M + 1 + ifM (m_fR M) (m_rf M) 0 0 ≤ m_rn M + 1; omega⟩⟩
    have hG1 : RelG ⟨m_rb M, m_rd M, m_rq M, m_rQ M, m_rw M, m_ra M, m_ro M, m_rn M + 1, va_up (m_rk M) (m_rn M) z0, va_up (m_rv M) (m_rn M) z1, m_rf M, m_fN M, m_fF M, m_fB M, m_fR M, m_rl M, m_lB M, m_lR M, m_rt M + 1, m_rg M, m_rx M + 1, m_rz M⟩ := ⟨hg.1, hg.2.1, hg.2.2.1, hg.2.2.2.1, by show m_rn M + 1 = ifM (m_fR M) (m_rf M) 0 0 + ifM (m_lR M) (m_rl M) 0 0 + (m_rt M + 1); have := hg.2.2.2.2.1; omega, hg.2.2.2.2.2.1, hg.2.2.2.2.2.2⟩
    have hQ1 : RelQ ⟨c_h1 S, c_h2 S, c_s1 S, c_s2 S, c_op S, c_nx S + 1, c_wt S + 1, c_sf S, c_lf S, c_dn S, c_dg S, c_un S, c_ug S, c_qn S, c_qt S, c_qg S, m_rn M + 1, tpl (tup (c_tk S) z0 (m_rn M) 0) (m_rn M) (c_tk S) z0, tpl (tup (c_tk S) z0 (m_rn M) 0) (m_rn M) (c_tv S) z1, tpl (tup (c_tk S) z0 (m_rn M) 0) (m_rn M) (c_ts S) (c_nx S), c_ef S, c_eg S, c_ex S, c_eF S, c_pf S, c_pg S, c_px S, c_pF S⟩ ⟨m_rb M, m_rd M, m_rq M, m_rQ M, m_rw M, m_ra M, m_ro M, m_rn M + 1, va_up (m_rk M) (m_rn M) z0, va_up (m_rv M) (m_rn M) z1, m_rf M, m_fN M, m_fF M, m_fB M, m_fR M, m_rl M, m_lB M, m_lR M, m_rt M + 1, m_rg M, m_rx M + 1, m_rz M⟩ := ⟨q1, q2, q3, ⟨q4, q5⟩, by
      show nI (c_sf S) = (akM (m_rQ M) (m_rq M) (m_lB M) (m_lR M) (m_rl M) (lN (m_rx M + 1) - lN 1 - lN (m_rt M + 1))).toInt32
      rw [q6, lN_sub (show 1 ≤ m_rx M by omega), lN_sub (show m_rt M ≤ m_rx M - 1 by omega), lN_sub (show 1 ≤ m_rx M + 1 by omega), lN_sub (show m_rt M + 1 ≤ m_rx M + 1 - 1 by omega), show m_rx M + 1 - 1 - (m_rt M + 1) = m_rx M - 1 - m_rt M by omega]⟩
    have hB1 : RelB ⟨c_h1 S, c_h2 S, c_s1 S, c_s2 S, c_op S, c_nx S + 1, c_wt S + 1, c_sf S, c_lf S, c_dn S, c_dg S, c_un S, c_ug S, c_qn S, c_qt S, c_qg S, m_rn M + 1, tpl (tup (c_tk S) z0 (m_rn M) 0) (m_rn M) (c_tk S) z0, tpl (tup (c_tk S) z0 (m_rn M) 0) (m_rn M) (c_tv S) z1, tpl (tup (c_tk S) z0 (m_rn M) 0) (m_rn M) (c_ts S) (c_nx S), c_ef S, c_eg S, c_ex S, c_eF S, c_pf S, c_pg S, c_px S, c_pF S⟩ ⟨m_rb M, m_rd M, m_rq M, m_rQ M, m_rw M, m_ra M, m_ro M, m_rn M + 1, va_up (m_rk M) (m_rn M) z0, va_up (m_rv M) (m_rn M) z1, m_rf M, m_fN M, m_fF M, m_fB M, m_fR M, m_rl M, m_lB M, m_lR M, m_rt M + 1, m_rg M, m_rx M + 1, m_rz M⟩ := ⟨⟨b1, b2, b3, b4, va_up_lt (shf_lt b5) (by omega), b6, b7⟩, ⟨d1, d2, d3, d4, d5, d6, d7, d8, d9⟩⟩
    have hN1 : RelN ⟨c_h1 S, c_h2 S, c_s1 S, c_s2 S, c_op S, c_nx S + 1, c_wt S + 1, c_sf S, c_lf S, c_dn S, c_dg S, c_un S, c_ug S, c_qn S, c_qt S, c_qg S, m_rn M + 1, tpl (tup (c_tk S) z0 (m_rn M) 0) (m_rn M) (c_tk S) z0, tpl (tup (c_tk S) z0 (m_rn M) 0) (m_rn M) (c_tv S) z1, tpl (tup (c_tk S) z0 (m_rn M) 0) (m_rn M) (c_ts S) (c_nx S), c_ef S, c_eg S, c_ex S, c_eF S, c_pf S, c_pg S, c_px S, c_pF S⟩ ⟨m_rb M, m_rd M, m_rq M, m_rQ M, m_rw M, m_ra M, m_ro M, m_rn M + 1, va_up (m_rk M) (m_rn M) z0, va_up (m_rv M) (m_rn M) z1, m_rf M, m_fN M, m_fF M, m_fB M, m_fR M, m_rl M, m_lB M, m_lR M, m_rt M + 1, m_rg M, m_rx M + 1, m_rz M⟩ := ⟨⟨n1, n2, n3⟩, n4, n5, n6, n7, (show m_rn M + 1 ≤ 192 by omega)⟩
    by_cases h0 : m_rt M = 2
    · cases hfr : frM (usM (m_rf M) (m_fF M) (m_fB M) (m_rl M) (m_lB M)) 1 (m_rb M - 2) 2 0 with
      | none => exact ⟨S, M, -3, hR.later, fun A => c_SL_addF n6 b2 z0 z1 (n5.trans hro) (u2.trans h0) (hul.trans hfr), fun A => c_M_addF (by omega) v2 d5 d6 (by omega) d8 z0 z1 hro h0 hfr⟩
      | some y =>
        have hf := frM_free (y := 2) (r := 0) (by omega) (by omega) (fun x h1 h2 => by omega) hfr
        have hl := rel_free hg n3 n2 hfr
        have hL := rel_log (k := k + 1) hB1 hN1 hro (show 1 ≤ m_rt M + 1 ∧ m_rt M + 1 ≤ 3 by omega) ⟨⟨(show c_nx S + 1 = m_rx M + 1 by omega), (show c_wt S + 1 = m_rt M + 1 by omega), u3, u4, u5, rfl, u7⟩, u8, u9⟩ (show m_rf M ≤ 5 ∧ m_rx M + 1 ≤ 1000000200 + 3 * (k + 1) ∧ m_rg M ≤ 1000000000 + (k + 1) ∧ m_rz M ≤ 65536 + (k + 1) by omega) hQ1 hT1 hG1 hfr (show c_qn S < 64 by omega)
        refine ⟨_, _, nI (m_rx M), hL.1, fun A => ?_, fun A => c_M_addL (by omega) d2 d3 (by omega) (by omega) v2 d5 d6 (by omega) d8 (by omega) (by omega) z0 z1 y hro h0 hfr (by omega) (by omega) (by omega) (by omega)⟩
        rw [← u1]
        exact c_SL_addL n6 n7 n8 b2 b3 b4 b5 (by omega) (by omega) z0 z1 y (m_rn M + 1, tpl (tup (c_tk S) z0 (m_rn M) 0) (m_rn M) (c_tk S) z0, tpl (tup (c_tk S) z0 (m_rn M) 0) (m_rn M) (c_tv S) z1, tpl (tup (c_tk S) z0 (m_rn M) 0) (m_rn M) (c_ts S) (c_nx S)) (n5.trans hro) (u2.trans h0) (hul.trans hfr) (by omega) (by omega) (by omega) hT hL.2
    · refine ⟨⟨c_h1 S, c_h2 S, c_s1 S, c_s2 S, c_op S, c_nx S + 1, c_wt S + 1, c_sf S, c_lf S, c_dn S, c_dg S, c_un S, c_ug S, c_qn S, c_qt S, c_qg S, m_rn M + 1, tpl (tup (c_tk S) z0 (m_rn M) 0) (m_rn M) (c_tk S) z0, tpl (tup (c_tk S) z0 (m_rn M) 0) (m_rn M) (c_tv S) z1, tpl (tup (c_tk S) z0 (m_rn M) 0) (m_rn M) (c_ts S) (c_nx S), c_ef S, c_eg S, c_ex S, c_eF S, c_pf S, c_pg S, c_px S, c_pF S⟩, ⟨m_rb M, m_rd M, m_rq M, m_rQ M, m_rw M, m_ra M, m_ro M, m_rn M + 1, va_up (m_rk M) (m_rn M) z0, va_up (m_rv M) (m_rn M) z1, m_rf M, m_fN M, m_fF M, m_fB M, m_fR M, m_rl M, m_lB M, m_lR M, m_rt M + 1, m_rg M, m_rx M + 1, m_rz M⟩, nI (m_rx M), ⟨hB1, hN1, fun _ => ⟨⟨⟨(show c_nx S + 1 = m_rx M + 1 by omega), (show c_wt S + 1 = m_rt M + 1 by omega), u3, u4, u5, rfl, u7⟩, (show m_rt M + 1 ≤ 2 ∧ m_rf M ≤ 5 ∧ m_rx M + 1 ≤ 1000000200 + 3 * (k + 1) ∧ m_rg M ≤ 1000000000 + (k + 1) ∧ m_rz M ≤ 65536 + (k + 1) by omega), u8, u9⟩, hQ1, hT1, hG1⟩, fun o => absurd (hro.symm.trans o) (by decide)⟩, fun A => ?_, fun A => c_M_addN (by omega) (by omega) (by omega) (by omega) z0 z1 hro (by omega)⟩
      rw [← u1]
      exact c_SL_addN n8 b5 (by omega) (by omega) z0 z1 (m_rn M + 1, tpl (tup (c_tk S) z0 (m_rn M) 0) (m_rn M) (c_tk S) z0, tpl (tup (c_tk S) z0 (m_rn M) 0) (m_rn M) (c_tv S) z1, tpl (tup (c_tk S) z0 (m_rn M) 0) (m_rn M) (c_ts S) (c_nx S)) (n5.trans hro) (by omega) hT
