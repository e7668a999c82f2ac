set_option maxHeartbeats 4000000 in
set_option maxRecDepth 100000 in
theorem p_commit (l : Launch) (z0 : Int32) : PrI Rel l yX5_commit (Cond.code yX5_commit cX5_commit 7 (some .int) :: TB) { frames := 5, cells := 0, slots := 0, locals := 124 } yX6_commit (Cond.code yX6_commit cX6_commit 10 (some .int) :: TB) { frames := 3, cells := 0, slots := 0, locals := 72 } [.int z0] := by
  intro dC dI cB cI cL a b k S M hk hR
  obtain ⟨⟨⟨b1, b2, b3, b4, b5, b6, b7⟩, ⟨d1, d2, d3, d4, d5, d6, d7, d8, d9⟩⟩, ⟨⟨n1, n2, n3⟩, n4, n5, n6, n7, n8⟩, hO, hC⟩ := id hR
  by_cases hz : (-1) ≤ z0
  · cases hro : m_ro M with
    | false => exact ⟨S, M, -4, hR.later, fun A => c_SL_commitC z0 hz (n5.trans hro), fun A => c_M_commitC z0 hz hro⟩
    | true =>
      obtain ⟨hu, hq, ht, hg⟩ := hO hro
      have hrm := rel_room n3 n2 hu hg
      obtain ⟨⟨u1, u2, u3, u4, u5, u6, u7⟩, ⟨v1, v2, v3, v4, v5⟩, u8, u9⟩ := hu
      obtain ⟨q1, q2, q3, ⟨q4, q5⟩, q6⟩ := hq
      obtain ⟨t1, t2, t3, t4, t5, t6⟩ := ht
      by_cases hl : m_rn M = ifM (m_fR M) (m_rf M) 0 0
      · exact ⟨S, M, nI 0, hR.later, fun A => c_SL_commitZ (by omega) z0 hz (n5.trans hro) (by omega), fun A => c_M_commitZ (by omega) v2 d7 z0 hz hro hl⟩
      · rcases (show m_rf M = 5 ∨ m_rf M < 5 by omega) with h5 | h5
        · have hrn : m_rn M - 0 = m_rn M := Nat.sub_zero _
          have em : ((c_tn S) + 2) / 3 = ((m_rn M - 0) + 2) / 3 := by omega
          have hul : ulr (c_ug S) (((c_tn S) + 2) / 3) (c_un S) 0 0 = frM (usM (m_rf M) (m_fF M) (m_fB M) (m_rl M) (m_lB M)) (((m_rn M - 0) + 2) / 3) (m_rb M - 2) 2 0 := by
            rw [em, u7]
            exact ulr_heads (by omega) (by omega) (by rw [u8 0 (by omega), usM_head (by decide)]; decide) (by rw [u8 1 (by omega), usM_head (by decide)]; decide) (fun x _ h2 => u8 x h2)
          cases hfr : frM (usM (m_rf M) (m_fF M) (m_fB M) (m_rl M) (m_lB M)) (((m_rn M - 0) + 2) / 3) (m_rb M - 2) 2 0 with
          | none => exact ⟨S, M, -3, hR.later, fun A => c_SL_commitFM n6 n8 b2 (by omega) z0 hz (n5.trans hro) (by omega) (u5.trans h5) (by omega) (hul.trans hfr), fun A => c_M_commitFM (by omega) (by omega) v2 d5 d6 d7 (by omega) d8 z0 hz hro (by omega) h5 hfr⟩
          | some y =>
            have hf := frM_free (y := 2) (r := 0) (by omega) (by omega) (fun x h1 h2 => by omega) hfr
            obtain ⟨P0, hP0⟩ : ∃ P0, plh true (c_ef S) (c_eF S) (c_pF S) (c_lf S) y (((c_tn S) + 2) / 3) (c_tn S) = P0 := ⟨_, rfl⟩
            obtain ⟨Q0, hQ0⟩ : ∃ Q0, qf1 (((c_tn S) + 2) / 3) (c_tn S) y (c_lf S + 1) (((c_tn S) + 2) / 3) 0 (c_qn S, c_qt S, c_qg S) = Q0 := ⟨_, rfl⟩
            obtain ⟨G0, hG0⟩ : ∃ G0, qf3 (c_qn S) Q0.2.1 (((c_tn S) + 2) / 3) 0 (qf2 true (c_qn S) (c_tk S) (c_tv S) (c_ts S) (c_tn S) 0 0 Q0.2.2) = G0 := ⟨_, rfl⟩
            obtain ⟨K, hK⟩ : ∃ K, srO (0) (m_rn M - ((0) + 1)) ((0) + 1) (m_rk M, m_rv M) = K := ⟨_, rfl⟩
            obtain ⟨Z0, hZ0⟩ : ∃ Z0, cqL y (((m_rn M - 0) + 2) / 3) (0) (m_rn M - 0) (m_rz M) K.1 K.2 (((m_rn M - 0) + 2) / 3) 0 (m_rq M, m_rQ M, m_ra M, m_rw M) = Z0 := ⟨_, rfl⟩
            have hL := rel_commit (st := 0) hR hk hro (by omega) (Or.inl ⟨rfl, h5, rfl, rfl⟩) rfl (by omega) hfr hP0 hQ0 hG0 hK hZ0
            obtain ⟨⟨⟨p1, p2⟩, ⟨p3, p4, p5, p6⟩, ⟨p7, p8⟩, p9⟩, hG, hP⟩ := hL
            have hrq : m_rq M + (((m_rn M - 0) + 2) / 3) < 128 := by omega
            by_cases hzn : z0 < 0
            · refine ⟨_, _, nI (m_rg M + 1), hG, fun A => ?_, fun A => c_M_commitGMn (by omega) d1 d2 d3 (by omega) (by omega) v2 d4 d5 d6 d7 (by omega) d8 (by omega) (by omega) (by omega) (by omega) y K Z0 z0 hz hzn hro (by omega) h5 hfr hrq hK hZ0⟩
              rw [← u4]
              exact c_SL_commitGMn (by omega) n6 n7 n8 b1 b2 b3 b4 b5 b6 b7 (by omega) (by omega) (by omega) (by omega) (by omega) (by omega) y P0 Q0 G0 z0 hz hzn (n5.trans hro) (by omega) (u5.trans h5) (by omega) (hul.trans hfr) hP0 p1 p2 p3 p4 p5 p6 hQ0 hG0 p7 p8 (by omega)
            · obtain ⟨n, hn, rfl⟩ := nat_of_pos (show 0 ≤ z0 from Int32.not_lt.mp hzn)
              by_cases hnq : (Q0.1 + 1) * 64 ≤ n
              · refine ⟨_, _, nI (m_rg M + 1), hG, fun A => ?_, fun A => c_M_commitGMp (by omega) d1 d2 d3 (by omega) (by omega) v2 d4 d5 d6 d7 (by omega) d8 (by omega) (by omega) (by omega) (by omega) y K Z0 n hn (by omega) hro (by omega) h5 hfr hrq hK hZ0⟩
                rw [← u4]
                exact c_SL_commitGMp (by omega) n6 n7 n8 b1 b2 b3 b4 b5 b6 b7 (by omega) (by omega) (by omega) (by omega) (by omega) (by omega) y P0 Q0 G0 n hn hnq (n5.trans hro) (by omega) (u5.trans h5) (by omega) (hul.trans hfr) hP0 p1 p2 p3 p4 p5 p6 hQ0 hG0 p7 p8 (by omega)
              · exact ⟨_, _, -2, hP n, fun A => c_SL_commitPM (by omega) n6 n7 n8 b1 b2 b3 b4 b5 b6 b7 (by omega) (by omega) (by omega) (by omega) (by omega) (by omega) y P0 Q0 G0 n hn (by omega) (n5.trans hro) (by omega) (u5.trans h5) (by omega) (hul.trans hfr) hP0 p1 p2 p3 p4 p5 p6 hQ0 hG0 p7 p8 (by omega), fun A => c_M_commitPM (by omega) d1 d2 d3 (by omega) (by omega) v2 d4 d5 d6 d7 (by omega) d8 (by omega) (by omega) (by omega) (by omega) y K Z0 n hn (by omega) hro (by omega) h5 hfr hrq hK hZ0⟩
        · have hrn : m_rn M - 0 = m_rn M := Nat.sub_zero _
          have em : ((c_nx S - c_ex S) + 2) / 3 = ((m_rn M - (ifM (m_fR M) (m_rf M) 0 0)) + 2) / 3 := by omega
          have hul : ulr (c_ug S) (((c_nx S - c_ex S) + 2) / 3) (c_un S) 0 0 = frM (usM (m_rf M) (m_fF M) (m_fB M) (m_rl M) (m_lB M)) (((m_rn M - (ifM (m_fR M) (m_rf M) 0 0)) + 2) / 3) (m_rb M - 2) 2 0 := by
            rw [em, u7]
            exact ulr_heads (by omega) (by omega) (by rw [u8 0 (by omega), usM_head (by decide)]; decide) (by rw [u8 1 (by omega), usM_head (by decide)]; decide) (fun x _ h2 => u8 x h2)
          cases hfr : frM (usM (m_rf M) (m_fF M) (m_fB M) (m_rl M) (m_lB M)) (((m_rn M - (ifM (m_fR M) (m_rf M) 0 0)) + 2) / 3) (m_rb M - 2) 2 0 with
          | none => exact ⟨S, M, -3, hR.later, fun A => c_SL_commitFA n6 n8 b2 (by omega) z0 hz (n5.trans hro) (by omega) (by omega) (hul.trans hfr), fun A => c_M_commitFA (by omega) (by omega) v2 d5 d6 d7 (by omega) d8 z0 hz hro (by omega) h5 hfr⟩
          | some y =>
            have hf := frM_free (y := 2) (r := 0) (by omega) (by omega) (fun x h1 h2 => by omega) hfr
            obtain ⟨P0, hP0⟩ : ∃ P0, plh false (c_ef S) (c_eF S) (c_pF S) (c_lf S) y (((c_nx S - c_ex S) + 2) / 3) (c_nx S - c_ex S) = P0 := ⟨_, rfl⟩
            obtain ⟨Q0, hQ0⟩ : ∃ Q0, qf1 (((c_nx S - c_ex S) + 2) / 3) (c_nx S - c_ex S) y (c_lf S + 1) (((c_nx S - c_ex S) + 2) / 3) 0 (c_qn S, c_qt S, c_qg S) = Q0 := ⟨_, rfl⟩
            obtain ⟨G0, hG0⟩ : ∃ G0, qf3 (c_qn S) Q0.2.1 (((c_nx S - c_ex S) + 2) / 3) 0 (qf2 false (c_qn S) (c_tk S) (c_tv S) (c_ts S) (c_tn S) 0 0 Q0.2.2) = G0 := ⟨_, rfl⟩
            obtain ⟨K, hK⟩ : ∃ K, srO (ifM (m_fR M) (m_rf M) 0 0) (m_rn M - ((ifM (m_fR M) (m_rf M) 0 0) + 1)) ((ifM (m_fR M) (m_rf M) 0 0) + 1) (m_rk M, m_rv M) = K := ⟨_, rfl⟩
            obtain ⟨Z0, hZ0⟩ : ∃ Z0, cqL y (((m_rn M - (ifM (m_fR M) (m_rf M) 0 0)) + 2) / 3) (ifM (m_fR M) (m_rf M) 0 0) (m_rn M - (ifM (m_fR M) (m_rf M) 0 0)) (m_rz M) K.1 K.2 (((m_rn M - (ifM (m_fR M) (m_rf M) 0 0)) + 2) / 3) 0 (m_rq M, m_rQ M, m_ra M, m_rw M) = Z0 := ⟨_, rfl⟩
            have hL := rel_commit (st := m_rf M) hR hk hro (by omega) (Or.inr ⟨rfl, h5, rfl, rfl⟩) rfl (by omega) hfr hP0 hQ0 hG0 hK hZ0
            obtain ⟨⟨⟨p1, p2⟩, ⟨p3, p4, p5, p6⟩, ⟨p7, p8⟩, p9⟩, hG, hP⟩ := hL
            have hrq : m_rq M + (((m_rn M - (ifM (m_fR M) (m_rf M) 0 0)) + 2) / 3) < 128 := by omega
            by_cases hzn : z0 < 0
            · refine ⟨_, _, nI (m_rg M + 1), hG, fun A => ?_, fun A => c_M_commitGAn (by omega) d1 d2 d3 (by omega) (by omega) v2 d4 d5 d6 d7 (by omega) d8 (by omega) (by omega) (by omega) (by omega) y K Z0 z0 hz hzn hro (by omega) h5 hfr hrq hK hZ0⟩
              rw [← u4]
              exact c_SL_commitGAn (by omega) n6 n7 n8 b1 b2 b3 b4 b5 b6 b7 (by omega) (by omega) (by omega) (by omega) (by omega) (by omega) y P0 Q0 G0 z0 hz hzn (n5.trans hro) (by omega) (by omega) (hul.trans hfr) hP0 p1 p2 p3 p4 p5 p6 hQ0 hG0 p7 p8 (by omega)
            · obtain ⟨n, hn, rfl⟩ := nat_of_pos (show 0 ≤ z0 from Int32.not_lt.mp hzn)
              by_cases hnq : (Q0.1 + 1) * 64 ≤ n
              · refine ⟨_, _, nI (m_rg M + 1), hG, fun A => ?_, fun A => c_M_commitGAp (by omega) d1 d2 d3 (by omega) (by omega) v2 d4 d5 d6 d7 (by omega) d8 (by omega) (by omega) (by omega) (by omega) y K Z0 n hn (by omega) hro (by omega) h5 hfr hrq hK hZ0⟩
                rw [← u4]
                exact c_SL_commitGAp (by omega) n6 n7 n8 b1 b2 b3 b4 b5 b6 b7 (by omega) (by omega) (by omega) (by omega) (by omega) (by omega) y P0 Q0 G0 n hn hnq (n5.trans hro) (by omega) (by omega) (hul.trans hfr) hP0 p1 p2 p3 p4 p5 p6 hQ0 hG0 p7 p8 (by omega)
              · exact ⟨_, _, -2, hP n, fun A => c_SL_commitPA (by omega) n6 n7 n8 b1 b2 b3 b4 b5 b6 b7 (by omega) (by omega) (by omega) (by omega) (by omega) (by omega) y P0 Q0 G0 n hn (by omega) (n5.trans hro) (by omega) (by omega) (hul.trans hfr) hP0 p1 p2 p3 p4 p5 p6 hQ0 hG0 p7 p8 (by omega), fun A => c_M_commitPA (by omega) d1 d2 d3 (by omega) (by omega) v2 d4 d5 d6 d7 (by omega) d8 (by omega) (by omega) (by omega) (by omega) y K Z0 n hn (by omega) hro (by omega) h5 hfr hrq hK hZ0⟩
  · exact ⟨S, M, -1, hR.later, fun A => c_SL_commitB z0 hz, fun A => c_M_commitB z0 hz⟩
