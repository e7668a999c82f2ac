set_option maxHeartbeats 4000000 in
set_option maxRecDepth 100000 in
theorem p_octet (l : Launch) (z0 : Int32) (z1 : Int32) : PrI Rel l yX5_octet (Cond.code yX5_octet cX5_octet 3 (some .int) :: TB) { frames := 2, cells := 0, slots := 0, locals := 44 } yX6_octet (Cond.code yX6_octet cX6_octet 3 (some .int) :: TB) { frames := 1, cells := 0, slots := 0, locals := 25 } [.int z0, .int z1] := by
  intro dC dI cB cI cL a b k S M hk hR
  obtain ⟨⟨⟨b1, -⟩, ⟨d1, -⟩⟩, ⟨⟨n1, n2, n3⟩, n4, n5, n6⟩, -⟩ := id hR
  by_cases hz : xhas (c_dn S) z0 z1 = true
  · obtain ⟨x, i, hx, hi, rfl, rfl⟩ := xhas_d (by omega) hz
    have e : bv (c_dn S) (c_dg S) x i = m_rd M (64 * x + i) := by
      rw [bv_at hx hi]
      exact n4 _ (by omega)
    refine ⟨S, M, nI (m_rd M (64 * x + i)), hR.later, fun A => ?_, fun A => c_M_octetG (by omega) d1 x i (by omega) hi⟩
    have h := c_SL_octetG (l := l) (dC := dC) (dI := dI) (A := A) (a := a) (cB := cB) (cI := cI) (cL := cL) (h1 := c_h1 S) (h2 := c_h2 S) (s1 := c_s1 S) (s2 := c_s2 S) (op := c_op S) (nx := c_nx S) (wt := c_wt S) (sf := c_sf S) (lf := c_lf S) (dn := c_dn S) (dg := c_dg S) (un := c_un S) (ug := c_ug S) (qn := c_qn S) (qt := c_qt S) (qg := c_qg S) (tn := c_tn S) (tk := c_tk S) (tv := c_tv S) (ts := c_ts S) (ef := c_ef S) (eg := c_eg S) (ex := c_ex S) (eF := c_eF S) (pf := c_pf S) (pg := c_pg S) (px := c_px S) (pF := c_pF S) (by omega) b1 x i hx hi
    rw [e] at h
    exact h
  · refine ⟨S, M, -1, hR.later, fun A => c_SL_octetB (by omega) b1 z0 z1 (by simpa using hz), fun A => c_M_octetB (by omega) (by omega) z0 z1 (fun q => hz ?_)⟩
    have q1 := (isI_dec (by decide) (by omega)).mp q.1
    have q2 := (isI_dec (by decide) (by decide)).mp q.2
    exact decide_eq_true (by omega)

set_option maxHeartbeats 4000000 in
set_option maxRecDepth 100000 in
theorem p_acknowledged (l : Launch)  : PrI Rel l yX5_acknowledged (Cond.code yX5_acknowledged cX5_acknowledged 1 (some .int) :: TB) { frames := 0, cells := 0, slots := 0, locals := 0 } yX6_acknowledged (Cond.code yX6_acknowledged cX6_acknowledged 4 (some .int) :: TB) { frames := 1, cells := 0, slots := 0, locals := 22 } [] := by
  intro dC dI cB cI cL a b k S M hk hR
  obtain ⟨⟨⟨b1, b2, b3, b4, b5, b6, b7⟩, ⟨d1, d2, d3, d4, d5, d6, d7, d8, d9⟩⟩, ⟨⟨n1, n2, n3⟩, n4, n5, n6, n7, n8⟩, hO, hC⟩ := id hR
  cases hro : m_ro M with
  | false => exact ⟨S, M, -4, hR.later, fun A => c_SL_acknowledgedC (n5.trans hro), fun A => c_M_acknowledgedC hro⟩
  | true =>
    obtain ⟨hu, hq, ht, hg⟩ := hO hro
    have hrm := rel_room n3 n2 hu hg
    obtain ⟨⟨u1, u2, u3, u4, u5, u6, u7⟩, ⟨v1, v2, v3, v4, v5⟩, u8, u9⟩ := hu
    obtain ⟨q1, q2, q3, ⟨q4, q5⟩, q6⟩ := hq
    obtain ⟨t1, t2, t3, t4, t5, t6⟩ := ht
    refine ⟨S, M, nI (c_sf S), hR.later, fun A => c_SL_acknowledgedO (n5.trans hro), fun A => ?_⟩
    rw [q6]
    exact c_M_acknowledgedO d3 (by omega) (by omega) d8 d9 (by omega) hro

set_option maxHeartbeats 4000000 in
set_option maxRecDepth 100000 in
theorem p_times (l : Launch) (z0 : Int64) : PrI Rel l yX5_times (Cond.code yX5_times cX5_times 3 (some .int) :: TB) { frames := 1, cells := 0, slots := 0, locals := 24 } yX6_times (Cond.code yX6_times cX6_times 5 (some .int) :: TB) { frames := 0, cells := 0, slots := 0, locals := 0 } [.long z0] := by
  intro dC dI cB cI cL a b k S M hk hR
  obtain ⟨⟨⟨b1, b2, b3, b4, b5, b6, b7⟩, ⟨d1, d2, d3, d4, d5, d6, d7, d8, d9⟩⟩, ⟨⟨n1, n2, n3⟩, n4, n5, n6, n7, n8⟩, hO, hC⟩ := id hR
  cases hro : m_ro M with
  | false => exact ⟨S, M, -4, hR.later, fun A => c_SL_timesC z0 (n5.trans hro), fun A => c_M_timesC z0 hro⟩
  | true =>
    obtain ⟨hu, hq, ht, hg⟩ := hO hro
    have hrm := rel_room n3 n2 hu hg
    obtain ⟨⟨u1, u2, u3, u4, u5, u6, u7⟩, ⟨v1, v2, v3, v4, v5⟩, u8, u9⟩ := hu
    obtain ⟨q1, q2, q3, ⟨q4, q5⟩, q6⟩ := hq
    obtain ⟨t1, t2, t3, t4, t5, t6⟩ := ht
    have hs := tmM_sorted (x := z0) t1
    refine ⟨S, M, nI (tmM (m_rk M) z0 (m_rn M) 0 0), hR.later, fun A => ?_, fun A => c_M_timesO (by omega) z0 hro⟩
    rw [tmM_same t2, hs.2, ← u6]
    rw [← u6] at hs
    exact c_SL_timesO n8 z0 (n5.trans hro) hs.1

set_option maxHeartbeats 4000000 in
set_option maxRecDepth 100000 in
theorem p_get (l : Launch) (z0 : Int64) : PrJ Rel l yX5_get (Cond.code yX5_get cX5_get 5 (some .long) :: TB) { frames := 2, cells := 0, slots := 0, locals := 42 } yX6_get (Cond.code yX6_get cX6_get 6 (some .long) :: TB) { frames := 0, cells := 0, slots := 0, locals := 0 } [.long z0] := by
  intro dC dI cB cI cL a b k S M hk hR
  obtain ⟨⟨⟨b1, b2, b3, b4, b5, b6, b7⟩, ⟨d1, d2, d3, d4, d5, d6, d7, d8, d9⟩⟩, ⟨⟨n1, n2, n3⟩, n4, n5, n6, n7, n8⟩, hO, hC⟩ := id hR
  cases hro : m_ro M with
  | false =>
    refine ⟨S, M, lN 0, hR.later, fun A => c_SL_getC n8 z0 (n5.trans hro), fun A => ?_⟩
    have h := c_M_get (l := l) (dC := dC) (dI := dI) (A := A) (b := b) (cB := cB) (cI := cI) (cL := cL) (rb := m_rb M) (rd := m_rd M) (rq := m_rq M) (rQ := m_rQ M) (rw := m_rw M) (ra := m_ra M) (ro := m_ro M) (rn := m_rn M) (rk := m_rk M) (rv := m_rv M) (rf := m_rf M) (fN := m_fN M) (fF := m_fF M) (fB := m_fB M) (fR := m_fR M) (rl := m_rl M) (lB := m_lB M) (lR := m_lR M) (rt := m_rt M) (rg := m_rg M) (rx := m_rx M) (rz := m_rz M) (by rw [hC hro]; decide) z0
    have e : gtM (m_rk M) (m_rv M) z0 (m_rn M) 0 (lN 0) = lN 0 := by rw [hC hro]; rfl
    rw [e] at h
    exact h
  | true =>
    obtain ⟨hu, hq, ht, hg⟩ := hO hro
    have hrm := rel_room n3 n2 hu hg
    obtain ⟨⟨u1, u2, u3, u4, u5, u6, u7⟩, ⟨v1, v2, v3, v4, v5⟩, u8, u9⟩ := hu
    obtain ⟨q1, q2, q3, ⟨q4, q5⟩, q6⟩ := hq
    obtain ⟨t1, t2, t3, t4, t5, t6⟩ := ht
    refine ⟨S, M, gtM (m_rk M) (m_rv M) z0 (m_rn M) 0 (lN 0), hR.later, fun A => ?_, fun A => c_M_get (by omega) z0⟩
    rw [gtM_same t2, gtM_sorted t1, ← u6]
    exact c_SL_getO n8 z0 (n5.trans hro)

set_option maxHeartbeats 4000000 in
set_option maxRecDepth 100000 in
theorem p_queued (l : Launch) (z0 : Int32) : PrI Rel l yX5_queued (Cond.code yX5_queued cX5_queued 2 (some .int) :: TB) { frames := 1, cells := 0, slots := 0, locals := 21 } yX6_queued (Cond.code yX6_queued cX6_queued 2 (some .int) :: TB) { frames := 1, cells := 0, slots := 0, locals := 25 } [.int z0] := by
  intro dC dI cB cI cL a b k S M hk hR
  obtain ⟨⟨⟨b1, b2, b3, b4, b5, b6, b7⟩, ⟨d1, d2, d3, d4, d5, d6, d7, d8, d9⟩⟩, ⟨⟨n1, n2, n3⟩, n4, n5, n6, n7, n8⟩, hO, hC⟩ := id hR
  cases hro : m_ro M with
  | false => exact ⟨S, M, -4, hR.later, fun A => c_SL_queuedC z0 (n5.trans hro), fun A => c_M_queuedC z0 hro⟩
  | true =>
    obtain ⟨hu, hq, ht, hg⟩ := hO hro
    have hrm := rel_room n3 n2 hu hg
    obtain ⟨⟨u1, u2, u3, u4, u5, u6, u7⟩, ⟨v1, v2, v3, v4, v5⟩, u8, u9⟩ := hu
    obtain ⟨q1, q2, q3, ⟨q4, q5⟩, q6⟩ := hq
    obtain ⟨t1, t2, t3, t4, t5, t6⟩ := ht
    by_cases hz : xin (c_qn S) z0 = true
    · obtain ⟨i, hi, rfl⟩ := xin_d (by omega) hz
      have e : qtr (c_qn S) (c_qt S) (nI i) = nI (m_rQ M i) := by
        rw [qtr, if_pos hz, nI_clamp (by omega), q2 i (by omega)]
      refine ⟨S, M, nI (m_rQ M i), hR.later, fun A => ?_, fun A => c_M_queuedG (by omega) i hro (by omega)⟩
      rw [← e]
      exact c_SL_queuedO n7 (nI i) (n5.trans hro)
    · have e : qtr (c_qn S) (c_qt S) z0 = -2 := by rw [qtr, if_neg hz]
      refine ⟨S, M, -2, hR.later, fun A => ?_, fun A => c_M_queuedN (by omega) z0 hro (fun q => hz ?_)⟩
      · rw [← e]
        exact c_SL_queuedO n7 z0 (n5.trans hro)
      · have z := (isI_pred (by omega)).mp q
        exact decide_eq_true (by rw [q1]; exact z)

set_option maxHeartbeats 4000000 in
set_option maxRecDepth 100000 in
theorem p_use (l : Launch) (z0 : Int32) : PrI Rel l yX5_use (Cond.code yX5_use cX5_use 2 (some .int) :: TB) { frames := 1, cells := 0, slots := 0, locals := 22 } yX6_use (Cond.code yX6_use cX6_use 2 (some .int) :: TB) { frames := 2, cells := 0, slots := 0, locals := 44 } [.int z0] := by
  intro dC dI cB cI cL a b k S M hk hR
  obtain ⟨⟨⟨b1, b2, b3, b4, b5, b6, b7⟩, ⟨d1, d2, d3, d4, d5, d6, d7, d8, d9⟩⟩, ⟨⟨n1, n2, n3⟩, n4, n5, n6, n7, n8⟩, hO, hC⟩ := id hR
  by_cases hz : xhas (c_dn S) z0 (nI 0) = true
  · obtain ⟨x, i, hx, hi, rfl, -⟩ := xhas_d (by omega) hz
    cases hro : m_ro M with
    | false => exact ⟨S, M, -4, hR.later, fun A => c_SL_useC (by omega) b1 x hx (n5.trans hro), fun A => c_M_useC (by omega) x (by omega) hro⟩
    | true =>
      obtain ⟨hu, hq, ht, hg⟩ := hO hro
      have hrm := rel_room n3 n2 hu hg
      obtain ⟨⟨u1, u2, u3, u4, u5, u6, u7⟩, ⟨v1, v2, v3, v4, v5⟩, u8, u9⟩ := hu
      obtain ⟨q1, q2, q3, ⟨q4, q5⟩, q6⟩ := hq
      obtain ⟨t1, t2, t3, t4, t5, t6⟩ := ht
      have e : uof (c_un S) (c_ug S) x = usM (m_rf M) (m_fF M) (m_fB M) (m_rl M) (m_lB M) x := by
        rw [uof, if_pos (by omega)]
        exact u8 x (by omega)
      refine ⟨S, M, nI (usM (m_rf M) (m_fF M) (m_fB M) (m_rl M) (m_lB M) x), hR.later, fun A => ?_, fun A => c_M_useO (by omega) (by omega) d5 d6 (by omega) d8 x (by omega) hro⟩
      rw [← e]
      exact c_SL_useO (by omega) n6 b1 b2 x hx (n5.trans hro)
  · refine ⟨S, M, -1, hR.later, fun A => c_SL_useB (by omega) b1 z0 (by simpa using hz), fun A => c_M_useB (by omega) (by omega) z0 (fun q => hz ?_)⟩
    have q1 := (isI_dec (by decide) (by omega)).mp q
    have e0 : (nI 0).toInt = 0 := rfl
    exact decide_eq_true (by rw [e0]; omega)

set_option maxHeartbeats 4000000 in
set_option maxRecDepth 100000 in
theorem p_file (l : Launch) (z0 : Int32) (z1 : Int32) : PrI Rel l yX5_file (Cond.code yX5_file cX5_file 3 (some .int) :: TB) { frames := 1, cells := 0, slots := 0, locals := 23 } yX6_file (Cond.code yX6_file cX6_file 3 (some .int) :: TB) { frames := 1, cells := 0, slots := 0, locals := 25 } [.int z0, .int z1] := by
  intro dC dI cB cI cL a b k S M hk hR
  obtain ⟨⟨⟨b1, b2, b3, b4, b5, b6, b7⟩, ⟨d1, d2, d3, d4, d5, d6, d7, d8, d9⟩⟩, ⟨⟨n1, n2, n3⟩, n4, n5, n6, n7, n8⟩, hO, hC⟩ := id hR
  by_cases hx : xin 5 z0 = true
  · by_cases hy : xin 4 z1 = true
    · obtain ⟨i, hi, rfl⟩ := xin_d (by decide) hx
      obtain ⟨w, hw, rfl⟩ := xin_d (by decide) hy
      cases hro : m_ro M with
      | false => exact ⟨S, M, -4, hR.later, fun A => c_SL_fileC i w (by omega) (by omega) (n5.trans hro), fun A => c_M_fileC i w (by omega) (by omega) hro⟩
      | true =>
        obtain ⟨hu, hq, ht, hg⟩ := hO hro
        have hrm := rel_room n3 n2 hu hg
        obtain ⟨⟨u1, u2, u3, u4, u5, u6, u7⟩, ⟨v1, v2, v3, v4, v5⟩, u8, u9⟩ := hu
        obtain ⟨q1, q2, q3, ⟨q4, q5⟩, q6⟩ := hq
        obtain ⟨t1, t2, t3, t4, t5, t6⟩ := ht
        by_cases hf : i < m_rf M
        · have z := u9 i hf
          have e : hfl (c_ef S) (c_eF S) i w = if w = 0 then m_fN M i else if w = 1 then m_fF M i else if w = 2 then m_fB M i else m_fR M i := by
            rcases (show w = 0 ∨ w = 1 ∨ w = 2 ∨ w = 3 by omega) with rfl | rfl | rfl | rfl
            · exact z.1
            · exact z.2.1
            · exact z.2.2.1
            · exact z.2.2.2
          refine ⟨S, M, nI (if w = 0 then m_fN M i else if w = 1 then m_fF M i else if w = 2 then m_fB M i else m_fR M i), hR.later, fun A => ?_, fun A => c_M_fileO (by omega) i w (by omega) (by omega) hro hf⟩
          rw [← e]
          exact c_SL_fileO b6 (by omega) i w (by omega) (by omega) (n5.trans hro) (by omega)
        · exact ⟨S, M, -1, hR.later, fun A => c_SL_fileN (by omega) i w (by omega) (by omega) (n5.trans hro) (by omega), fun A => c_M_fileN (by omega) i w (by omega) (by omega) hro (by omega)⟩
    · refine ⟨S, M, -1, hR.later, fun A => c_SL_fileB z0 z1 ?_, fun A => c_M_fileB z0 z1 (fun q => hy ?_)⟩
      · rcases xin_no (by decide) hy with q | q
        · exact Or.inr (Or.inr (Or.inl q))
        · exact Or.inr (Or.inr (Or.inr (Int32.not_lt.mpr q)))
      · have z := (isI_dec (by decide) (by decide)).mp q.2
        exact decide_eq_true (by omega)
  · refine ⟨S, M, -1, hR.later, fun A => c_SL_fileB z0 z1 ?_, fun A => c_M_fileB z0 z1 (fun q => hx ?_)⟩
    · rcases xin_no (by decide) hx with q | q
      · exact Or.inl q
      · exact Or.inr (Or.inl q)
    · have z := (isI_dec (by decide) (by decide)).mp q.1
      exact decide_eq_true (by omega)

set_option maxHeartbeats 4000000 in
set_option maxRecDepth 100000 in
theorem p_record (l : Launch) (z0 : Int32) (z1 : Int32) : PrJ Rel l yX5_record (Cond.code yX5_record cX5_record 3 (some .long) :: TB) { frames := 2, cells := 0, slots := 0, locals := 42 } yX6_record (Cond.code yX6_record cX6_record 6 (some .long) :: TB) { frames := 1, cells := 0, slots := 0, locals := 25 } [.int z0, .int z1] := by
  intro dC dI cB cI cL a b k S M hk hR
  obtain ⟨⟨⟨b1, b2, b3, b4, b5, b6, b7⟩, ⟨d1, d2, d3, d4, d5, d6, d7, d8, d9⟩⟩, ⟨⟨n1, n2, n3⟩, n4, n5, n6, n7, n8⟩, hO, hC⟩ := id hR
  cases hro : m_ro M with
  | false =>
    refine ⟨S, M, lN 0, hR.later, fun A => c_SL_recordC n8 z0 z1 (n5.trans hro), fun A => c_M_recordB (by rw [hC hro]; decide) z0 z1 (fun q => ?_)⟩
    have z := (isI_pred (by rw [hC hro]; decide)).mp q.1
    rw [hC hro] at z
    omega
  | true =>
    obtain ⟨hu, hq, ht, hg⟩ := hO hro
    have hrm := rel_room n3 n2 hu hg
    obtain ⟨⟨u1, u2, u3, u4, u5, u6, u7⟩, ⟨v1, v2, v3, v4, v5⟩, u8, u9⟩ := hu
    obtain ⟨q1, q2, q3, ⟨q4, q5⟩, q6⟩ := hq
    obtain ⟨t1, t2, t3, t4, t5, t6⟩ := ht
    by_cases hx : xin (c_tn S) z0 = true
    · obtain ⟨i, hi, rfl⟩ := xin_d (by omega) hx
      by_cases hy : xin 3 z1 = true
      · obtain ⟨w, hw, rfl⟩ := xin_d (by decide) hy
        obtain ⟨kk, k1, k2, k3, k4, k5⟩ := rec_at t1 t2 (i := i) (by omega)
        have e : rcX (m_rk M) (m_rv M) (ifM (m_fR M) (m_rf M) 0 0) (m_rn M) (m_rt M) w (rcO (m_rk M) (m_rn M) i (m_rn M) 0) = if w = 0 then c_tk S i else if w = 1 then c_tv S i else lN (plc (c_nx S) (c_wt S) (c_ts S i)) := by
          rw [k1, rcX, k3, k4, ← k5, sqM]
          have e2 : (if kk < ifM (m_fR M) (m_rf M) 0 0 then lN 0 else if kk < m_rn M - m_rt M then lN 1 else lN 2) = lN (plc (c_nx S) (c_wt S) (if kk < ifM (m_fR M) (m_rf M) 0 0 then 0 else c_ex S + (kk - ifM (m_fR M) (m_rf M) 0 0))) := by
            by_cases c1 : kk < ifM (m_fR M) (m_rf M) 0 0
            · rw [if_pos c1, if_pos c1, plc, if_pos rfl]
            · have c0 : ¬ c_ex S + (kk - ifM (m_fR M) (m_rf M) 0 0) = 0 := by omega
              by_cases c2 : kk < m_rn M - m_rt M
              · have c3 : c_ex S + (kk - ifM (m_fR M) (m_rf M) 0 0) < c_nx S - c_wt S := by omega
                rw [if_neg c1, if_neg c1, if_pos c2, plc, if_neg c0, if_pos c3]
              · have c3 : ¬ c_ex S + (kk - ifM (m_fR M) (m_rf M) 0 0) < c_nx S - c_wt S := by omega
                rw [if_neg c1, if_neg c1, if_neg c2, plc, if_neg c0, if_neg c3]
          rw [e2]
        refine ⟨S, M, if w = 0 then c_tk S i else if w = 1 then c_tv S i else lN (plc (c_nx S) (c_wt S) (c_ts S i)), hR.later, fun A => c_SL_recordG n8 b5 (by omega) (by omega) i w (n5.trans hro) hi (by omega), fun A => ?_⟩
        rw [← e]
        exact c_M_recordG (by omega) (by omega) d7 (by omega) i w (by omega) (by omega)
      · refine ⟨S, M, lN 0, hR.later, fun A => c_SL_recordD n8 i z1 (n5.trans hro) hi (fun q => hy (by rw [q]; decide)) (fun q => hy (by rw [q]; decide)) (fun q => hy (by rw [q]; decide)), fun A => c_M_recordB (by omega) (nI i) z1 (fun q => hy ?_)⟩
        have z := (isI_dec (by decide) (by decide)).mp q.2
        exact decide_eq_true (by omega)
    · refine ⟨S, M, lN 0, hR.later, fun A => c_SL_recordB n8 z0 z1 (n5.trans hro) (by simpa using hx), fun A => c_M_recordB (by omega) z0 z1 (fun q => hx ?_)⟩
      have z := (isI_pred (by omega)).mp q.1
      exact decide_eq_true (by rw [u6]; exact z)

set_option maxHeartbeats 4000000 in
set_option maxRecDepth 100000 in
theorem p_bad (l : Launch)  : PrI Rel l yX5_bad (Cond.code yX5_bad cX5_bad 2 (some .int) :: TB) { frames := 4, cells := 0, slots := 0, locals := 92 } yX6_bad (Cond.code yX6_bad cX6_bad 4 (some .int) :: TB) { frames := 2, cells := 0, slots := 0, locals := 46 } [] := by
  intro dC dI cB cI cL a b k S M hk hR
  obtain ⟨⟨⟨b1, b2, b3, b4, b5, b6, b7⟩, ⟨d1, d2, d3, d4, d5, d6, d7, d8, d9⟩⟩, ⟨⟨n1, n2, n3⟩, n4, n5, n6, n7, n8⟩, hO, hC⟩ := id hR
  cases hro : m_ro M with
  | false => exact ⟨S, M, -4, hR.later, fun A => c_SL_badC (n5.trans hro), fun A => c_M_badC hro⟩
  | true =>
    obtain ⟨hu, hq, ht, hg⟩ := hO hro
    have hrm := rel_room n3 n2 hu hg
    obtain ⟨⟨u1, u2, u3, u4, u5, u6, u7⟩, ⟨v1, v2, v3, v4, v5⟩, u8, u9⟩ := hu
    obtain ⟨q1, q2, q3, ⟨q4, q5⟩, q6⟩ := hq
    obtain ⟨t1, t2, t3, t4, t5, t6⟩ := ht
    have e := bad_same (dg := c_dg S) (rd := m_rd M) (ug := c_ug S) (qt := c_qt S) (rQ := m_rQ M) (rg := m_rg M) n4 u8 q2 (fun x hx => by
      obtain ⟨y, y1, y2⟩ := q5 x hx
      have z := hg.2.2.1 y y1
      rw [← y2]
      exact usM_log z.1 y1 z.2.2.1) (k := m_rb M) (y := 0) (by omega)
    refine ⟨S, M, oI (bdM (m_rb M) (m_rd M) (m_rq M) (m_rQ M) (m_rf M) (m_fF M) (m_fB M) (m_rl M) (m_lB M) (m_rg M) (m_rb M) 0), hR.later, fun A => ?_, fun A => c_M_badO (by omega) d1 d3 (by omega) (by omega) d5 d6 (by omega) d8 (by omega) hro⟩
    have h := c_SL_badO (l := l) (dC := dC) (dI := dI) (A := A) (a := a) (cB := cB) (cI := cI) (cL := cL) (h1 := c_h1 S) (h2 := c_h2 S) (s1 := c_s1 S) (s2 := c_s2 S) (op := c_op S) (nx := c_nx S) (wt := c_wt S) (sf := c_sf S) (lf := c_lf S) (dn := c_dn S) (dg := c_dg S) (un := c_un S) (ug := c_ug S) (qn := c_qn S) (qt := c_qt S) (qg := c_qg S) (tn := c_tn S) (tk := c_tk S) (tv := c_tv S) (ts := c_ts S) (ef := c_ef S) (eg := c_eg S) (ex := c_ex S) (eF := c_eF S) (pf := c_pf S) (pg := c_pg S) (px := c_px S) (pF := c_pF S) (by omega) n6 n7 b1 b2 b3 (by omega) (n5.trans hro)
    have e2 : bdX (c_dn S) (c_dg S) (c_un S) (c_ug S) (c_qt S) (c_qn S) (c_eg S) (c_dn S) 0 = bdX (m_rb M) (c_dg S) (m_rb M) (c_ug S) (c_qt S) (m_rq M) (m_rg M) (m_rb M) 0 := by rw [n1, u7, q1, u4]
    rw [e2, e] at h
    exact h

set_option maxHeartbeats 4000000 in
set_option maxRecDepth 100000 in
theorem p_count (l : Launch) (z0 : Int32) : PrI Rel l yX5_count (Cond.code yX5_count cX5_count 2 (some .int) :: TB) { frames := 2, cells := 0, slots := 0, locals := 44 } yX6_count (Cond.code yX6_count cX6_count 4 (some .int) :: TB) { frames := 2, cells := 0, slots := 0, locals := 44 } [.int z0] := by
  intro dC dI cB cI cL a b k S M hk hR
  obtain ⟨⟨⟨b1, b2, b3, b4, b5, b6, b7⟩, ⟨d1, d2, d3, d4, d5, d6, d7, d8, d9⟩⟩, ⟨⟨n1, n2, n3⟩, n4, n5, n6, n7, n8⟩, hO, hC⟩ := id hR
  by_cases hx : xin 11 z0 = true
  · obtain ⟨w, hw, rfl⟩ := xin_d (by decide) hx
    by_cases w0 : w = 0
    · refine ⟨S, M, nI (m_rb M), hR.later, fun A => ?_, fun A => c_M_countZ w w0⟩
      rw [← n1]
      exact c_SL_countZ w w0
    · cases hro : m_ro M with
      | false =>
        refine ⟨S, M, nI 0, hR.later, fun A => c_SL_countC w (by omega) (n5.trans hro) w0, fun A => ?_⟩
        by_cases w9 : w = 9
        · rw [show nI 0 = bI (m_ro M) by rw [hro]; rfl]
          exact c_M_countP w w9
        · exact c_M_countC w (by omega) hro w0 w9
      | true =>
        obtain ⟨hu, hq, ht, hg⟩ := hO hro
        have hrm := rel_room n3 n2 hu hg
        obtain ⟨⟨u1, u2, u3, u4, u5, u6, u7⟩, ⟨v1, v2, v3, v4, v5⟩, u8, u9⟩ := hu
        obtain ⟨q1, q2, q3, ⟨q4, q5⟩, q6⟩ := hq
        obtain ⟨t1, t2, t3, t4, t5, t6⟩ := ht
        have hh0 : c_ug S 0 = 3 := by rw [u8 0 (by omega)]; exact usM_head (by decide)
        have hh1 : c_ug S 1 = 3 := by rw [u8 1 (by omega)]; exact usM_head (by decide)
        by_cases w9 : w = 9
        · refine ⟨S, M, nI 1, hR.later, fun A => ?_, fun A => ?_⟩
          · have h := c_SL_countO (l := l) (dC := dC) (dI := dI) (A := A) (a := a) (cB := cB) (cI := cI) (cL := cL) (h1 := c_h1 S) (h2 := c_h2 S) (s1 := c_s1 S) (s2 := c_s2 S) (op := c_op S) (nx := c_nx S) (wt := c_wt S) (sf := c_sf S) (lf := c_lf S) (dn := c_dn S) (dg := c_dg S) (un := c_un S) (ug := c_ug S) (qn := c_qn S) (qt := c_qt S) (qg := c_qg S) (tn := c_tn S) (tk := c_tk S) (tv := c_tv S) (ts := c_ts S) (ef := c_ef S) (eg := c_eg S) (ex := c_ex S) (eF := c_eF S) (pf := c_pf S) (pg := c_pg S) (px := c_px S) (pF := c_pF S) n6 b2 w (by omega) (n5.trans hro) w0
            rw [show cnO (c_un S) (c_ug S) (c_ef S) (c_tn S) (c_wt S) (c_qn S) (c_eg S) (c_nx S) (c_lf S) w = 1 by rw [w9]; rfl] at h
            exact h
          · rw [show nI 1 = bI (m_ro M) by rw [hro]; rfl]
            exact c_M_countP w w9
        · have e : cnO (c_un S) (c_ug S) (c_ef S) (c_tn S) (c_wt S) (c_qn S) (c_eg S) (c_nx S) (c_lf S) w = ctM (fcM (usM (m_rf M) (m_fF M) (m_fB M) (m_rl M) (m_lB M)) (m_rb M - 2) 2 0) (m_rf M) (m_rn M) (m_rt M) (m_rl M) (m_rq M) (m_rg M) (m_rx M) (m_rz M) w := by
            rw [u1, u2, u3, u4, u5, u6, u7, q1]
            rcases (show w = 1 ∨ w = 2 ∨ w = 3 ∨ w = 4 ∨ w = 5 ∨ w = 6 ∨ w = 7 ∨ w = 8 ∨ w = 10 by omega) with rfl | rfl | rfl | rfl | rfl | rfl | rfl | rfl | rfl
            · exact uhm_heads (by omega) (by rw [hh0]; decide) (by rw [hh1]; decide) (fun x h1 h2 => u8 x h2)
            · rfl
            · rfl
            · rfl
            · show uhm 1 (c_ug S) (m_rb M) 0 0 = m_rl M
              have d0 : ¬ c_ug S 0 = 1 := by rw [hh0]; decide
              have d1' : ¬ c_ug S 1 = 1 := by rw [hh1]; decide
              rw [show m_rb M = (m_rb M - 2) + 1 + 1 by omega, uhm, if_neg d0, uhm, if_neg d1', uhm_cnt (fun x h1 h2 => u8 x (by omega)), Nat.zero_add]
              exact hg.2.2.2.2.2.1
            · rfl
            · rfl
            · rfl
            · rfl
          refine ⟨S, M, nI (ctM (fcM (usM (m_rf M) (m_fF M) (m_fB M) (m_rl M) (m_lB M)) (m_rb M - 2) 2 0) (m_rf M) (m_rn M) (m_rt M) (m_rl M) (m_rq M) (m_rg M) (m_rx M) (m_rz M) w), hR.later, fun A => ?_, fun A => c_M_countO (by omega) (by omega) d5 d6 (by omega) d8 w (by omega) hro w0 w9⟩
          rw [← e]
          exact c_SL_countO n6 b2 w (by omega) (n5.trans hro) w0
  · refine ⟨S, M, -1, hR.later, fun A => c_SL_countB z0 ?_, fun A => c_M_countB z0 ?_⟩
    · rcases xin_no (by decide) hx with q | q
      · exact Or.inl q
      · refine Or.inr (fun q2 => ?_)
        have h1 := Int32.le_iff_toInt_le.mp (Int32.le_trans q q2)
        rw [nI_toInt (by decide), nI_toInt (by decide)] at h1
        omega
    · cases hh : isI z0.toInt64 (lN 0) (lN 10) with
      | false => rfl
      | true =>
        have z := (isI_dec (by decide) (by decide)).mp hh
        exact absurd (decide_eq_true (by omega)) hx

set_option maxHeartbeats 4000000 in
set_option maxRecDepth 100000 in
theorem p_poke (l : Launch) (z0 : Int32) (z1 : Int32) (z2 : Int32) : PrI Rel l yX5_poke (Cond.code yX5_poke cX5_poke 4 (some .int) :: TB) { frames := 2, cells := 0, slots := 0, locals := 45 } yX6_poke (Cond.code yX6_poke cX6_poke 4 (some .int) :: TB) { frames := 1, cells := 0, slots := 0, locals := 25 } [.int z0, .int z1, .int z2] := by
  intro dC dI cB cI cL a b k S M hk hR
  obtain ⟨⟨⟨b1, b2, b3, b4, b5, b6, b7⟩, ⟨d1, d2, d3, d4, d5, d6, d7, d8, d9⟩⟩, ⟨⟨n1, n2, n3⟩, n4, n5, n6, n7, n8⟩, hO, hC⟩ := id hR
  by_cases hz : xhas (c_dn S) z0 z1 = true
  · by_cases hy : xin 256 z2 = true ∧ z2 ≠ nI 0
    · obtain ⟨x, i, hx, hi, rfl, rfl⟩ := xhas_d (by omega) hz
      obtain ⟨w, hw, rfl⟩ := xin_d (by decide) hy.1
      have hw0 : 1 ≤ w := by
        rcases Nat.eq_zero_or_pos w with q | q
        · subst q; exact absurd rfl hy.2
        · exact q
      have e : bv (c_dn S) (c_dg S) x i = m_rd M (64 * x + i) := by
        rw [bv_at hx hi]
        exact n4 _ (by omega)
      have hv : m_rd M (64 * x + i) ^^^ w < 256 := Nat.xor_lt_two_pow (n := 8) (d1 _) hw
      have e2 : bput (c_dn S) (c_dg S) x i (bv (c_dn S) (c_dg S) x i ^^^ w) = va_up (c_dg S) (64 * x + i) (m_rd M (64 * x + i) ^^^ w) := by
        rw [bput_at hx hi, e, Nat.mod_eq_of_lt hv]
      have e3 : bv (c_dn S) (va_up (c_dg S) (64 * x + i) (m_rd M (64 * x + i) ^^^ w)) x i = m_rd M (64 * x + i) ^^^ w := by
        rw [bv_at hx hi, va_up_self]
      have hL := hR.later
      refine ⟨⟨c_h1 S, c_h2 S, c_s1 S, c_s2 S, c_op S, c_nx S, c_wt S, c_sf S, c_lf S, c_dn S, va_up (c_dg S) (64 * x + i) (m_rd M (64 * x + i) ^^^ w), c_un S, c_ug S, c_qn S, c_qt S, c_qg S, c_tn S, c_tk S, c_tv S, c_ts S, c_ef S, c_eg S, c_ex S, c_eF S, c_pf S, c_pg S, c_px S, c_pF S⟩, ⟨m_rb M, va_up (m_rd M) (64 * x + i) (m_rd M (64 * x + i) ^^^ w), m_rq M, m_rQ M, m_rw M, m_ra M, m_ro M, m_rn M, m_rk M, m_rv M, m_rf M, m_fN M, m_fF M, m_fB M, m_fR M, m_rl M, m_lB M, m_lR M, m_rt M, m_rg M, m_rx M, m_rz M⟩, nI (m_rd M (64 * x + i) ^^^ w), ⟨⟨⟨va_up_lt b1 hv, b2, b3, b4, b5, b6, b7⟩, ⟨va_up_lt d1 hv, d2, d3, d4, d5, d6, d7, d8, d9⟩⟩, ⟨⟨n1, n2, n3⟩, ag_up n4 _ _, n5, n6, n7, n8⟩, hL.2.2.1, hL.2.2.2⟩, fun A => ?_, fun A => c_M_pokeG (by omega) d1 x i (by omega) hi w hw0 (by omega)⟩
      have h := c_SL_pokeG (l := l) (dC := dC) (dI := dI) (A := A) (a := a) (cB := cB) (cI := cI) (cL := cL) (h1 := c_h1 S) (h2 := c_h2 S) (s1 := c_s1 S) (s2 := c_s2 S) (op := c_op S) (nx := c_nx S) (wt := c_wt S) (sf := c_sf S) (lf := c_lf S) (dn := c_dn S) (dg := c_dg S) (un := c_un S) (ug := c_ug S) (qn := c_qn S) (qt := c_qt S) (qg := c_qg S) (tn := c_tn S) (tk := c_tk S) (tv := c_tv S) (ts := c_ts S) (ef := c_ef S) (eg := c_eg S) (ex := c_ex S) (eF := c_eF S) (pf := c_pf S) (pg := c_pg S) (px := c_px S) (pF := c_pF S) (by omega) b1 x i hx hi w hw0 (by omega)
      rw [e2, e3] at h
      exact h
    · have hbad : z2 < nI 1 ∨ ¬ z2 ≤ nI 255 := by
        have h0 : (nI 1).toInt = 1 := rfl
        have h1 : (nI 255).toInt = 255 := rfl
        rw [Int32.lt_iff_toInt_lt, Int32.le_iff_toInt_le, h0, h1]
        rcases Int.lt_or_le z2.toInt 1 with q | q
        · exact Or.inl q
        · refine Or.inr (fun q2 => hy ⟨decide_eq_true (by omega), fun e => ?_⟩)
          rw [e] at q
          exact absurd q (by decide)
      refine ⟨S, M, -1, hR.later, fun A => c_SL_pokeB (by omega) b1 z0 z1 z2 (Or.inr hbad), fun A => c_M_pokeB (by omega) (by omega) z0 z1 z2 (fun q => hy ?_)⟩
      have z := (isI_dec (by decide) (by decide)).mp q.2.2
      refine ⟨decide_eq_true (by omega), fun e => ?_⟩
      rw [e, show (nI 0).toInt = 0 from rfl] at z
      omega
  · refine ⟨S, M, -1, hR.later, fun A => c_SL_pokeB (by omega) b1 z0 z1 z2 (Or.inl (by simpa using hz)), fun A => c_M_pokeB (by omega) (by omega) z0 z1 z2 (fun q => hz ?_)⟩
    have q1 := (isI_dec (by decide) (by omega)).mp q.1
    have q2 := (isI_dec (by decide) (by decide)).mp q.2.1
    exact decide_eq_true (by omega)

set_option maxHeartbeats 4000000 in
set_option maxRecDepth 100000 in
theorem p_crash (l : Launch) (z0 : Int32) : PrI Rel l yX5_crash (Cond.code yX5_crash cX5_crash 2 (some .int) :: TB) { frames := 3, cells := 0, slots := 0, locals := 71 } yX6_crash (Cond.code yX6_crash cX6_crash 3 (some .int) :: TB) { frames := 2, cells := 0, slots := 0, locals := 40 } [.int z0] := by
  intro dC dI cB cI cL a b k S M hk hR
  obtain ⟨⟨⟨b1, b2, b3, b4, b5, b6, b7⟩, ⟨d1, d2, d3, d4, d5, d6, d7, d8, d9⟩⟩, ⟨⟨n1, n2, n3⟩, n4, n5, n6, n7, n8⟩, hO, hC⟩ := id hR
  by_cases hz : 0 ≤ z0
  · obtain ⟨n, hn, rfl⟩ := nat_of_pos hz
    cases hro : m_ro M with
    | false => exact ⟨S, M, -4, hR.later, fun A => c_SL_crashC n hn (n5.trans hro), fun A => c_M_crashC n hn hro⟩
    | true =>
      obtain ⟨hu, hq, ht, hg⟩ := hO hro
      have hrm := rel_room n3 n2 hu hg
      have hd := rel_drain (k := k) (m := n) n1 n4 n7 b4 hq hg
      have q1 := hq.1
      have q4 := hq.2.2.2.1.1
      refine ⟨⟨c_h1 S, c_h2 S, c_s1 S, c_s2 S, false, c_nx S, c_wt S, c_sf S, c_lf S, c_dn S, qdr (c_dn S) (c_qt S) (c_qg S) (min n (c_qn S * 64)) 0 (c_dg S), c_un S, c_ug S, 0, c_qt S, c_qg S, c_tn S, c_tk S, c_tv S, c_ts S, c_ef S, c_eg S, c_ex S, c_eF S, c_pf S, c_pg S, c_px S, c_pF S⟩, ⟨m_rb M, (prO (m_rQ M) (m_rw M) (m_rq M) 0 n 0 (m_rd M)).2, 0, m_rQ M, m_rw M, m_ra M, false, 0, m_rk M, m_rv M, 0, m_fN M, m_fF M, m_fB M, m_fR M, 0, m_lB M, m_lR M, 0, 0, 1, 0⟩, nI (min n (c_qn S * 64) / 64), ⟨⟨⟨qdr_lt b1 b4, b2, b3, b4, b5, b6, b7⟩, ⟨prO_lt d2 d1, d2, d3, d4, d5, d6, d7, d8, d9⟩⟩, ⟨⟨n1, n2, n3⟩, hd.2, rfl, n6, Nat.zero_le _, n8⟩, fun o => absurd (show false = true from o) (by decide), fun _ => rfl⟩, fun A => c_SL_crashO (by omega) n7 b1 b3 b4 n hn (n5.trans hro), fun A => ?_⟩
      rw [← hd.1]
      exact c_M_crashO d1 d2 d3 (by omega) n hn hro
  · exact ⟨S, M, -1, hR.later, fun A => c_SL_crashB z0 hz, fun A => c_M_crashB z0 hz⟩

set_option maxHeartbeats 4000000 in
set_option maxRecDepth 100000 in
theorem p_format (l : Launch) (z0 : Int32) : PrI Rel l yX5_format (Cond.code yX5_format cX5_format 2 (some .int) :: TB) { frames := 4, cells := 0, slots := 0, locals := 89 } yX6_format (Cond.code yX6_format cX6_format 3 (some .int) :: TB) { frames := 1, cells := 0, slots := 0, locals := 25 } [.int z0] := by
  intro dC dI cB cI cL a b k S M hk hR
  obtain ⟨⟨⟨b1, b2, b3, b4, b5, b6, b7⟩, ⟨d1, d2, d3, d4, d5, d6, d7, d8, d9⟩⟩, ⟨⟨n1, n2, n3⟩, n4, n5, n6, n7, n8⟩, hO, hC⟩ := id hR
  by_cases hz : isI z0.toInt64 (lN 4) (lN 64) = true
  · have z := (isI_dec (by decide) (by decide)).mp hz
    obtain ⟨n, hn, rfl⟩ : ∃ n : Nat, n < 2 ^ 31 ∧ z0 = nI n := nat_of_pos (Int32.le_iff_toInt_le.mpr (by rw [show (0 : Int32).toInt = 0 from rfl]; omega))
    rw [nI_toInt hn] at z
    refine ⟨⟨c_h1 S, c_h2 S, c_s1 S, c_s2 S, true, 1, 0, 0, 0, n, ren n n (c_dg S) 0, n, uclr n (c_ug S), 0, c_qt S, c_qg S, 0, c_tk S, c_tv S, c_ts S, 0, 0, 1, c_eF S, c_pf S, c_pg S, c_px S, c_pF S⟩, ⟨n, wz 4096 (m_rd M) 0, 0, m_rQ M, m_rw M, m_ra M, true, 0, m_rk M, m_rv M, 0, m_fN M, m_fF M, m_fB M, m_fR M, 0, m_lB M, m_lR M, 0, 0, 1, 0⟩, nI 0, rel_new (n := n) ⟨by omega, by omega⟩ ⟨⟨ren_lt b1, uclr_lt b2, b3, b4, b5, b6, b7⟩, ⟨wz_lt d1, d2, d3, d4, d5, d6, d7, d8, d9⟩⟩ (fun j hj => ?_) (fun y hy => uclr_val (by omega) hy) ⟨rfl, rfl, rfl, rfl, rfl, rfl, rfl, rfl, rfl, rfl, rfl, rfl⟩ ⟨rfl, rfl, rfl, rfl, rfl, rfl, rfl, rfl, rfl, rfl⟩, fun A => c_SL_formatG b1 b2 n (by omega) (by omega), fun A => c_M_formatG d1 n (by omega) (by omega)⟩
    show ren n n (c_dg S) 0 j = wz 4096 (m_rd M) 0 j
    have e1 : 64 * 0 ≤ j ∧ j < 64 * (0 + n) := by omega
    have e2 : 0 ≤ j ∧ j < 0 + 4096 := by omega
    rw [ren_val (by omega) (by omega), wz_val, if_pos e1, if_pos e2]
  · refine ⟨S, M, -1, hR.later, fun A => c_SL_formatB z0 ?_, fun A => c_M_formatB z0 (by simpa using hz)⟩
    have h4 : (nI 4).toInt = 4 := rfl
    have h5 : (nI 64).toInt = 64 := rfl
    rw [Int32.lt_iff_toInt_lt, Int32.le_iff_toInt_le, h4, h5]
    rcases Int.lt_or_le z0.toInt 4 with q | q
    · exact Or.inl q
    · exact Or.inr (fun q2 => hz ((isI_dec (by decide) (by decide)).mpr (by omega)))

set_option maxHeartbeats 4000000 in
set_option maxRecDepth 100000 in
theorem p_sync (l : Launch)  : PrI Rel l yX5_sync (Cond.code yX5_sync cX5_sync 1 (some .int) :: TB) { frames := 3, cells := 0, slots := 0, locals := 71 } yX6_sync (Cond.code yX6_sync cX6_sync 1 (some .int) :: TB) { frames := 1, cells := 0, slots := 0, locals := 28 } [] := by
  intro dC dI cB cI cL a b k S M hk hR
  obtain ⟨⟨⟨b1, b2, b3, b4, b5, b6, b7⟩, ⟨d1, d2, d3, d4, d5, d6, d7, d8, d9⟩⟩, ⟨⟨n1, n2, n3⟩, n4, n5, n6, n7, n8⟩, hO, hC⟩ := id hR
  cases hro : m_ro M with
  | false => exact ⟨S, M, -4, hR.later, fun A => c_SL_syncC (n5.trans hro), fun A => c_M_syncC hro⟩
  | true =>
    obtain ⟨hu, hq, ht, hg⟩ := (hR.later).2.2.1 hro
    have hrm := rel_room n3 n2 hu hg
    have hd := rel_drain (k := k) (m := c_qn S * 64) n1 n4 n7 b4 hq hg
    have q1 := hq.1
    have q4 := hq.2.2.2.1.1
    have u1 := hu.1.1
    have u2 := hu.1.2.1
    have v3 := hu.2.1.2.2.1
    obtain ⟨t1, t2, t3, t4, t5, t6⟩ := ht
    have em : c_qn S * 64 = 64 * m_rq M := by omega
    have es : nI (c_nx S - 1 - c_wt S) = (akM (m_rQ M) 0 (m_lB M) (m_lR M) (m_rl M) (lN (m_rx M) - lN 1 - lN (m_rt M))).toInt32 := by
      rw [akM_0, lN_sub (by omega), lN_sub (by omega), lN_i, u1, u2]
    refine ⟨⟨c_h1 S, c_h2 S, c_s1 S, c_s2 S, c_op S, c_nx S, c_wt S, c_nx S - 1 - c_wt S, c_lf S, c_dn S, qdr (c_dn S) (c_qt S) (c_qg S) (min (c_qn S * 64) (c_qn S * 64)) 0 (c_dg S), c_un S, c_ug S, 0, c_qt S, c_qg S, c_tn S, c_tk S, c_tv S, c_ts S, c_ef S, c_eg S, c_ex S, c_eF S, c_pf S, c_pg S, c_px S, c_pF S⟩, ⟨m_rb M, (prO (m_rQ M) (m_rw M) (m_rq M) 0 (c_qn S * 64) 0 (m_rd M)).2, 0, m_rQ M, m_rw M, m_ra M, m_ro M, m_rn M, m_rk M, m_rv M, m_rf M, m_fN M, m_fF M, m_fB M, m_fR M, m_rl M, m_lB M, m_lR M, m_rt M, m_rg M, m_rx M, m_rz M⟩, nI (min (c_qn S * 64) (c_qn S * 64) / 64), ⟨⟨⟨qdr_lt b1 b4, b2, b3, b4, b5, b6, b7⟩, ⟨prO_lt d2 d1, d2, d3, d4, d5, d6, d7, d8, d9⟩⟩, ⟨⟨n1, n2, n3⟩, hd.2, n5, n6, Nat.zero_le _, n8⟩, fun _ => ⟨hu, ⟨rfl, fun x hx => absurd hx (Nat.not_lt_zero _), fun x hx => absurd hx (Nat.not_lt_zero _), ⟨Nat.zero_le _, fun x hx => absurd hx (Nat.not_lt_zero _)⟩, es⟩, ⟨t1, t2, t3, t4, t5, t6⟩, hg⟩, fun o => absurd (hro.symm.trans o) (by decide)⟩, fun A => c_SL_syncO (by omega) n7 b1 b3 b4 (by omega) (n5.trans hro) (by omega), fun A => ?_⟩
    rw [← hd.1, em]
    exact c_M_syncO d1 d2 d3 (by omega) hro

theorem rel_0 (u1 rd0 : Nat → Nat) (hrd0 : ∀ j, rd0 j = 0) : Rel 0 ⟨u1 13, u1 14, u1 15, u1 16, true, 1, 0, 0, 0, 16, (fun _ => 0), 16, (uclr 16 (fun _ => 0)), 0, (fun _ => 0), (fun _ => 0), 0, (fun _ => lN 0), (fun _ => lN 0), (fun _ => 0), 0, 0, 1, (fun _ => 0), 0, 0, 1, (fun _ => 0)⟩ ⟨16, rd0, 0, (fun _ => 0), (fun _ => 0), 0, true, 0, (fun _ => lN 0), (fun _ => lN 0), 0, (fun _ => 0), (fun _ => 0), (fun _ => 0), (fun _ => 0), 0, (fun _ => 0), (fun _ => 0), 0, 0, 1, 0⟩ := by
  refine rel_new (n := 16) ⟨by decide, by decide⟩ ⟨⟨fun _ => (by decide : 0 < 256), (show ∀ j, uclr 16 (fun _ => 0) j < 8 from uclr_lt (u := fun _ => 0) (n := 16) (fun _ => (by decide : 0 < 8))), fun _ => (by decide : 0 < 64), fun _ => (by decide : 0 < 256), fun _ => (by decide : 0 < 2 ^ 31), fun _ => (by decide : 0 < 1048576), fun _ => (by decide : 0 < 1048576)⟩, ⟨fun j => (by show rd0 j < 256; rw [hrd0 j]; decide), fun _ => (by decide : 0 < 256), fun _ => (by decide : 0 < 64), fun _ => (by decide : 0 < 1048576), fun _ => (by decide : 0 < 1048576), fun _ => (by decide : 0 < 1048576), fun _ => (by decide : 0 < 1048576), fun _ => (by decide : 0 < 1048576), fun _ => (by decide : 0 < 1048576)⟩⟩ (fun j hj => ?_) (fun y hy => uclr_val (by decide) hy) ⟨rfl, rfl, rfl, rfl, rfl, rfl, rfl, rfl, rfl, rfl, rfl, rfl⟩ ⟨rfl, rfl, rfl, rfl, rfl, rfl, rfl, rfl, rfl, rfl⟩
  exact (hrd0 j).symm
theorem wz_new (j : Nat) : wz 4096 (fun _ => 0) 0 j = 0 := by
  rw [wz_val]
  split <;> rfl
