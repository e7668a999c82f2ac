set_option maxHeartbeats 4000000 in
set_option maxRecDepth 100000 in
theorem p_octet (l : Launch) (z0 : Int32) (z1 : Int32) : PrI Rel l yX5_octet (Cond.code yX5_octet cX5_octet 3 (some .int) :: TB) { frames := 2, cells := 0, slots := 0, locals := 44 } yX6_octet (Cond.code yX6_octet cX6_octet 3 (some .int) :: TB) { frames := 1, cells := 0, slots := 0, locals := 25 } [.int z0, .int z1] := by
  intro dC dI cB cI cL a b k S M hk hR
  obtain ⟨⟨⟨b1, -⟩, ⟨d1, -⟩⟩, ⟨⟨n1, n2, n3⟩, n4, n5, n6⟩, -⟩ := id hR
  by_cases hz : xhas (c_dn S) z0 z1 = true
  · obtain ⟨x, i, hx, hi, rfl, rfl⟩ := xhas_d (by omega) hz
    have e : bv (c_dn S) (c_dg S) x i = m_rd M (64 * x + i) := by
      rw [bv_at hx hi]
      exact n4 _ (by omega)
    refine ⟨S, M, nI (m_rd M (64 * x + i)), hR.later, fun A => ?_, fun A => c_M_octetG (by omega) d1 x i (by omega) hi⟩
    have h := c_SL_octetG (l := l) (dC := dC) (dI := dI) (A := A) (a := a) (cB := cB) (cI := cI) (cL := cL) (h1 := c_h1 S) (h2 := c_h2 S) (s1 := c_s1 S) (s2 := c_s2 S) (op := c_op S) (nx := c_nx S) (wt := c_wt S) (sf := c_sf S) (lf := c_lf S) (dn := c_dn S) (dg := c_dg S) (un := c_un S) (ug := c_ug S) (qn := c_qn S) (qt := c_qt S) (qg := c_qg S) (tn := c_tn S) (tk := c_tk S) (tv := c_tv S) (ts := c_ts S) (ef := c_ef S) (eg := c_eg S) (ex := c_ex S) (eF := c_eF S) (pf := c_pf S) (pg := c_pg S) (px := c_px S) (pF := c_pF S) (by omega) b1 x i hx hi
    rw [e] at h
    exact h
  · refine ⟨S, M, -1, hR.later, fun A => c_SL_octetB (by omega) b1 z0 z1 (by simpa using hz), fun A => c_M_octetB (by omega) (by omega) z0 z1 (fun q => hz ?_)⟩
    have q1 := (isI_dec (by decide) (by omega)).mp q.1
    have q2 := (isI_dec (by decide) (by decide)).mp q.2
    exact decide_eq_true (by omega)

set_option maxHeartbeats 4000000 in
set_option maxRecDepth 100000 in
theorem p_acknowledged (l : Launch)  : PrI Rel l yX5_acknowledged (Cond.code yX5_acknowledged cX5_acknowledged 1 (some .int) :: TB) { frames := 0, cells := 0, slots := 0, locals := 0 } yX6_acknowledged (Cond.code yX6_acknowledged cX6_acknowledged 4 (some .int) :: TB) { frames := 1, cells := 0, slots := 0, locals := 22 } [] := by
  intro dC dI cB cI cL a b k S M hk hR
  obtain ⟨⟨⟨b1, b2, b3, b4, b5, b6, b7⟩, ⟨d1, d2, d3, d4, d5, d6, d7, d8, d9⟩⟩, ⟨⟨n1, n2, n3⟩, n4, n5, n6, n7, n8⟩, hO⟩ := id hR
  cases hro : m_ro M with
  | false => exact ⟨S, M, -4, hR.later, fun A => c_SL_acknowledgedC (n5.trans hro), fun A => c_M_acknowledgedC hro⟩
  | true =>
    obtain ⟨hu, hq, ht, hg⟩ := hO hro
    have hrm := rel_room n3 n2 hu hg
    obtain ⟨⟨u1, u2, u3, u4, u5, u6, u7⟩, ⟨v1, v2, v3, v4, v5⟩, u8, u9⟩ := hu
    obtain ⟨q1, q2, q3, ⟨q4, q5⟩, q6⟩ := hq
    obtain ⟨t1, t2, t3, t4, t5, t6⟩ := ht
    refine ⟨S, M, nI (c_sf S), hR.later, fun A => c_SL_acknowledgedO (n5.trans hro), fun A => ?_⟩
    rw [q6]
    exact c_M_acknowledgedO d3 (by omega) (by omega) d8 d9 (by omega) hro

set_option maxHeartbeats 4000000 in
set_option maxRecDepth 100000 in
theorem p_times (l : Launch) (z0 : Int64) : PrI Rel l yX5_times (Cond.code yX5_times cX5_times 3 (some .int) :: TB) { frames := 1, cells := 0, slots := 0, locals := 24 } yX6_times (Cond.code yX6_times cX6_times 5 (some .int) :: TB) { frames := 0, cells := 0, slots := 0, locals := 0 } [.long z0] := by
  intro dC dI cB cI cL a b k S M hk hR
  obtain ⟨⟨⟨b1, b2, b3, b4, b5, b6, b7⟩, ⟨d1, d2, d3, d4, d5, d6, d7, d8, d9⟩⟩, ⟨⟨n1, n2, n3⟩, n4, n5, n6, n7, n8⟩, hO⟩ := id hR
  cases hro : m_ro M with
  | false => exact ⟨S, M, -4, hR.later, fun A => c_SL_timesC z0 (n5.trans hro), fun A => c_M_timesC z0 hro⟩
  | true =>
    obtain ⟨hu, hq, ht, hg⟩ := hO hro
    have hrm := rel_room n3 n2 hu hg
    obtain ⟨⟨u1, u2, u3, u4, u5, u6, u7⟩, ⟨v1, v2, v3, v4, v5⟩, u8, u9⟩ := hu
    obtain ⟨q1, q2, q3, ⟨q4, q5⟩, q6⟩ := hq
    obtain ⟨t1, t2, t3, t4, t5, t6⟩ := ht
    have hs := tmM_sorted (x := z0) t1
    refine ⟨S, M, nI (tmM (m_rk M) z0 (m_rn M) 0 0), hR.later, fun A => ?_, fun A => c_M_timesO (by omega) z0 hro⟩
    rw [tmM_same t2, hs.2, ← u6]
    rw [← u6] at hs
    exact c_SL_timesO n8 z0 (n5.trans hro) hs.1
