def qrm (fs f : Nat) (rk rv : Nat → Int64) : Nat → Nat → (Nat → Nat) → Nat → Nat
  | 0, _, g => g
  | k + 1, d, g => qrm fs f rk rv k (d + 1) (qrec (fs + d / 3) (d % 3) (rk (f + d)) (rv (f + d)) g)
theorem qrl_qrm {fs f : Nat} {rk rv : Nat → Int64} : ∀ {k d : Nat} {g : Nat → Nat}, qrl fs ((List.range' d k).map (fun i => (rk (f + i), rv (f + i)))) d g = qrm fs f rk rv k d g
  | 0, _, _ => rfl
  | k + 1, d, g => by
    rw [List.range'_succ, List.map_cons, qrl, qrm, qrl_qrm (k := k)]
theorem ags_wfL {s A f : Nat} {rk rv : Nat → Int64} : ∀ {k i : Nat} {g w : Nat → Nat} (_ : AgS s g w), AgS s (wfL A f rk rv k i g) (wfL A f rk rv k i w)
  | 0, _, _, _, h => h
  | k + 1, i, _, _, h => ags_wfL (k := k) (i := i + 1) (ags_pn1 (ags_pn1 h _ _) _ _)
theorem far_qrec {s s' p : Nat} {k v : Int64} {g : Nat → Nat} (hs : s ≠ s') (h1 : s' < 64) (h2 : p ≤ 2) : AgS s (qrec s' p k v g) g := by
  rw [qrec_at h1 h2]
  exact (far_pn1 hs (by omega) (by omega)).trans' (far_pn1 hs (by omega) (by omega))
theorem qrm_in {fs f p : Nat} {rk rv : Nat → Int64} : ∀ {k d : Nat} {g : Nat → Nat}, fs + (d + k + 2) / 3 ≤ 64 → AgS (fs + p) (qrm fs f rk rv k d g) (wfL (64 * (fs + p)) (f + 3 * p) rk rv (min 3 (d + k - 3 * p) - min 3 (d - 3 * p)) (min 3 (d - 3 * p)) g)
  | 0, d, g, _ => by
    rw [show min 3 (d + 0 - 3 * p) - min 3 (d - 3 * p) = 0 by omega]
    exact AgS.rfl'
  | k + 1, d, g, h => by
    rw [qrm]
    have ih := qrm_in (fs := fs) (f := f) (p := p) (rk := rk) (rv := rv) (k := k) (d := d + 1) (g := qrec (fs + d / 3) (d % 3) (rk (f + d)) (rv (f + d)) g) (by omega)
    refine ih.trans' ?_
    by_cases c : d / 3 = p
    · have e1 : d % 3 = d - 3 * p := by omega
      have e2 : min 3 (d - 3 * p) = d - 3 * p := by omega
      have e3 : min 3 (d + 1 - 3 * p) = d - 3 * p + 1 := by omega
      have e4 : min 3 (d + (k + 1) - 3 * p) - (d - 3 * p) = (min 3 (d + 1 + k - 3 * p) - (d - 3 * p + 1)) + 1 := by omega
      rw [e2, e3, e4, wfL, c, e1, qrec_at (by omega) (by omega), show f + 3 * p + (d - 3 * p) = f + d by omega]
      exact AgS.rfl'
    · have hf : AgS (fs + p) (qrec (fs + d / 3) (d % 3) (rk (f + d)) (rv (f + d)) g) g := far_qrec (by omega) (by omega) (by omega)
      rcases Nat.lt_or_ge d (3 * p) with q | q
      · rw [show min 3 (d + 1 - 3 * p) = 0 by omega, show min 3 (d - 3 * p) = 0 by omega, show d + 1 + k = d + (k + 1) by omega]
        exact ags_wfL hf
      · have q2 : 3 * p + 3 ≤ d := by omega
        rw [show min 3 (d + 1 + k - 3 * p) - min 3 (d + 1 - 3 * p) = 0 by omega, show min 3 (d + (k + 1) - 3 * p) - min 3 (d - 3 * p) = 0 by omega]
        exact hf
theorem qrm_out {fs f s : Nat} {rk rv : Nat → Int64} (hs : s < fs) : ∀ {k d : Nat} {g : Nat → Nat}, fs + (d + k + 2) / 3 ≤ 64 → AgS s (qrm fs f rk rv k d g) g
  | 0, _, _, _ => AgS.rfl'
  | k + 1, d, g, h => by
    rw [qrm]
    exact (qrm_out hs (k := k) (d := d + 1) (by omega)).trans' (far_qrec (by omega) (by omega) (by omega))
theorem qf3_out {fs s : Nat} {t : Nat → Nat} : ∀ {k j : Nat} {g : Nat → Nat}, (∀ x, j ≤ x → x < j + k → s ≠ fs + x) → fs + j + k ≤ 64 → AgS s (qf3 fs t k j g) g
  | 0, _, _, _, _ => AgS.rfl'
  | k + 1, j, g, hs, h => by
    rw [qf3, qsl_at (by omega)]
    exact (qf3_out (k := k) (j := j + 1) (fun x q1 q2 => hs x (by omega) (by omega)) (by omega)).trans' (far_en1 (hs j (by omega) (by omega)))
theorem qf3_in {fs : Nat} {t : Nat → Nat} : ∀ {k j p : Nat} {g : Nat → Nat}, j ≤ p → p < j + k → fs + j + k ≤ 64 → AgS (fs + p) (qf3 fs t k j g) (en1 g (64 * (fs + p)) (t (fs + p)))
  | 0, _, _, _, h1, h2, _ => absurd h2 (by omega)
  | k + 1, j, p, g, h1, h2, h => by
    rw [qf3, qsl_at (by omega)]
    rcases Nat.eq_or_lt_of_le h1 with e | e
    · subst e
      exact qf3_out (fun x q1 q2 => by omega) (by omega)
    · refine (qf3_in (k := k) (j := j + 1) e (by omega) (by omega)).trans' ?_
      exact ags_en1 (far_en1 (by omega))
theorem wfG_fhd {q y p z f m zl : Nat} {rk rv : Nat → Int64} {w : Nat → Nat} : wfG q y p z f m zl rk rv w = en1 (wfL (64 * q) (f + 3 * p) rk rv (min 3 (m - 3 * p)) 0 (fhd q z (min 3 (m - 3 * p)) (zl + 1) p w)) (64 * q) (y + p) := rfl
theorem wfL_out {s s' f : Nat} {rk rv : Nat → Int64} (hs : s ≠ s') : ∀ {k i : Nat} {g : Nat → Nat}, i + k ≤ 3 → AgS s (wfL (64 * s') f rk rv k i g) g
  | 0, _, _, _ => AgS.rfl'
  | k + 1, i, g, h => (wfL_out hs (k := k) (i := i + 1) (by omega)).trans' ((far_pn1 hs (by omega) (by omega)).trans' (far_pn1 hs (by omega) (by omega)))
theorem wfG_out {s q y p z f m zl : Nat} {rk rv : Nat → Int64} {w : Nat → Nat} (hs : s ≠ q) : AgS s (wfG q y p z f m zl rk rv w) w := by
  rw [wfG_fhd]
  exact (far_en1 hs).trans' ((wfL_out hs (by omega)).trans' (fhd_out hs))
theorem wfG_in {q y p z f m zl : Nat} {rk rv : Nat → Int64} {w w' : Nat → Nat} : AgS q (wfG q y p z f m zl rk rv w) (wfG q y p z f m zl rk rv w') := by
  rw [wfG_fhd, wfG_fhd]
  exact ags_en1 (ags_wfL fhd_in)
theorem cqL_at {y z f m zl : Nat} {rk rv : Nat → Int64} : ∀ {k j : Nat} {Z : WQ}, (∀ s, s < Z.1 → AgS s (cqL y z f m zl rk rv k j Z).2.2.2 Z.2.2.2) ∧ (∀ p, p < k → AgS (Z.1 + p) (cqL y z f m zl rk rv k j Z).2.2.2 (wfG (Z.1 + p) y (j + p) z f m zl rk rv Z.2.2.2))
  | 0, _, _ => ⟨fun _ _ => AgS.rfl', fun p hp => absurd hp (by omega)⟩
  | k + 1, j, Z => by
    have ih := cqL_at (y := y) (z := z) (f := f) (m := m) (zl := zl) (rk := rk) (rv := rv) (k := k) (j := j + 1) (Z := cqS y z f m zl rk rv j Z)
    have e : (cqS y z f m zl rk rv j Z).2.2.2 = wfG Z.1 y j z f m zl rk rv Z.2.2.2 := rfl
    have e1 : (cqS y z f m zl rk rv j Z).1 = Z.1 + 1 := rfl
    rw [cqL]
    refine ⟨fun s hs => (ih.1 s (by rw [e1]; omega)).trans' (by rw [e]; exact wfG_out (by omega)), fun p hp => ?_⟩
    cases p with
    | zero =>
      rw [Nat.add_zero, Nat.add_zero]
      exact (ih.1 Z.1 (by rw [e1]; omega)).trans' (by rw [e]; exact AgS.rfl')
    | succ p =>
      have q := ih.2 p (by omega)
      rw [e1, show Z.1 + 1 + p = Z.1 + (p + 1) by omega, show j + 1 + p = j + (p + 1) by omega] at q
      exact q.trans' wfG_in
theorem cqL_n {y z f m zl : Nat} {rk rv : Nat → Int64} : ∀ {k j : Nat} {Z : WQ}, (cqL y z f m zl rk rv k j Z).1 = Z.1 + k
  | 0, _, _ => rfl
  | k + 1, j, Z => by
    rw [cqL, cqL_n (k := k)]
    show Z.1 + 1 + k = Z.1 + (k + 1)
    omega
theorem cqL_tg {y z f m zl : Nat} {rk rv : Nat → Int64} : ∀ {k j : Nat} {Z : WQ} (x : Nat), (cqL y z f m zl rk rv k j Z).2.1 x = if Z.1 ≤ x ∧ x < Z.1 + k then y + j + (x - Z.1) else Z.2.1 x
  | 0, _, Z, x => by
    rw [cqL, if_neg (by omega)]
  | k + 1, j, Z, x => by
    rw [cqL, cqL_tg (k := k)]
    show (if Z.1 + 1 ≤ x ∧ x < Z.1 + 1 + k then y + (j + 1) + (x - (Z.1 + 1)) else va_up Z.2.1 Z.1 (y + j) x) = _
    by_cases c : x = Z.1
    · have d1 : ¬ (Z.1 + 1 ≤ x ∧ x < Z.1 + 1 + k) := by omega
      have d2 : Z.1 ≤ x ∧ x < Z.1 + (k + 1) := by omega
      rw [if_neg d1, if_pos d2, c, va_up_self]
      omega
    · by_cases c2 : Z.1 + 1 ≤ x ∧ x < Z.1 + 1 + k
      · have d2 : Z.1 ≤ x ∧ x < Z.1 + (k + 1) := by omega
        rw [if_pos c2, if_pos d2]
        omega
      · have d2 : ¬ (Z.1 ≤ x ∧ x < Z.1 + (k + 1)) := by omega
        rw [if_neg c2, if_neg d2, va_up_ne _ _ c]
theorem file_img {qn nb m y lf f : Nat} {qt qg rQ rw : Nat → Nat} {ra : Nat} {mg : Bool} {tk tv rk rv : Nat → Int64} {ts : Nat → Nat} {tn : Nat} (hm : (m + 2) / 3 = nb) (hq : qn + nb ≤ 64) (hg : Ag (64 * qn) qg rw)
    (hl : slc mg tk tv ts tn 0 = (List.range' 0 m).map (fun i => (rk (f + i), rv (f + i)))) :
    Ag (64 * (qn + nb)) (qf3 qn (qf1 nb m y (lf + 1) nb 0 (qn, qt, qg)).2.1 nb 0 (qf2 mg qn tk tv ts tn 0 0 (qf1 nb m y (lf + 1) nb 0 (qn, qt, qg)).2.2)) (cqL y nb f m lf rk rv nb 0 (qn, rQ, ra, rw)).2.2.2 := by
  rw [qf2_qrl, hl, qrl_qrm]
  have a1 := qf1_at (nb := nb) (rc := m) (fi := y) (nu := lf + 1) (k := nb) (j := 0) (Z := (qn, qt, qg)) hq
  have b1 := cqL_at (y := y) (z := nb) (f := f) (m := m) (zl := lf) (rk := rk) (rv := rv) (k := nb) (j := 0) (Z := (qn, rQ, ra, rw))
  have t1 := fun x => qf1_tg (nb := nb) (rc := m) (fi := y) (nu := lf + 1) (k := nb) (j := 0) (Z := (qn, qt, qg)) x
  generalize qf1 nb m y (lf + 1) nb 0 (qn, qt, qg) = Q0 at a1 t1 ⊢
  generalize (cqL y nb f m lf rk rv nb 0 (qn, rQ, ra, rw)).2.2.2 = C0 at b1 ⊢
  have key : ∀ s, s < qn + nb → AgS s (qf3 qn Q0.2.1 nb 0 (qrm qn f rk rv m 0 Q0.2.2)) C0 := by
    intro s hs
    rcases Nat.lt_or_ge s qn with q | q
    · have c1 : AgS s (qf3 qn Q0.2.1 nb 0 (qrm qn f rk rv m 0 Q0.2.2)) qg := (qf3_out (fun x _ _ => by omega) (by omega)).trans' ((qrm_out q (by omega)).trans' (a1.1 s q))
      have c2 : AgS s C0 rw := b1.1 s q
      exact fun j q1 q2 => (c1 j q1 q2).trans ((hg j (by omega)).trans (c2 j q1 q2).symm)
    · obtain ⟨p, rfl⟩ : ∃ p, s = qn + p := ⟨s - qn, by omega⟩
      have hp : p < nb := by omega
      have c1 := qf3_in (fs := qn) (t := Q0.2.1) (k := nb) (j := 0) (p := p) (g := qrm qn f rk rv m 0 Q0.2.2) (by omega) (by omega) (by omega)
      have c2 := qrm_in (fs := qn) (f := f) (p := p) (rk := rk) (rv := rv) (k := m) (d := 0) (g := Q0.2.2) (by omega)
      have c3 := a1.2 p hp
      have c4 := b1.2 p hp
      have t2 : Q0.2.1 (qn + p) = y + p := by
        rw [t1]
        show (if qn ≤ qn + p ∧ qn + p < qn + nb then y + 0 + (qn + p - qn) else qt (qn + p)) = _
        have d2 : qn ≤ qn + p ∧ qn + p < qn + nb := by omega
        rw [if_pos d2]
        omega
      rw [Nat.zero_add, show min 3 (0 - 3 * p) = 0 by omega, Nat.sub_zero] at c2
      have c3 : AgS (qn + p) Q0.2.2 (fhd (qn + p) nb (min 3 (m - 3 * p)) (lf + 1) p qg) := by
        have z := c3
        rw [Nat.zero_add, Nat.mul_comm p 3] at z
        exact z
      have c4 : AgS (qn + p) C0 (wfG (qn + p) y p nb f m lf rk rv rw) := by
        have z := c4
        rw [Nat.zero_add] at z
        exact z
      rw [wfG_fhd] at c4
      rw [t2] at c1
      have c5 := c1.trans' (ags_en1 (c2.trans' (ags_wfL (c3.trans' (fhd_in (d := rw))))))
      exact fun j q1 q2 => (c5 j q1 q2).trans (c4 j q1 q2).symm
  intro j hj
  exact key (j / 64) (by omega) j (by omega) (by omega)
