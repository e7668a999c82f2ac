theorem hap_out {n : Nat} {f : Nat → Nat} {a b c d j : Nat} (h : j < n * 4 ∨ n * 4 + 4 ≤ j) : hap n f a b c d j = f j := by
  unfold hap
  rw [va_up_ne _ _ (by omega), va_up_ne _ _ (by omega), va_up_ne _ _ (by omega), va_up_ne _ _ (by omega)]
theorem hap_at {n : Nat} {f : Nat → Nat} {a b c d : Nat} : hap n f a b c d (n * 4 + 0) = a ∧ hap n f a b c d (n * 4 + 1) = b ∧ hap n f a b c d (n * 4 + 2) = c ∧ hap n f a b c d (n * 4 + 3) = d := by
  unfold hap
  refine ⟨?_, ?_, ?_, va_up_self _ _ _⟩
  · rw [va_up_ne _ _ (by omega), va_up_ne _ _ (by omega), va_up_ne _ _ (by omega), va_up_self]
  · rw [va_up_ne _ _ (by omega), va_up_ne _ _ (by omega), va_up_self]
  · rw [va_up_ne _ _ (by omega), va_up_self]
theorem hap_w {n : Nat} {f : Nat → Nat} {g : Nat → Nat} {w : Nat} (hw : w < 4) : hap n f (g 0) (g 1) (g 2) (g 3) (n * 4 + w) = g w := by
  have h := hap_at (n := n) (f := f) (a := g 0) (b := g 1) (c := g 2) (d := g 3)
  rcases (show w = 0 ∨ w = 1 ∨ w = 2 ∨ w = 3 by omega) with rfl | rfl | rfl | rfl
  · exact h.1
  · exact h.2.1
  · exact h.2.2.1
  · exact h.2.2.2
theorem hal_at {ef : Nat} {eF : Nat → Nat} : ∀ {k i : Nat} {Z : Nat × (Nat → Nat)}, Z.1 = i → ∀ j w, j < i + k → w < 4 → (hal ef eF k i Z).2 (j * 4 + w) = if j < i then Z.2 (j * 4 + w) else hfl ef eF j w
  | 0, i, Z, hZ, j, w, hj, hw => by
    rw [hal, if_pos (by omega)]
  | k + 1, i, Z, hZ, j, w, hj, hw => by
    rw [hal, hal_at (k := k) (i := i + 1) (Z := haS ef eF i Z) (by show Z.1 + 1 = i + 1; omega) j w (by omega) hw]
    show (if j < i + 1 then hap Z.1 Z.2 (hfl ef eF i 0) (hfl ef eF i 1) (hfl ef eF i 2) (hfl ef eF i 3) (j * 4 + w) else _) = _
    rw [hZ]
    by_cases c : j < i
    · rw [if_pos c, if_pos (by omega), hap_out (by omega)]
    · rw [if_neg c]
      by_cases c2 : j = i
      · subst c2
        rw [if_pos (by omega)]
        exact hap_w (g := fun w => hfl ef eF j w) hw
      · rw [if_neg (by omega)]
theorem plh_spec {mg : Bool} {ef st : Nat} {eF pF : Nat → Nat} {lf y nb m : Nat} (h : (mg = true ∧ st = 0) ∨ (mg = false ∧ st = ef ∧ ef < 5)) :
    (plh mg ef eF pF lf y nb m).1 = st + 1 ∧ ∀ i, i < st + 1 → hfl (st + 1) (plh mg ef eF pF lf y nb m).2 i 0 = va_up (fun j => hfl ef eF j 0) st (lf + 1) i ∧ hfl (st + 1) (plh mg ef eF pF lf y nb m).2 i 1 = va_up (fun j => hfl ef eF j 1) st y i ∧ hfl (st + 1) (plh mg ef eF pF lf y nb m).2 i 2 = va_up (fun j => hfl ef eF j 2) st nb i ∧ hfl (st + 1) (plh mg ef eF pF lf y nb m).2 i 3 = va_up (fun j => hfl ef eF j 3) st m i := by
  rcases h with ⟨rfl, rfl⟩ | ⟨rfl, rfl, h5⟩
  · unfold plh
    rw [if_pos rfl]
    refine ⟨rfl, fun i hi => ?_⟩
    have e : i = 0 := by omega
    subst e
    have z := hap_at (n := 0) (f := pF) (a := lf + 1) (b := y) (c := nb) (d := m)
    unfold hfl
    rw [if_pos (by omega), if_pos (by omega), if_pos (by omega), if_pos (by omega), va_up_self, va_up_self, va_up_self, va_up_self]
    exact z
  · unfold plh
    rw [if_neg (by decide), hal_1]
    refine ⟨by show 0 + st + 1 = st + 1; omega, fun i hi => ?_⟩
    rw [Nat.zero_add]
    by_cases c : i = st
    · rw [c]
      have z := hap_at (n := st) (f := (hal st eF st 0 (0, pF)).2) (a := lf + 1) (b := y) (c := nb) (d := m)
      rw [va_up_self, va_up_self, va_up_self, va_up_self]
      unfold hfl
      rw [if_pos (by omega), if_pos (by omega), if_pos (by omega), if_pos (by omega)]
      exact z
    · rw [va_up_ne _ _ c, va_up_ne _ _ c, va_up_ne _ _ c, va_up_ne _ _ c]
      have key : ∀ w, w < 4 → hfl (st + 1) (hap st (hal st eF st 0 (0, pF)).2 (lf + 1) y nb m) i w = hfl st eF i w := fun w hw => by
        have z := hal_at (ef := st) (eF := eF) (k := st) (i := 0) (Z := (0, pF)) rfl i w (by omega) hw
        rw [if_neg (by omega)] at z
        rw [← z]
        conv => lhs; unfold hfl
        rw [if_pos (by omega), hap_out (by omega)]
      exact ⟨key 0 (by decide), key 1 (by decide), key 2 (by decide), key 3 (by decide)⟩
theorem tset_val : ∀ {k : Nat} {t : Nat → Nat} {i : Nat}, ∀ j, tset k t i j = if i ≤ j ∧ j < i + k then 0 else t j
  | 0, t, i, j => by
    rw [tset, if_neg (by omega)]
  | k + 1, t, i, j => by
    rw [tset, tset_val (k := k)]
    by_cases e : j = i
    · rw [if_neg (by omega), if_pos (by omega), e, va_up_self]
    · rw [va_up_ne _ _ e]
      by_cases c : i + 1 ≤ j ∧ j < i + 1 + k
      · rw [if_pos c, if_pos (by omega)]
      · rw [if_neg c, if_neg (by omega)]
theorem cqL_g {y z f m zl : Nat} {rk rv : Nat → Int64} : ∀ {k j : Nat} {Z : WQ} (_ : ∀ q, Z.2.2.2 q < 256), ∀ q, (cqL y z f m zl rk rv k j Z).2.2.2 q < 256
  | 0, _, _, h => h
  | k + 1, j, Z, h => cqL_g (k := k) (j := j + 1) (Z := cqS y z f m zl rk rv j Z) (wfG_lt h)
theorem cqL_t {y z f m zl : Nat} {rk rv : Nat → Int64} : ∀ {k j : Nat} {Z : WQ} (_ : y + j + k ≤ 64) (_ : ∀ q, Z.2.1 q < 64), ∀ q, (cqL y z f m zl rk rv k j Z).2.1 q < 64
  | 0, _, _, _, h => h
  | k + 1, j, Z, hk, h => cqL_t (k := k) (j := j + 1) (Z := cqS y z f m zl rk rv j Z) (by omega) (va_up_lt h (by omega))
theorem cnt_or {P Q R : Nat → Bool} : ∀ {k c : Nat}, (∀ x, c ≤ x → x < c + k → R x = (P x || Q x)) → (∀ x, c ≤ x → x < c + k → P x = true → Q x = true → False) → cnt R k c = cnt P k c + cnt Q k c
  | 0, _, _, _ => rfl
  | k + 1, c, h, hd => by
    have ih := cnt_or (k := k) (c := c + 1) (fun x h1 h2 => h x (by omega) (by omega)) (fun x h1 h2 => hd x (by omega) (by omega))
    have z := hd c (by omega) (by omega)
    rw [cnt, cnt, cnt, ih, h c (by omega) (by omega)]
    cases hp : P c <;> cases hq : Q c
    · simp
    · simp; omega
    · simp; omega
    · exact absurd hq (fun _ => z hp hq)
theorem iof_up {fF fB : Nat → Nat} {st y nb x : Nat} : iof (va_up fF st y) (va_up fB st nb) x (st + 1) 0 = (decide (y ≤ x ∧ x < y + nb) || iof fF fB x st 0) := by
  rw [Bool.eq_iff_iff, Bool.or_eq_true, iof_iff, iof_iff, decide_eq_true_eq]
  constructor
  · rintro ⟨g, h1, h2, h3⟩
    by_cases e : g = st
    · subst e
      rw [va_up_self, va_up_self] at h3
      exact Or.inl h3
    · rw [va_up_ne _ _ e, va_up_ne _ _ e] at h3
      exact Or.inr ⟨g, h1, by omega, h3⟩
  · rintro (h | ⟨g, h1, h2, h3⟩)
    · exact ⟨st, by omega, by omega, by rw [va_up_self, va_up_self]; exact h⟩
    · exact ⟨g, h1, by omega, by rw [va_up_ne _ _ (by omega), va_up_ne _ _ (by omega)]; exact h3⟩
theorem use_commit {mg : Bool} {un rf st rl y nb : Nat} {fF fB lB ug : Nat → Nat} (hu : ∀ x, x < un → ug x = usM rf fF fB rl lB x) (hc : (mg = true ∧ st = 0) ∨ (mg = false ∧ st = rf)) (hfree : ∀ x, y ≤ x → x < y + nb → usM rf fF fB rl lB x = 0) {x : Nat} (hx : x < un) :
    umk un y 2 nb (tkU mg un ug) 0 x = usM (st + 1) (va_up fF st y) (va_up fB st nb) 0 lB x := by
  have hq : ¬ qhol lB x 0 0 = true := by rw [qhol]; decide
  rw [umk_val, usM, iof_up, if_neg hq]
  by_cases c : y ≤ x ∧ x < y + nb
  · have c2 := usM_free (hfree x c.1 c.2)
    rw [if_pos (by omega), if_neg (by omega), if_pos (by rw [decide_eq_true c]; rfl)]
  · rw [if_neg (by omega), decide_eq_false c, Bool.false_or, tkU]
    rcases hc with ⟨rfl, rfl⟩ | ⟨rfl, rfl⟩
    · rw [if_pos rfl, utn_val, utn_val, hu x hx]
      have i0 : ¬ iof fF fB x 0 0 = true := by rw [iof]; decide
      rw [if_neg i0]
      unfold usM
      by_cases c2 : x < 2
      · simp [c2]
      · simp only [c2, if_false]
        split
        · simp [hx]
        · split
          · simp [hx]
          · simp
    · rw [if_neg (by decide), utn_val, hu x hx]
      unfold usM
      by_cases c2 : x < 2
      · simp [c2]
      · simp only [c2, if_false]
        split
        · simp
        · split
          · simp [hx]
          · simp
theorem z_same {n : Nat} {tk tv rk rv : Nat → Int64} {ts sq : Nat → Nat} (h : SameF (lsR n tk tv ts) (lsR n rk rv sq)) : SameF (lsR n tk tv (fun _ => 0)) (lsR n rk rv (fun _ => 0)) := by
  intro x
  have e : ∀ (k v : Nat → Int64) (q : Nat → Nat), lsR n k v (fun _ => 0) = (lsR n k v q).map z0 := fun k v q => by
    unfold lsR
    rw [List.map_map]
    rfl
  rw [e tk tv ts, e rk rv sq, filter_z0, filter_z0, h x]
theorem sg_split {f n : Nat} (hf : f ≤ n) {k v : Nat → Int64} : lsR n k v (fun _ => 0) = lsR f k v (fun _ => 0) ++ sg f (n - f) k v := by
  unfold sg lsR
  rw [List.range_eq_range', List.range_eq_range', List.range_eq_range']
  have z := List.range'_append (s := 0) (m := f) (n := n - f) (step := 1)
  rw [Nat.one_mul, Nat.zero_add, show f + (n - f) = n by omega] at z
  rw [← z, List.map_append]
  congr 1
  rw [List.range'_eq_map_range, List.map_map, List.range_eq_range']
  rfl
theorem same_commit {n f : Nat} {tk tv rk rv : Nat → Int64} {ts sq : Nat → Nat} {K : (Nat → Int64) × (Nat → Int64)} (hn : f < n) (h : SameF (lsR n tk tv ts) (lsR n rk rv sq)) (hK : srO f (n - (f + 1)) (f + 1) (rk, rv) = K) :
    SameF (lsR n tk tv (fun _ => 0)) (lsR n K.1 K.2 (fun _ => 0)) := by
  have hO := srO_spec (f := f) (rk := rk) (rv := rv) (m := n - (f + 1)) (c := f + 1) (Z := (rk, rv)) (by omega) (fun i j h1 h2 => by rw [show i = 0 by omega, show j = 0 by omega]; exact Int64.le_refl _) (fun _ => rfl) (fun _ _ => ⟨rfl, rfl⟩)
  rw [hK, show f + 1 + (n - (f + 1)) - f = n - f by omega] at hO
  obtain ⟨-, o2, o3⟩ := hO
  intro x
  rw [z_same h x, sg_split (f := f) (n := n) (k := rk) (v := rv) (by omega), sg_split (f := f) (n := n) (k := K.1) (v := K.2) (by omega), List.filter_append, List.filter_append, o2 x, lsR_congr (k' := rk) (v' := rv) (q' := fun _ => 0) (k := K.1) (v := K.2) (q := fun _ => 0) (fun i hi => ⟨(o3 i (Or.inl hi)).1, (o3 i (Or.inl hi)).2, rfl⟩)]
set_option maxHeartbeats 4000000 in
set_option maxRecDepth 100000 in
theorem ag_head {q q' pf pf' eg eg' x x' : Nat} {pF t g w fN fF fB fR : Nat → Nat} (hq : q = q') (hp : pf = pf') (he : eg = eg') (hx : x = x') (h64 : q < 64) (h5 : pf ≤ 5) (h : ∀ i, i < pf → hfl pf pF i 0 = fN i ∧ hfl pf pF i 1 = fF i ∧ hfl pf pF i 2 = fB i ∧ hfl pf pF i 3 = fR i) (hg : Ag (64 * q) g w) : Ag (64 * (q + 1)) (qhG q pf (eg + 1) x pF t g) (whG q' pf' eg' x' fN fF fB fR w) := by
  subst hq hp he hx
  rw [qhG_whG h64 h5 h]
  exact ag_whG hg
theorem drain_eq {dn rb qn rn m : Nat} {qt qg rQ rw dg rd : Nat → Nat} (hqn : qn ≤ 64) (hg : ∀ j, qg j < 256) (ht : ∀ x, x < qn → qt x < dn) (h1 : ∀ x, x < qn → qt x = rQ x) (h2 : Ag (64 * qn) qg rw) (hd : dn = rb) (hn : qn = rn) (h3 : Ag (64 * rb) dg rd) :
    Ag (64 * rb) (qdr dn qt qg (min m (qn * 64)) 0 dg) (prO rQ rw rn 0 m 0 rd).2 := by
  subst hd hn
  exact (drain_ag hqn hg ht h1 h2 h3).2
theorem rel_commit {k y m mc f0 st : Nat} {mg : Bool} {S : SC} {M : SM} {P0 : Nat × (Nat → Nat)} {Q0 : QS} {G0 : Nat → Nat} {K : (Nat → Int64) × (Nat → Int64)} {Z0 : WQ} (hR : Rel k S M) (hk : k < 512) (hro : m_ro M = true) (hl : ifM (m_fR M) (m_rf M) 0 0 < m_rn M)
    (hc : (mg = true ∧ m_rf M = 5 ∧ f0 = 0 ∧ st = 0) ∨ (mg = false ∧ m_rf M < 5 ∧ f0 = ifM (m_fR M) (m_rf M) 0 0 ∧ st = m_rf M)) (hm : m = m_rn M - f0) (hmc : mc = m)
    (hfr : frM (usM (m_rf M) (m_fF M) (m_fB M) (m_rl M) (m_lB M)) ((m + 2) / 3) (m_rb M - 2) 2 0 = some y)
    (hP0 : plh mg (c_ef S) (c_eF S) (c_pF S) (c_lf S) y ((mc + 2) / 3) mc = P0)
    (hQ0 : qf1 ((mc + 2) / 3) mc y (c_lf S + 1) ((mc + 2) / 3) 0 (c_qn S, c_qt S, c_qg S) = Q0)
    (hG0 : qf3 (c_qn S) Q0.2.1 ((mc + 2) / 3) 0 (qf2 mg (c_qn S) (c_tk S) (c_tv S) (c_ts S) (c_tn S) 0 0 Q0.2.2) = G0)
    (hK : srO f0 (m_rn M - (f0 + 1)) (f0 + 1) (m_rk M, m_rv M) = K)
    (hZ0 : cqL y ((m + 2) / 3) f0 m (m_rz M) K.1 K.2 ((m + 2) / 3) 0 (m_rq M, m_rQ M, m_ra M, m_rw M) = Z0) :
    ((0 < P0.1 ∧ P0.1 ≤ 5) ∧ (hfl P0.1 P0.2 (P0.1 - 1) 0 = c_lf S + 1 ∧ hfl P0.1 P0.2 (P0.1 - 1) 1 = y ∧ hfl P0.1 P0.2 (P0.1 - 1) 2 = (mc + 2) / 3 ∧ hfl P0.1 P0.2 (P0.1 - 1) 3 = mc) ∧ (c_qn S + (mc + 2) / 3 < 64 ∧ y + (mc + 2) / 3 ≤ 64) ∧ Q0.1 = Z0.1)
    ∧ Rel (k + 1) ⟨c_s1 S, c_s2 S, c_h1 S, c_h2 S, c_op S, c_nx S, 0, c_nx S - 1, c_lf S + 1, c_dn S, qdr (c_dn S) (va_up Q0.2.1 Q0.1 ((c_eg S + 1) % 2)) (qhG Q0.1 P0.1 (c_eg S + 1) (c_nx S) P0.2 Q0.2.1 G0) (min ((Q0.1 + 1) * 64) ((Q0.1 + 1) * 64)) 0 (c_dg S), c_un S, umk (c_un S) y 2 ((mc + 2) / 3) (tkU mg (c_un S) (c_ug S)) 0, 0, (va_up Q0.2.1 Q0.1 ((c_eg S + 1) % 2)), (qhG Q0.1 P0.1 (c_eg S + 1) (c_nx S) P0.2 Q0.2.1 G0), c_tn S, c_tk S, c_tv S, tset (c_tn S) (c_ts S) 0, P0.1, c_eg S + 1, c_nx S, P0.2, c_ef S, c_eg S, c_ex S, c_eF S⟩ ⟨m_rb M, (prO (va_up Z0.2.1 Z0.1 ((m_rg M + 1) % 2)) (whG Z0.1 (st + 1) (m_rg M) (m_rx M) (va_up (m_fN M) st (m_rz M + 1)) (va_up (m_fF M) st y) (va_up (m_fB M) st ((m + 2) / 3)) (va_up (m_fR M) st m) Z0.2.2.2) (Z0.1 + 1) 0 (64 * (Z0.1 + 1)) 0 (m_rd M)).2, 0, (va_up Z0.2.1 Z0.1 ((m_rg M + 1) % 2)), (whG Z0.1 (st + 1) (m_rg M) (m_rx M) (va_up (m_fN M) st (m_rz M + 1)) (va_up (m_fF M) st y) (va_up (m_fB M) st ((m + 2) / 3)) (va_up (m_fR M) st m) Z0.2.2.2), 64 * Z0.1, m_ro M, m_rn M, K.1, K.2, st + 1, va_up (m_fN M) st (m_rz M + 1), va_up (m_fF M) st y, va_up (m_fB M) st ((m + 2) / 3), va_up (m_fR M) st m, 0, m_lB M, m_lR M, 0, m_rg M + 1, m_rx M, m_rz M + 1⟩
    ∧ (∀ n, Rel (k + 1) ⟨c_h1 S, c_h2 S, c_s1 S, c_s2 S, false, c_nx S, c_wt S, c_sf S, c_lf S, c_dn S, qdr (c_dn S) (va_up Q0.2.1 Q0.1 ((c_eg S + 1) % 2)) (qhG Q0.1 P0.1 (c_eg S + 1) (c_nx S) P0.2 Q0.2.1 G0) (min n ((Q0.1 + 1) * 64)) 0 (c_dg S), c_un S, c_ug S, 0, (va_up Q0.2.1 Q0.1 ((c_eg S + 1) % 2)), (qhG Q0.1 P0.1 (c_eg S + 1) (c_nx S) P0.2 Q0.2.1 G0), c_tn S, c_tk S, c_tv S, c_ts S, c_ef S, c_eg S, c_ex S, c_eF S, P0.1, c_eg S + 1, c_nx S, P0.2⟩ ⟨m_rb M, (prO (va_up Z0.2.1 Z0.1 ((m_rg M + 1) % 2)) (whG Z0.1 (st + 1) (m_rg M) (m_rx M) (va_up (m_fN M) st (m_rz M + 1)) (va_up (m_fF M) st y) (va_up (m_fB M) st ((m + 2) / 3)) (va_up (m_fR M) st m) Z0.2.2.2) (Z0.1 + 1) 0 n 0 (m_rd M)).2, 0, (va_up Z0.2.1 Z0.1 ((m_rg M + 1) % 2)), (whG Z0.1 (st + 1) (m_rg M) (m_rx M) (va_up (m_fN M) st (m_rz M + 1)) (va_up (m_fF M) st y) (va_up (m_fB M) st ((m + 2) / 3)) (va_up (m_fR M) st m) Z0.2.2.2), 64 * Z0.1, false, 0, K.1, K.2, 0, va_up (m_fN M) st (m_rz M + 1), va_up (m_fF M) st y, va_up (m_fB M) st ((m + 2) / 3), va_up (m_fR M) st m, 0, m_lB M, m_lR M, 0, 0, 1, 0⟩) := by
  subst hmc
  obtain ⟨⟨⟨b1, b2, b3, b4, b5, b6, b7⟩, ⟨d1, d2, d3, d4, d5, d6, d7, d8, d9⟩⟩, ⟨⟨n1, n2, n3⟩, n4, n5, n6, n7, n8⟩, hO, hC⟩ := id hR
  obtain ⟨hu, hq, ht, hg⟩ := hO hro
  have hrm := rel_room n3 n2 hu hg
  obtain ⟨⟨u1, u2, u3, u4, u5, u6, u7⟩, ⟨v1, v2, v3, v4, v5⟩, u8, u9⟩ := hu
  obtain ⟨q1, q2, q3, ⟨q4, q5⟩, q6⟩ := hq
  obtain ⟨t1, t2, t3, t4, t5, t6⟩ := ht
  obtain ⟨g1, g2, g3, g4, g5, g6, g7⟩ := id hg
  have hf0 : f0 ≤ ifM (m_fR M) (m_rf M) 0 0 ∧ ifM (m_fR M) st 0 0 = f0 ∧ st < 5 ∧ st ≤ m_rf M := by
    rcases hc with ⟨-, h1, rfl, rfl⟩ | ⟨-, h1, rfl, rfl⟩
    · exact ⟨Nat.zero_le _, rfl, by decide, by omega⟩
    · exact ⟨Nat.le_refl _, rfl, h1, Nat.le_refl _⟩
  obtain ⟨f1, f2, f3, f4⟩ := hf0
  have hm1 : 1 ≤ mc := by omega
  obtain ⟨w, hw⟩ : ∃ w, (mc + 2) / 3 = w + 1 := ⟨(mc + 2) / 3 - 1, by omega⟩
  have hfree := frM_free (y := 2) (r := 0) (by omega) (by omega) (fun x h1 h2 => by omega) hfr
  have hroom := rel_free (w := w) hg n3 n2 (by rw [← hw]; exact hfr)
  have hyb : y + (mc + 2) / 3 ≤ m_rb M := by omega
  have hy2 : 2 ≤ y := by omega
  have hps := plh_spec (mg := mg) (ef := c_ef S) (st := st) (eF := c_eF S) (pF := c_pF S) (lf := c_lf S) (y := y) (nb := (mc + 2) / 3) (m := mc) (by
    rcases hc with ⟨h0, -, -, h1⟩ | ⟨h0, h2, -, h1⟩
    · exact Or.inl ⟨h0, h1⟩
    · exact Or.inr ⟨h0, by omega, by omega⟩)
  have hPb : ∀ j, P0.2 j < 1048576 := by
    rw [← hP0]
    exact plh_lt b6 b7 (by omega) (by omega) (by omega) (by omega)
  rw [hP0] at hps
  obtain ⟨p1, p2⟩ := hps
  have p3 : ∀ i, i < st + 1 → hfl P0.1 P0.2 i 0 = va_up (m_fN M) st (m_rz M + 1) i ∧ hfl P0.1 P0.2 i 1 = va_up (m_fF M) st y i ∧ hfl P0.1 P0.2 i 2 = va_up (m_fB M) st ((mc + 2) / 3) i ∧ hfl P0.1 P0.2 i 3 = va_up (m_fR M) st mc i := fun i hi => by
    rw [p1]
    have z := p2 i hi
    by_cases e : i = st
    · rw [e, va_up_self, va_up_self, va_up_self, va_up_self] at z ⊢
      rw [← u3]
      exact z
    · rw [va_up_ne _ _ e, va_up_ne _ _ e, va_up_ne _ _ e, va_up_ne _ _ e] at z ⊢
      have z2 := u9 i (by omega)
      exact ⟨z.1.trans z2.1, z.2.1.trans z2.2.1, z.2.2.1.trans z2.2.2.1, z.2.2.2.trans z2.2.2.2⟩
  have qn0 : Q0.1 = c_qn S + (mc + 2) / 3 := by rw [← hQ0, qf1_n]
  have zn0 : Z0.1 = m_rq M + (mc + 2) / 3 := by rw [← hZ0, cqL_n]
  have qz : Q0.1 = Z0.1 := by omega
  have hqt : ∀ x, Q0.2.1 x < 64 := by rw [← hQ0]; exact qf1_t (by omega) b3
  have hzt : ∀ x, Z0.2.1 x < 64 := by rw [← hZ0]; exact cqL_t (by omega) d3
  have hqg : ∀ x, Q0.2.2 x < 256 := by rw [← hQ0]; exact qf1_g b4
  have hzg : ∀ x, Z0.2.2.2 x < 256 := by rw [← hZ0]; exact cqL_g d2
  have hgg : ∀ x, G0 x < 256 := by rw [← hG0]; exact qf3_lt (qf2_lt hqg)
  have hsl : slc mg (c_tk S) (c_tv S) (c_ts S) (c_tn S) 0 = (List.range' 0 mc).map (fun i => (K.1 (f0 + i), K.2 (f0 + i))) := by
    rw [u6]
    rcases hc with ⟨rfl, -, rfl, -⟩ | ⟨rfl, -, h1, -⟩
    · rw [hm, Nat.sub_zero]
      exact sel_all (by omega) t1 t2 hK
    · rw [hm]
      refine sel_loose (by omega) t1 t2 (fun j hj => ?_) hK
      rw [sqM, h1]
      split <;> omega
  have himg : Ag (64 * Q0.1) G0 Z0.2.2.2 := by
    have z := file_img (qn := c_qn S) (nb := (mc + 2) / 3) (m := mc) (y := y) (lf := c_lf S) (f := f0) (qt := c_qt S) (qg := c_qg S) (rQ := m_rQ M) (rw := m_rw M) (ra := m_ra M) (mg := mg) (tk := c_tk S) (tv := c_tv S) (rk := K.1) (rv := K.2) (ts := c_ts S) (tn := c_tn S) rfl (by omega) (by rw [q1]; exact q3) hsl
    rw [hQ0, hG0, q1, u3, hZ0] at z
    rw [qn0, q1]
    exact z
  have htg : ∀ x, x < Q0.1 + 1 → va_up Q0.2.1 Q0.1 ((c_eg S + 1) % 2) x = va_up Z0.2.1 Z0.1 ((m_rg M + 1) % 2) x ∧ va_up Q0.2.1 Q0.1 ((c_eg S + 1) % 2) x < c_dn S := fun x hx => by
    rw [← qz, u4]
    by_cases e : x = Q0.1
    · rw [e, va_up_self, va_up_self]
      exact ⟨rfl, by omega⟩
    · rw [va_up_ne _ _ e, va_up_ne _ _ e]
      have a1 := qf1_tg (nb := (mc + 2) / 3) (rc := mc) (fi := y) (nu := c_lf S + 1) (k := (mc + 2) / 3) (j := 0) (Z := (c_qn S, c_qt S, c_qg S)) x
      have a2 := cqL_tg (y := y) (z := (mc + 2) / 3) (f := f0) (m := mc) (zl := m_rz M) (rk := K.1) (rv := K.2) (k := (mc + 2) / 3) (j := 0) (Z := (m_rq M, m_rQ M, m_ra M, m_rw M)) x
      rw [hQ0] at a1
      rw [hZ0] at a2
      have a1 : Q0.2.1 x = if c_qn S ≤ x ∧ x < c_qn S + (mc + 2) / 3 then y + 0 + (x - c_qn S) else c_qt S x := a1
      have a2 : Z0.2.1 x = if m_rq M ≤ x ∧ x < m_rq M + (mc + 2) / 3 then y + 0 + (x - m_rq M) else m_rQ M x := a2
      rw [a1, a2, q1]
      by_cases c : m_rq M ≤ x ∧ x < m_rq M + (mc + 2) / 3
      · rw [if_pos c, if_pos c]
        exact ⟨rfl, by omega⟩
      · rw [if_neg c, if_neg c]
        have hx2 : x < m_rq M := by omega
        obtain ⟨z, z1, z2⟩ := q5 x hx2
        rw [q2 x hx2]
        refine ⟨rfl, ?_⟩
        rw [← z2, n1]
        exact (g3 z z1).2.1
  have himg2 : Ag (64 * (Q0.1 + 1)) (qhG Q0.1 P0.1 (c_eg S + 1) (c_nx S) P0.2 Q0.2.1 G0) (whG Z0.1 (st + 1) (m_rg M) (m_rx M) (va_up (m_fN M) st (m_rz M + 1)) (va_up (m_fF M) st y) (va_up (m_fB M) st ((mc + 2) / 3)) (va_up (m_fR M) st mc) Z0.2.2.2) := by
    exact ag_head qz p1 u4 u1 (by omega) (by omega) (fun i hi => p3 i (by omega)) himg
  have hdr : ∀ n, Ag (64 * m_rb M) (qdr (c_dn S) (va_up Q0.2.1 Q0.1 ((c_eg S + 1) % 2)) (qhG Q0.1 P0.1 (c_eg S + 1) (c_nx S) P0.2 Q0.2.1 G0) (min n ((Q0.1 + 1) * 64)) 0 (c_dg S)) (prO (va_up Z0.2.1 Z0.1 ((m_rg M + 1) % 2)) (whG Z0.1 (st + 1) (m_rg M) (m_rx M) (va_up (m_fN M) st (m_rz M + 1)) (va_up (m_fF M) st y) (va_up (m_fB M) st ((mc + 2) / 3)) (va_up (m_fR M) st mc) Z0.2.2.2) (Z0.1 + 1) 0 n 0 (m_rd M)).2 := fun n => by
    have z := (drain_eq (rn := Z0.1 + 1) (dn := c_dn S) (qn := Q0.1 + 1) (m := n) (qt := (va_up Q0.2.1 Q0.1 ((c_eg S + 1) % 2))) (qg := (qhG Q0.1 P0.1 (c_eg S + 1) (c_nx S) P0.2 Q0.2.1 G0)) (rQ := (va_up Z0.2.1 Z0.1 ((m_rg M + 1) % 2))) (rw := (whG Z0.1 (st + 1) (m_rg M) (m_rx M) (va_up (m_fN M) st (m_rz M + 1)) (va_up (m_fF M) st y) (va_up (m_fB M) st ((mc + 2) / 3)) (va_up (m_fR M) st mc) Z0.2.2.2)) (dg := c_dg S) (rd := m_rd M) (by omega) (qhG_lt hgg) (fun x hx => (htg x hx).2) (fun x hx => (htg x hx).1) himg2 n1 (by omega) n4)
    exact z
  have hQb : ∀ j, (va_up Q0.2.1 Q0.1 ((c_eg S + 1) % 2)) j < 64 := va_up_lt hqt (by omega)
  have hRb : ∀ j, (va_up Z0.2.1 Z0.1 ((m_rg M + 1) % 2)) j < 64 := va_up_lt hzt (by omega)
  have hQg : ∀ j, (qhG Q0.1 P0.1 (c_eg S + 1) (c_nx S) P0.2 Q0.2.1 G0) j < 256 := qhG_lt hgg
  have hRg : ∀ j, (whG Z0.1 (st + 1) (m_rg M) (m_rx M) (va_up (m_fN M) st (m_rz M + 1)) (va_up (m_fF M) st y) (va_up (m_fB M) st ((mc + 2) / 3)) (va_up (m_fR M) st mc) Z0.2.2.2) j < 256 := whG_lt hzg
  have hinf : ifM (va_up (m_fR M) st mc) (st + 1) 0 0 = m_rn M := by
    rw [ifM_up, f2]
    omega
  have hM : ∀ (rd : Nat → Nat), (∀ j, rd j < 256) → ((∀ j, rd j < 256) ∧ (∀ j, (whG Z0.1 (st + 1) (m_rg M) (m_rx M) (va_up (m_fN M) st (m_rz M + 1)) (va_up (m_fF M) st y) (va_up (m_fB M) st ((mc + 2) / 3)) (va_up (m_fR M) st mc) Z0.2.2.2) j < 256) ∧ (∀ j, (va_up Z0.2.1 Z0.1 ((m_rg M + 1) % 2)) j < 64) ∧ (∀ j, va_up (m_fN M) st (m_rz M + 1) j < 1048576) ∧ (∀ j, va_up (m_fF M) st y j < 1048576) ∧ (∀ j, va_up (m_fB M) st ((mc + 2) / 3) j < 1048576) ∧ (∀ j, va_up (m_fR M) st mc j < 1048576) ∧ (∀ j, m_lB M j < 1048576) ∧ (∀ j, m_lR M j < 1048576)) := fun rd h => ⟨h, hRg, hRb, va_up_lt d4 (by omega), va_up_lt d5 (by omega), va_up_lt d6 (by omega), va_up_lt d7 (by omega), d8, d9⟩
  have hlast := p3 st (by omega)
  rw [va_up_self, va_up_self, va_up_self, va_up_self] at hlast
  have huse := fun x (hx : x < m_rb M) => use_commit (mg := mg) (un := m_rb M) (rf := m_rf M) (st := st) (rl := m_rl M) (y := y) (nb := (mc + 2) / 3) (fF := m_fF M) (fB := m_fB M) (lB := m_lB M) (ug := c_ug S) u8 (by
    rcases hc with ⟨h0, -, -, h1⟩ | ⟨h0, h2, -, h1⟩
    · exact Or.inl ⟨h0, h1⟩
    · exact Or.inr ⟨h0, h1⟩) (fun x h1 h2 => hfree.2.2 x h1 h2) hx
  refine ⟨⟨⟨by omega, by omega⟩, ?_, ⟨by omega, by omega⟩, qz⟩, ⟨⟨⟨qdr_lt b1 hQg, umk_lt (tkU_lt b2) (by decide), hQb, hQg, tset_lt b5, hPb, b6⟩, hM _ (prO_lt hRg d1)⟩, ⟨⟨n1, n2, n3⟩, ?_, n5, n6, Nat.zero_le _, n8⟩, fun _ => ⟨⟨⟨u1, rfl, (show c_lf S + 1 = m_rz M + 1 by omega), (show c_eg S + 1 = m_rg M + 1 by omega), p1, u6, u7⟩, (show 0 ≤ 2 ∧ st + 1 ≤ 5 ∧ m_rx M ≤ 1000000200 + 3 * (k + 1) ∧ m_rg M + 1 ≤ 1000000000 + (k + 1) ∧ m_rz M + 1 ≤ 65536 + (k + 1) by omega), ?_, p3⟩, ⟨rfl, fun x hx => absurd hx (Nat.not_lt_zero _), fun x hx => absurd hx (Nat.not_lt_zero _), ⟨Nat.zero_le _, fun x hx => absurd hx (Nat.not_lt_zero _)⟩, ?_⟩, ⟨t1, ?_, ⟨?_, ?_, ?_, ?_⟩⟩, ⟨?_, ?_, fun x hx => absurd hx (Nat.not_lt_zero _), fun x x2 _ hx => absurd hx (Nat.not_lt_zero _), ?_, ?_, ?_⟩⟩, fun o => absurd (hro.symm.trans o) (by decide)⟩, fun n => ⟨⟨⟨qdr_lt b1 hQg, b2, hQb, hQg, b5, b6, hPb⟩, hM _ (prO_lt hRg d1)⟩, ⟨⟨n1, n2, n3⟩, hdr n, rfl, n6, Nat.zero_le _, n8⟩, fun o => absurd (show false = true from o) (by decide), fun _ => rfl⟩⟩
  · rw [show P0.1 - 1 = st by omega, u3]
    exact hlast
  · have z := hdr (64 * (Z0.1 + 1))
    rw [← qz, show min (64 * (Q0.1 + 1)) ((Q0.1 + 1) * 64) = min ((Q0.1 + 1) * 64) ((Q0.1 + 1) * 64) by omega] at z
    rw [← qz]
    exact z
  · intro x hx
    have z := huse x hx
    rw [← u7] at z
    exact z
  · show nI (c_nx S - 1) = (lN (m_rx M) - lN 1 - lN 0).toInt32
    rw [lN_sub (by omega), lN_sub (by omega), lN_i, u1, Nat.sub_zero]
  · show SameF (lsR (m_rn M) (c_tk S) (c_tv S) (tset (c_tn S) (c_ts S) 0)) (lsR (m_rn M) K.1 K.2 (sqM (c_nx S) (ifM (va_up (m_fR M) st mc) (st + 1) 0 0)))
    rw [hinf, lsR_congr (k' := c_tk S) (v' := c_tv S) (q' := fun _ => 0) (q := tset (c_tn S) (c_ts S) 0) (fun i hi => ⟨rfl, rfl, by rw [tset_val, if_pos (by omega)]⟩), lsR_congr (k' := K.1) (v' := K.2) (q' := fun _ => 0) (q := sqM (c_nx S) (m_rn M)) (fun i hi => ⟨rfl, rfl, by rw [sqM, if_pos hi]⟩)]
    exact same_commit (by omega) t2 hK
  · show 1 ≤ c_nx S
    omega
  · show ifM (va_up (m_fR M) st mc) (st + 1) 0 0 ≤ m_rn M
    omega
  · show m_rx M = c_nx S + (m_rn M - ifM (va_up (m_fR M) st mc) (st + 1) 0 0)
    omega
  · show 0 + ifM (va_up (m_fR M) st mc) (st + 1) 0 0 ≤ m_rn M
    omega
  · show ∀ i, i < st + 1 → 2 ≤ va_up (m_fF M) st y i ∧ 1 ≤ va_up (m_fB M) st ((mc + 2) / 3) i ∧ va_up (m_fF M) st y i + va_up (m_fB M) st ((mc + 2) / 3) i ≤ m_rb M ∧ va_up (m_fR M) st mc i ≤ 3 * va_up (m_fB M) st ((mc + 2) / 3) i
    intro i hi
    by_cases e : i = st
    · rw [e, va_up_self, va_up_self, va_up_self]
      omega
    · rw [va_up_ne _ _ e, va_up_ne _ _ e, va_up_ne _ _ e]
      exact g1 i (by omega)
  · show ∀ i j, i < j → j < st + 1 → va_up (m_fF M) st y i + va_up (m_fB M) st ((mc + 2) / 3) i ≤ va_up (m_fF M) st y j ∨ va_up (m_fF M) st y j + va_up (m_fB M) st ((mc + 2) / 3) j ≤ va_up (m_fF M) st y i
    intro i j hij hj
    rw [va_up_ne _ _ (show i ≠ st by omega), va_up_ne _ _ (show i ≠ st by omega)]
    by_cases e : j = st
    · rw [e, va_up_self, va_up_self]
      have z := g1 i (by omega)
      rcases Nat.lt_or_ge (m_fF M i + m_fB M i) (y + 1) with q | q
      · exact Or.inl (by omega)
      · rcases Nat.lt_or_ge (m_fF M i) (y + (mc + 2) / 3) with q2 | q2
        · exfalso
          have h1 := (usM_free (hfree.2.2 (max y (m_fF M i)) (by omega) (by omega))).2.1
          have h2 : iof (m_fF M) (m_fB M) (max y (m_fF M i)) (m_rf M) 0 = true := iof_iff.mpr ⟨i, by omega, by omega, by omega, by omega⟩
          rw [h1] at h2
          cases h2
        · exact Or.inr q2
    · rw [va_up_ne _ _ e, va_up_ne _ _ e]
      exact g2 i j hij (by omega)
  · show m_rn M = ifM (va_up (m_fR M) st mc) (st + 1) 0 0 + 0 + 0
    omega
  · show cnt (fun x => decide (usM (st + 1) (va_up (m_fF M) st y) (va_up (m_fB M) st ((mc + 2) / 3)) 0 (m_lB M) x = 1)) (m_rb M - 2) 2 = 0
    refine cnt_none (fun x h1 h2 q => ?_)
    have q := of_decide_eq_true q
    unfold usM at q
    rw [if_neg (by omega)] at q
    split at q
    · omega
    · rw [if_neg (by rw [qhol]; decide)] at q
      omega
  · show cnt (fun x => decide (usM (st + 1) (va_up (m_fF M) st y) (va_up (m_fB M) st ((mc + 2) / 3)) 0 (m_lB M) x = 2)) (m_rb M - 2) 2 = ifM (va_up (m_fB M) st ((mc + 2) / 3)) (st + 1) 0 0
    rw [ifM_up]
    have e2 : ∀ x, 2 ≤ x → decide (usM (st + 1) (va_up (m_fF M) st y) (va_up (m_fB M) st ((mc + 2) / 3)) 0 (m_lB M) x = 2) = (iof (m_fF M) (m_fB M) x st 0 || decide (y ≤ x ∧ x < y + (mc + 2) / 3)) := fun x hx => by
      rw [usM, if_neg (by omega), iof_up, Bool.or_comm]
      cases (iof (m_fF M) (m_fB M) x st 0 || decide (y ≤ x ∧ x < y + (mc + 2) / 3)) with
      | true => rfl
      | false =>
        rw [if_neg (by decide), if_neg (by rw [qhol]; decide)]
        rfl
    rw [cnt_or (P := fun x => iof (m_fF M) (m_fB M) x st 0) (Q := fun x => decide (y ≤ x ∧ x < y + (mc + 2) / 3)) (fun x h1 _ => e2 x h1) (fun x h1 _ q1 q2 => ?_), cnt_run (by omega) (by omega)]
    · congr 1
      rcases hc with ⟨-, -, -, rfl⟩ | ⟨-, -, -, h1⟩
      · exact cnt_none (fun x _ _ q => by rw [iof] at q; cases q)
      · rw [h1, ← g7]
        refine cnt_eq (fun x q1 _ => ?_)
        rw [usM, if_neg (by omega)]
        cases iof (m_fF M) (m_fB M) x (m_rf M) 0 with
        | true => rfl
        | false =>
          rw [if_neg (by decide)]
          split <;> rfl
    · have q2 := of_decide_eq_true q2
      have h1 := (usM_free (hfree.2.2 x q2.1 q2.2)).2.1
      obtain ⟨g, z1, z2, z3⟩ := iof_iff.mp q1
      have h2 : iof (m_fF M) (m_fB M) x (m_rf M) 0 = true := iof_iff.mpr ⟨g, z1, by omega, z3⟩
      rw [h1] at h2
      cases h2
