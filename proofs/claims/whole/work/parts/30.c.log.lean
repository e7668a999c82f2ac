theorem frM_free {u : Nat → Nat} {w : Nat} : ∀ {k y r c : Nat}, r ≤ y → r < w → (∀ x, y - r ≤ x → x < y → u x = 0) → frM u w k y r = some c → y - r ≤ c ∧ c + w ≤ y + k ∧ ∀ x, c ≤ x → x < c + w → u x = 0
  | 0, _, _, _, _, _, _, h => by cases h
  | k + 1, y, r, c, hr, hw, hz, h => by
    rw [frM] at h
    by_cases e : u y = 0
    · rw [if_pos e] at h
      have hz2 : ∀ x, y - r ≤ x → x < y + 1 → u x = 0 := fun x h1 h2 => by
        rcases Nat.lt_or_ge x y with q | q
        · exact hz x h1 q
        · rw [show x = y by omega]; exact e
      by_cases c2 : r + 1 = w
      · rw [if_pos c2] at h
        have e2 := Option.some.inj h
        exact ⟨by omega, by omega, fun x h1 h2 => hz2 x (by omega) (by omega)⟩
      · rw [if_neg c2] at h
        have q := frM_free (k := k) (y := y + 1) (r := r + 1) (by omega) (by omega) (fun x h1 h2 => hz2 x (by omega) h2) h
        exact ⟨by omega, by omega, q.2.2⟩
    · rw [if_neg e, if_neg (by omega)] at h
      have q := frM_free (k := k) (y := y + 1) (r := 0) (by omega) (by omega) (fun x h1 h2 => by omega) h
      exact ⟨by omega, by omega, q.2.2⟩
theorem twi_ex {t : Nat → Nat} {x : Nat} : ∀ {k i j : Nat}, i ≤ j → j < i + k → t j = x → ∃ c, twi t x k i = some c ∧ i ≤ c ∧ c < i + k ∧ t c = x
  | 0, _, _, h1, h2, _ => absurd h2 (by omega)
  | k + 1, i, j, h1, h2, h3 => by
    rw [twi]
    by_cases e : t i = x
    · rw [if_pos e]
      exact ⟨i, rfl, Nat.le_refl _, by omega, e⟩
    · rw [if_neg e]
      have hj : i + 1 ≤ j := by
        rcases Nat.eq_or_lt_of_le h1 with q | q
        · subst q; exact absurd h3 e
        · exact q
      obtain ⟨c, q1, q2, q3, q4⟩ := twi_ex (k := k) hj (by omega) h3
      exact ⟨c, q1, by omega, by omega, q4⟩
theorem lsR_mem {n : Nat} {k v : Nat → Int64} {q : Nat → Nat} {e : RecT} : e ∈ lsR n k v q ↔ ∃ i, i < n ∧ e = (k i, v i, q i) := by
  unfold lsR
  rw [List.mem_map]
  constructor
  · rintro ⟨i, h1, h2⟩
    exact ⟨i, List.mem_range.mp h1, h2.symm⟩
  · rintro ⟨i, h1, h2⟩
    exact ⟨i, List.mem_range.mpr h1, h2.symm⟩
theorem wait_at {n ex inf f : Nat} {tk tv rk rv : Nat → Int64} {ts : Nat → Nat} (h : SameF (lsR n tk tv ts) (lsR n rk rv (sqM ex inf))) (he : 1 ≤ ex) (h1 : inf ≤ f) (h2 : f < n) :
    ∃ ix, twi ts (ex + (f - inf)) n 0 = some ix ∧ tk ix = rk f ∧ tv ix = rv f := by
  have c1 : ¬ f < inf := by omega
  have m1 : (rk f, rv f, sqM ex inf f) ∈ lsR n rk rv (sqM ex inf) := lsR_mem.mpr ⟨f, h2, rfl⟩
  obtain ⟨i, i1, i2⟩ := lsR_mem.mp (h.perm.mem_iff.mpr m1)
  have i3 : ts i = ex + (f - inf) := by
    have z := congrArg (·.2.2) i2
    have z : sqM ex inf f = ts i := z
    rw [← z, sqM, if_neg c1]
  obtain ⟨c, q1, -, q3, q4⟩ := twi_ex (t := ts) (k := n) (i := 0) (Nat.zero_le i) (by omega) i3
  have m2 : (tk c, tv c, ts c) ∈ lsR n tk tv ts := lsR_mem.mpr ⟨c, by omega, rfl⟩
  obtain ⟨g, g1, g2⟩ := lsR_mem.mp (h.perm.mem_iff.mp m2)
  have g3 : ts c = sqM ex inf g := congrArg (·.2.2) g2
  have e : g = f := by
    rw [q4, sqM] at g3
    split at g3 <;> omega
  subst e
  exact ⟨c, q1, congrArg (·.1) g2, congrArg (·.2.1) g2⟩
theorem akM_congr {rQ rQ' : Nat → Nat} {rq rq' : Nat} {lB lB' lR lR' : Nat → Nat} : ∀ {j : Nat} {v : Int64}, (∀ x, x < j → lR x = lR' x ∧ qhol rQ (lB x) rq 0 = qhol rQ' (lB' x) rq' 0) → akM rQ rq lB lR j v = akM rQ' rq' lB' lR' j v
  | 0, _, _ => rfl
  | j + 1, v, h => by
    have h1 := h j (by omega)
    rw [akM, akM, h1.1, h1.2]
    exact akM_congr (fun x hx => h x (by omega))
theorem ifM_snoc {f : Nat → Nat} : ∀ {k i r : Nat}, ifM f (k + 1) i r = ifM f k i r + f (i + k)
  | 0, _, _ => rfl
  | k + 1, i, r => by
    rw [ifM, ifM_snoc (k := k), ifM, show i + 1 + k = i + (k + 1) by omega]
theorem ifM_congr {f g : Nat → Nat} : ∀ {k i r : Nat}, (∀ x, i ≤ x → x < i + k → f x = g x) → ifM f k i r = ifM g k i r
  | 0, _, _, _ => rfl
  | k + 1, i, r, h => by
    rw [ifM, ifM, h i (by omega) (by omega)]
    exact ifM_congr (fun x h1 h2 => h x (by omega) (by omega))
theorem ifM_up {f : Nat → Nat} {k v : Nat} : ifM (va_up f k v) (k + 1) 0 0 = ifM f k 0 0 + v := by
  rw [ifM_snoc, Nat.zero_add, va_up_self, ifM_congr (g := f) (fun x _ h2 => va_up_ne _ _ (by omega))]
theorem wlL_lt {A s : Nat} {rk rv : Nat → Int64} : ∀ {k i : Nat} {g : Nat → Nat} (_ : ∀ j, g j < 256), ∀ j, wlL A s rk rv k i g j < 256
  | 0, _, _, h => h
  | k + 1, i, _, h => wlL_lt (k := k) (i := i + 1) (pn1_lt (pn1_lt h))
theorem wlG_lt {q t x s : Nat} {rk rv : Nat → Int64} {y : Nat} {w : Nat → Nat} (h : ∀ j, w j < 256) : ∀ j, wlG q t x s rk rv y w j < 256 := en1_lt (wlL_lt (pn1_lt (pn1_lt (pn1_lt (wz_lt h)))))
theorem qhol_up {t : Nat → Nat} {n y x : Nat} : qhol (va_up t n y) x (n + 1) 0 = (decide (y = x) || qhol t x n 0) := by
  rw [Bool.eq_iff_iff, Bool.or_eq_true, qhol_iff, qhol_iff, decide_eq_true_eq]
  constructor
  · rintro ⟨j, h1, h2, h3⟩
    by_cases e : j = n
    · subst e
      rw [va_up_self] at h3
      exact Or.inl h3
    · rw [va_up_ne _ _ e] at h3
      exact Or.inr ⟨j, h1, by omega, h3⟩
  · rintro (h | ⟨j, h1, h2, h3⟩)
    · exact ⟨n, by omega, by omega, by rw [va_up_self, h]⟩
    · exact ⟨j, h1, by omega, by rw [va_up_ne _ _ (by omega)]; exact h3⟩
theorem usM_free {rf : Nat} {fF fB : Nat → Nat} {rl : Nat} {lB : Nat → Nat} {y : Nat} (h : usM rf fF fB rl lB y = 0) : 2 ≤ y ∧ iof fF fB y rf 0 = false ∧ qhol lB y rl 0 = false := by
  unfold usM at h
  split at h
  · omega
  · rename_i c
    split at h
    · omega
    · rename_i c2
      split at h
      · omega
      · rename_i c3
        exact ⟨by omega, by simpa using c2, by simpa using c3⟩
def RelV (S : SC) (M : SM) : Prop := (c_nx S = m_rx M ∧ c_wt S = m_rt M ∧ c_lf S = m_rz M ∧ c_eg S = m_rg M ∧ c_ef S = m_rf M ∧ c_tn S = m_rn M ∧ c_un S = m_rb M)
  ∧ (∀ y, y < m_rb M → c_ug S y = usM (m_rf M) (m_fF M) (m_fB M) (m_rl M) (m_lB M) y)
  ∧ (∀ i, i < m_rf M → hfl (c_ef S) (c_eF S) i 0 = m_fN M i ∧ hfl (c_ef S) (c_eF S) i 1 = m_fF M i ∧ hfl (c_ef S) (c_eF S) i 2 = m_fB M i ∧ hfl (c_ef S) (c_eF S) i 3 = m_fR M i)
theorem rel_log {k y : Nat} {S : SC} {M : SM} (hB : RelB S M) (hN : RelN S M) (hro : m_ro M = true) (hrt : 1 ≤ m_rt M ∧ m_rt M ≤ 3) (hv : RelV S M) (hb : m_rf M ≤ 5 ∧ m_rx M ≤ 1000000200 + 3 * k ∧ m_rg M ≤ 1000000000 + k ∧ m_rz M ≤ 65536 + k)
    (hq : RelQ S M) (ht : RelT S M) (hg : RelG M) (hfr : frM (usM (m_rf M) (m_fF M) (m_fB M) (m_rl M) (m_lB M)) 1 (m_rb M - 2) 2 0 = some y) (hqn : c_qn S < 64) :
    Rel k ⟨c_h1 S, c_h2 S, c_s1 S, c_s2 S, c_op S, c_nx S, 0, c_sf S, c_lf S, c_dn S, c_dg S, c_un S, umk (c_un S) y 1 1 (c_ug S) 0, c_qn S + 1, va_up (c_qt S) (c_qn S) y, qlG (c_qn S) (c_nx S - c_wt S) (c_wt S) (c_tk S) (c_tv S) (c_ts S) (c_tn S) y (c_qt S) (c_qg S), c_tn S, c_tk S, c_tv S, c_ts S, c_ef S, c_eg S, c_ex S, c_eF S, c_pf S, c_pg S, c_px S, c_pF S⟩ ⟨m_rb M, m_rd M, m_rq M + 1, va_up (m_rQ M) (m_rq M) y, wlG (m_rq M) (m_rt M) (m_rx M - m_rt M) (m_rn M - m_rt M) (m_rk M) (m_rv M) y (m_rw M), 64 * m_rq M, m_ro M, m_rn M, m_rk M, m_rv M, m_rf M, m_fN M, m_fF M, m_fB M, m_fR M, m_rl M + 1, va_up (m_lB M) (m_rl M) y, va_up (m_lR M) (m_rl M) (m_rt M), 0, m_rg M, m_rx M, m_rz M⟩ ∧ (∀ j, j < c_wt S → ∃ i, twi (c_ts S) (c_nx S - c_wt S + j) (c_tn S) 0 = some i) := by
  obtain ⟨⟨b1, b2, b3, b4, b5, b6, b7⟩, ⟨d1, d2, d3, d4, d5, d6, d7, d8, d9⟩⟩ := hB
  obtain ⟨⟨n1, n2, n3⟩, n4, n5, n6, n7, n8⟩ := hN
  obtain ⟨⟨u1, u2, u3, u4, u5, u6, u7⟩, u8, u9⟩ := hv
  obtain ⟨v2, v3, v4, v5⟩ := hb
  obtain ⟨q1, q2, q3, ⟨q4, q5⟩, q6⟩ := hq
  obtain ⟨t1, t2, t3, t4, t5, t6⟩ := ht
  obtain ⟨g1, g2, g3, g4, g5, g6, g7⟩ := hg
  have hf := frM_free (y := 2) (r := 0) (by omega) (by omega) (fun x h1 h2 => by omega) hfr
  have hy0 : usM (m_rf M) (m_fF M) (m_fB M) (m_rl M) (m_lB M) y = 0 := hf.2.2 y (by omega) (by omega)
  obtain ⟨y1, y2, y3⟩ := usM_free hy0
  have hyb : y < m_rb M := by omega
  have hmk := fun x => usM_mark (x := x) hy0
  have hne : ∀ x, x < m_rl M → m_lB M x ≠ y := fun x hx e => by
    rw [Bool.eq_false_iff] at y3
    exact y3 (qhol_iff.mpr ⟨x, by omega, by omega, e⟩)
  have hw : ∀ i, i < m_rt M → ∃ ix, twi (c_ts S) (c_nx S - c_wt S + i) (c_tn S) 0 = some ix ∧ c_tk S ix = m_rk M (m_rn M - m_rt M + i) ∧ c_tv S ix = m_rv M (m_rn M - m_rt M + i) := fun i hi => by
    have z := wait_at t2 t3 (f := m_rn M - m_rt M + i) (by omega) (by omega)
    rw [u6]
    rw [show c_ex S + (m_rn M - m_rt M + i - ifM (m_fR M) (m_rf M) 0 0) = c_nx S - c_wt S + i by omega] at z
    exact z
  have hcnt : cnt (fun z => decide (usM (m_rf M) (m_fF M) (m_fB M) (m_rl M + 1) (va_up (m_lB M) (m_rl M) y) z = 1)) (m_rb M - 2) 2 = m_rl M + 1 := by
    refine Eq.trans (cnt_one (P := fun z => decide (usM (m_rf M) (m_fF M) (m_fB M) (m_rl M) (m_lB M) z = 1)) (y := y) ?_ ?_ (fun x hx => ?_) (by omega) (by omega)) (by rw [g6])
    · show decide (_ = 1) = false
      rw [hy0]; decide
    · show decide (_ = 1) = true
      rw [hmk, if_pos rfl]; decide
    · show decide (_ = 1) = decide (_ = 1)
      rw [hmk, if_neg hx]
  have hcnt2 : cnt (fun z => decide (usM (m_rf M) (m_fF M) (m_fB M) (m_rl M + 1) (va_up (m_lB M) (m_rl M) y) z = 2)) (m_rb M - 2) 2 = ifM (m_fB M) (m_rf M) 0 0 := by
    refine Eq.trans (cnt_eq (P' := fun z => decide (usM (m_rf M) (m_fF M) (m_fB M) (m_rl M) (m_lB M) z = 2)) (fun x _ _ => ?_)) g7
    show decide (_ = 2) = decide (_ = 2)
    rw [hmk]
    by_cases e : x = y
    · rw [if_pos e, e, hy0]; rfl
    · rw [if_neg e]
  refine ⟨⟨⟨⟨b1, umk_lt b2 (by decide), va_up_lt b3 (by omega), qlG_lt b4, b5, b6, b7⟩, ⟨d1, wlG_lt d2, va_up_lt d3 (by omega), d4, d5, d6, d7, va_up_lt d8 (by omega), va_up_lt d9 (by omega)⟩⟩, ⟨⟨n1, n2, n3⟩, n4, n5, n6, (show c_qn S + 1 ≤ 64 by omega), n8⟩, fun _ => ⟨⟨⟨u1, rfl, u3, u4, u5, u6, u7⟩, ⟨Nat.zero_le _, v2, v3, v4, v5⟩, fun x hx => ?_, u9⟩, ⟨?_, fun x hx => ?_, ?_, ⟨?_, fun x hx => ?_⟩, ?_⟩, ⟨t1, t2, ⟨t3, t4, t5, ?_⟩⟩, ⟨g1, g2, fun x hx => ?_, fun x x2 h1 h2 => ?_, ?_, hcnt, hcnt2⟩⟩, fun o => absurd (hro.symm.trans o) (by decide)⟩, fun j hj => ?_⟩
  · have hx : x < m_rb M := hx
    show umk (c_un S) y 1 1 (c_ug S) 0 x = usM (m_rf M) (m_fF M) (m_fB M) (m_rl M + 1) (va_up (m_lB M) (m_rl M) y) x
    rw [umk_val, hmk, u8 x hx]
    by_cases e : x = y
    · rw [if_pos e, if_pos (by omega)]
    · rw [if_neg e, if_neg (by omega)]
  · show c_qn S + 1 = m_rq M + 1
    omega
  · have hx : x < m_rq M + 1 := hx
    show va_up (c_qt S) (c_qn S) y x = va_up (m_rQ M) (m_rq M) y x
    rw [q1]
    by_cases e : x = m_rq M
    · rw [e, va_up_self, va_up_self]
    · rw [va_up_ne _ _ e, va_up_ne _ _ e]
      exact q2 x (by omega)
  · show Ag (64 * (m_rq M + 1)) (qlG (c_qn S) (c_nx S - c_wt S) (c_wt S) (c_tk S) (c_tv S) (c_ts S) (c_tn S) y (c_qt S) (c_qg S)) (wlG (m_rq M) (m_rt M) (m_rx M - m_rt M) (m_rn M - m_rt M) (m_rk M) (m_rv M) y (m_rw M))
    rw [qlG_wlG (rk := m_rk M) (rv := m_rv M) (rs := m_rn M - m_rt M) hqn (by omega) (fun i hi => hw i (by omega)), q1, u1, u2]
    exact ag_wlG q3
  · show m_rq M + 1 ≤ m_rl M + 1
    omega
  · have hx : x < m_rq M + 1 := hx
    show ∃ z, z < m_rl M + 1 ∧ va_up (m_lB M) (m_rl M) y z = va_up (m_rQ M) (m_rq M) y x
    by_cases e : x = m_rq M
    · exact ⟨m_rl M, by omega, by rw [e, va_up_self, va_up_self]⟩
    · obtain ⟨z, z1, z2⟩ := q5 x (by omega)
      exact ⟨z, by omega, by rw [va_up_ne _ _ (by omega), va_up_ne _ _ e]; exact z2⟩
  · show nI (c_sf S) = (akM (va_up (m_rQ M) (m_rq M) y) (m_rq M + 1) (va_up (m_lB M) (m_rl M) y) (va_up (m_lR M) (m_rl M) (m_rt M)) (m_rl M + 1) (lN (m_rx M) - lN 1 - lN 0)).toInt32
    have e1 : qhol (va_up (m_rQ M) (m_rq M) y) (va_up (m_lB M) (m_rl M) y (m_rl M)) (m_rq M + 1) 0 = true := by
      rw [qhol_up, va_up_self]
      simp
    rw [q6, akM, if_pos e1, va_up_self, akM_congr (rQ := m_rQ M) (rq := m_rq M) (lB := m_lB M) (lR := m_lR M) (rQ' := va_up (m_rQ M) (m_rq M) y) (rq' := m_rq M + 1) (lB' := va_up (m_lB M) (m_rl M) y) (lR' := va_up (m_lR M) (m_rl M) (m_rt M)) (fun x hx => ?_)]
    · rw [show lN (m_rx M) - lN 1 - lN 0 = lN (m_rx M) - lN 1 from Int64.sub_zero _]
    · rw [va_up_ne _ _ (by omega), va_up_ne _ _ (by omega), qhol_up]
      have z := hne x hx
      refine ⟨rfl, ?_⟩
      rw [decide_eq_false (fun q => z q.symm), Bool.false_or]
  · show 0 + ifM (m_fR M) (m_rf M) 0 0 ≤ m_rn M
    omega
  · have hx : x < m_rl M + 1 := hx
    show 2 ≤ va_up (m_lB M) (m_rl M) y x ∧ va_up (m_lB M) (m_rl M) y x < m_rb M ∧ iof (m_fF M) (m_fB M) (va_up (m_lB M) (m_rl M) y x) (m_rf M) 0 = false ∧ 1 ≤ va_up (m_lR M) (m_rl M) (m_rt M) x ∧ va_up (m_lR M) (m_rl M) (m_rt M) x ≤ 3
    by_cases e : x = m_rl M
    · rw [e, va_up_self, va_up_self]
      exact ⟨y1, hyb, y2, hrt.1, hrt.2⟩
    · rw [va_up_ne _ _ e, va_up_ne _ _ e]
      exact g3 x (by omega)
  · have h2 : x2 < m_rl M + 1 := h2
    show va_up (m_lB M) (m_rl M) y x ≠ va_up (m_lB M) (m_rl M) y x2
    rw [va_up_ne _ _ (show x ≠ m_rl M by omega)]
    by_cases e : x2 = m_rl M
    · rw [e, va_up_self]
      exact hne x (by omega)
    · rw [va_up_ne _ _ e]
      exact g4 x x2 h1 (by omega)
  · show m_rn M = ifM (m_fR M) (m_rf M) 0 0 + ifM (va_up (m_lR M) (m_rl M) (m_rt M)) (m_rl M + 1) 0 0 + 0
    rw [ifM_up]
    omega
  · obtain ⟨ix, z, -⟩ := hw j (by omega)
    exact ⟨ix, z⟩
theorem cnt_three {P Q R : Nat → Bool} (h : ∀ x, P x = true → Q x = true → False) (h2 : ∀ x, P x = true ∨ Q x = true → R x = true → False) : ∀ (k c : Nat), cnt P k c + cnt Q k c + cnt R k c ≤ k
  | 0, _ => Nat.le_refl _
  | k + 1, c => by
    have ih := cnt_three h h2 k (c + 1)
    rw [cnt, cnt, cnt]
    by_cases c1 : P c = true
    · have e2 : ¬ Q c = true := fun q => h c c1 q
      have e3 : ¬ R c = true := fun q => h2 c (Or.inl c1) q
      rw [if_pos c1, if_neg e2, if_neg e3]
      omega
    · rw [if_neg c1]
      by_cases c2 : Q c = true
      · have e3 : ¬ R c = true := fun q => h2 c (Or.inr c2) q
        rw [if_pos c2, if_neg e3]
        omega
      · rw [if_neg c2]
        split <;> omega
theorem cnt_run {y w : Nat} : ∀ {k c : Nat}, c ≤ y → y + w ≤ c + k → cnt (fun x => decide (y ≤ x ∧ x < y + w)) k c = w := by
  have after : ∀ (k c : Nat), y ≤ c → cnt (fun x => decide (y ≤ x ∧ x < y + w)) k c = min k (y + w - c) := by
    intro k
    induction k with
    | zero => intro c h; rw [cnt]; omega
    | succ k ih =>
      intro c h
      rw [cnt, ih (c + 1) (by omega)]
      by_cases q : y ≤ c ∧ c < y + w
      · rw [if_pos (decide_eq_true q)]; omega
      · rw [if_neg (fun z => q (of_decide_eq_true z))]; omega
  intro k
  induction k with
  | zero => intro c h1 h2; rw [cnt]; omega
  | succ k ih =>
    intro c h1 h2
    rcases Nat.eq_or_lt_of_le h1 with e | e
    · rw [after (k + 1) c (by omega)]; omega
    · have q : ¬ (y ≤ c ∧ c < y + w) := by omega
      rw [cnt, if_neg (fun z => q (of_decide_eq_true z)), ih (by omega) (by omega)]
      omega
theorem rel_free {M : SM} {y w : Nat} (hg : RelG M) (h3 : m_rb M ≤ 64) (h4 : 4 ≤ m_rb M) (hfr : frM (usM (m_rf M) (m_fF M) (m_fB M) (m_rl M) (m_lB M)) (w + 1) (m_rb M - 2) 2 0 = some y) : m_rl M + ifM (m_fB M) (m_rf M) 0 0 + (w + 1) + 2 ≤ m_rb M := by
  have hf := frM_free (y := 2) (r := 0) (by omega) (by omega) (fun x h1 h2 => by omega) hfr
  have h1 := cnt_three (P := fun y => decide (usM (m_rf M) (m_fF M) (m_fB M) (m_rl M) (m_lB M) y = 1)) (Q := fun y => decide (usM (m_rf M) (m_fF M) (m_fB M) (m_rl M) (m_lB M) y = 2)) (R := fun x => decide (y ≤ x ∧ x < y + (w + 1))) (fun x q1 q2 => by
    have q1 := of_decide_eq_true q1
    have q2 := of_decide_eq_true q2
    omega) (fun x q1 q2 => by
    have q2 := of_decide_eq_true q2
    have z := hf.2.2 x q2.1 q2.2
    rcases q1 with q1 | q1
    · have q1 := of_decide_eq_true q1
      omega
    · have q1 := of_decide_eq_true q1
      omega) (m_rb M - 2) 2
  rw [hg.2.2.2.2.2.1, hg.2.2.2.2.2.2, cnt_run (by omega) (by omega)] at h1
  omega
