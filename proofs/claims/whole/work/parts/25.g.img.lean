theorem ag_wzN {q : Nat} {g w : Nat → Nat} (h : Ag (64 * q) g w) : Ag (64 * (q + 1)) (wz 64 g (64 * q)) (wz 64 w (64 * q)) := fun j hj => by
  rw [wz_val, wz_val]
  split
  · rfl
  · exact h j (by omega)
theorem ag_wlL {N A s : Nat} {rk rv : Nat → Int64} : ∀ {k i : Nat} {g w : Nat → Nat} (_ : Ag N g w), Ag N (wlL A s rk rv k i g) (wlL A s rk rv k i w)
  | 0, _, _, _, h => h
  | k + 1, i, _, _, h => ag_wlL (k := k) (i := i + 1) (ag_pn1 (ag_pn1 h _ _) _ _)
theorem ag_wlG {q t x s y : Nat} {rk rv : Nat → Int64} {g w : Nat → Nat} (h : Ag (64 * q) g w) : Ag (64 * (q + 1)) (wlG q t x s rk rv y g) (wlG q t x s rk rv y w) := by
  unfold wlG
  exact ag_en1 (ag_wlL (ag_pn1 (ag_pn1 (ag_pn1 (ag_wzN h) _ _) _ _) _ _)) (by omega)
theorem qrec_at {s p : Nat} (hs : s < 64) (hp : p ≤ 2) {k v : Int64} {g : Nat → Nat} : qrec s p k v g = pn1 8 (pn1 8 g (64 * s + (8 + 16 * p)) (uL k)) (64 * s + (16 + 16 * p)) (uL v) := by
  rw [qrec, pnum_at hs (by omega), pnum_at hs (by omega), show 8 + p * 16 = 8 + 16 * p by omega, show 8 + 16 * p + 8 = 16 + 16 * p by omega]
theorem qlg_wlL {s f rs tn w0 : Nat} (hs : s < 64) (hw : w0 ≤ 3) {tk tv rk rv : Nat → Int64} {ts : Nat → Nat} (h : ∀ i, i < w0 → ∃ ix, twi ts (f + i) tn 0 = some ix ∧ tk ix = rk (rs + i) ∧ tv ix = rv (rs + i)) : ∀ {k i : Nat} {g : Nat → Nat}, i + k ≤ w0 → qlg s f tk tv ts tn k i g = wlL (64 * s) rs rk rv k i g
  | 0, _, _, _ => rfl
  | k + 1, i, g, hk => by
    obtain ⟨ix, h1, h2, h3⟩ := h i (by omega)
    rw [qlg, h1, wlL]
    show qlg s f tk tv ts tn k (i + 1) (qrec s i (tk ix) (tv ix) g) = _
    rw [qrec_at hs (by omega), h2, h3]
    exact qlg_wlL hs hw h (by omega)
theorem qlG_wlG {s f rs tn w b : Nat} (hs : s < 64) (hw : w ≤ 3) {tk tv rk rv : Nat → Int64} {ts t g : Nat → Nat} (h : ∀ i, i < w → ∃ ix, twi ts (f + i) tn 0 = some ix ∧ tk ix = rk (rs + i) ∧ tv ix = rv (rs + i)) : qlG s f w tk tv ts tn b t g = wlG s w f rs rk rv b g := by
  rw [qlG, qsl_at hs, va_up_self, qlg_wlL hs hw h (by omega), pnum_at hs (by decide), qap_at hs, wlG]
theorem ag_whL {N A : Nat} {fN fF fB fR : Nat → Nat} : ∀ {k i : Nat} {g w : Nat → Nat} (_ : Ag N g w), Ag N (whL A fN fF fB fR k i g) (whL A fN fF fB fR k i w)
  | 0, _, _, _, h => h
  | k + 1, i, _, _, h => ag_whL (k := k) (i := i + 1) (ag_pn1 (ag_pn1 (ag_pn1 (ag_pn1 h _ _) _ _) _ _) _ _)
theorem ag_whG {q n e x : Nat} {fN fF fB fR g w : Nat → Nat} (h : Ag (64 * q) g w) : Ag (64 * (q + 1)) (whG q n e x fN fF fB fR g) (whG q n e x fN fF fB fR w) := by
  unfold whG
  exact ag_en1 (ag_pn1 (ag_whL (ag_pn1 (ag_pn1 (ag_pn1 (ag_wzN h) _ _) _ _) _ _)) _ _) (by omega)
theorem qh1_whL {s pf : Nat} (hs : s < 64) (hp : pf ≤ 5) {pF fN fF fB fR : Nat → Nat} (h : ∀ i, i < pf → hfl pf pF i 0 = fN i ∧ hfl pf pF i 1 = fF i ∧ hfl pf pF i 2 = fB i ∧ hfl pf pF i 3 = fR i) : ∀ {k i : Nat} {g : Nat → Nat}, i + k ≤ pf → qh1 s pf pF k i g = whL (64 * s) fN fF fB fR k i g
  | 0, _, _, _ => rfl
  | k + 1, i, g, hk => by
    obtain ⟨h0, h1, h2, h3⟩ := h i (by omega)
    rw [qh1, whL]
    show qh1 s pf pF k (i + 1) (pnum 64 s 2 (pnum 64 s 2 (pnum 64 s 2 (pnum 64 s 2 g (8 + 2 * (i * 4 + 0)) (hfl pf pF i 0)) (8 + 2 * (i * 4 + 1)) (hfl pf pF i 1)) (8 + 2 * (i * 4 + 2)) (hfl pf pF i 2)) (8 + 2 * (i * 4 + 3)) (hfl pf pF i 3)) = _
    rw [pnum_at hs (by omega), pnum_at hs (by omega), pnum_at hs (by omega), pnum_at hs (by omega), h0, h1, h2, h3, show 8 + 2 * (i * 4 + 0) = 8 + 8 * i by omega, show 8 + 2 * (i * 4 + 1) = 10 + 8 * i by omega, show 8 + 2 * (i * 4 + 2) = 12 + 8 * i by omega, show 8 + 2 * (i * 4 + 3) = 14 + 8 * i by omega]
    exact qh1_whL hs hp h (by omega)
theorem qhG_whG {s pf eg px : Nat} (hs : s < 64) (hp : pf ≤ 5) {pF fN fF fB fR t g : Nat → Nat} (h : ∀ i, i < pf → hfl pf pF i 0 = fN i ∧ hfl pf pF i 1 = fF i ∧ hfl pf pF i 2 = fB i ∧ hfl pf pF i 3 = fR i) : qhG s pf (eg + 1) px pF t g = whG s pf eg px fN fF fB fR g := by
  rw [qhG, qsl_at hs, va_up_self, pnum_at hs (by decide), qh1_whL hs hp h (by omega), pnum_at hs (by decide), qap_at hs, whG]
