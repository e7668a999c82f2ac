def AgS (s : Nat) (g d : Nat → Nat) : Prop := ∀ j, 64 * s ≤ j → j < 64 * s + 64 → g j = d j
theorem AgS.rfl' {s : Nat} {g : Nat → Nat} : AgS s g g := fun _ _ _ => rfl
theorem AgS.trans' {s : Nat} {g d e : Nat → Nat} (h1 : AgS s g d) (h2 : AgS s d e) : AgS s g e := fun j q1 q2 => (h1 j q1 q2).trans (h2 j q1 q2)
theorem ags_up {s : Nat} {g d : Nat → Nat} (h : AgS s g d) (k v : Nat) : AgS s (va_up g k v) (va_up d k v) := fun j q1 q2 => by
  unfold va_up
  split
  · rfl
  · exact h j q1 q2
theorem ags_pn1 {s : Nat} : ∀ {k : Nat} {g d : Nat → Nat} (_ : AgS s g d) (i v : Nat), AgS s (pn1 k g i v) (pn1 k d i v)
  | 0, _, _, h, _, _ => h
  | k + 1, _, _, h, i, v => ags_pn1 (k := k) (ags_up h i (v % 256)) (i + 1) (v / 256)
theorem ags_en1 {s : Nat} {g d : Nat → Nat} (h : AgS s g d) {x : Nat} : AgS s (en1 g (64 * s) x) (en1 d (64 * s) x) := by
  unfold en1
  rw [show sm1 g (64 * s) x = sm1 d (64 * s) x from fol_congr (fun j _ h2 => h (64 * s + j) (by omega) (by omega))]
  exact ags_pn1 h _ _
theorem ags_wz {s : Nat} {g d : Nat → Nat} : AgS s (wz 64 g (64 * s)) (wz 64 d (64 * s)) := fun j q1 q2 => by
  rw [wz_val, wz_val, if_pos ⟨q1, q2⟩, if_pos ⟨q1, q2⟩]
theorem pn1_out : ∀ {k : Nat} {g : Nat → Nat} {i v j : Nat}, (j < i ∨ i + k ≤ j) → pn1 k g i v j = g j
  | 0, _, _, _, _, _ => rfl
  | k + 1, g, i, v, j, h => by
    rw [pn1, pn1_out (k := k) (by omega), va_up_ne _ _ (by omega)]
theorem far_pn1 {s s' k i v : Nat} {g : Nat → Nat} (hs : s ≠ s') (h1 : 64 * s' ≤ i) (h2 : i + k ≤ 64 * s' + 64) : AgS s (pn1 k g i v) g := fun j q1 q2 => pn1_out (by omega)
theorem far_wz {s s' : Nat} {g : Nat → Nat} (hs : s ≠ s') : AgS s (wz 64 g (64 * s')) g := fun j q1 q2 => by
  rw [wz_val, if_neg (by omega)]
theorem far_en1 {s s' x : Nat} {g : Nat → Nat} (hs : s ≠ s') : AgS s (en1 g (64 * s') x) g := far_pn1 hs (by omega) (by omega)
def fhd (s nb n nu p : Nat) (g : Nat → Nat) : Nat → Nat := pn1 2 (pn1 2 (pn1 2 (pn1 1 (pn1 1 (wz 64 g (64 * s)) (64 * s + 0) 2) (64 * s + 1) n) (64 * s + 2) nu) (64 * s + 4) p) (64 * s + 6) nb
theorem fhd_in {s nb n nu p : Nat} {g d : Nat → Nat} : AgS s (fhd s nb n nu p g) (fhd s nb n nu p d) := ags_pn1 (ags_pn1 (ags_pn1 (ags_pn1 (ags_pn1 ags_wz _ _) _ _) _ _) _ _) _ _
theorem fhd_out {s s' nb n nu p : Nat} {g : Nat → Nat} (hs : s ≠ s') : AgS s (fhd s' nb n nu p g) g :=
  (far_pn1 hs (by omega) (by omega)).trans' ((far_pn1 hs (by omega) (by omega)).trans' ((far_pn1 hs (by omega) (by omega)).trans' ((far_pn1 hs (by omega) (by omega)).trans' ((far_pn1 hs (by omega) (by omega)).trans' (far_wz hs)))))
theorem qf1_step {nb rc fi nu j : Nat} {Z : QS} (hs : Z.1 < 64) : qfS nb rc fi nu j Z = (Z.1 + 1, va_up Z.2.1 Z.1 (fi + j), fhd Z.1 nb (min 3 (rc - j * 3)) nu j Z.2.2) := by
  rw [qfS, fhd, pnum_at hs (by decide), pnum_at hs (by decide), pnum_at hs (by decide), qap_at hs]
theorem qf1_at {nb rc fi nu : Nat} : ∀ {k j : Nat} {Z : QS}, Z.1 + k ≤ 64 → (∀ s, s < Z.1 → AgS s (qf1 nb rc fi nu k j Z).2.2 Z.2.2) ∧ (∀ p, p < k → AgS (Z.1 + p) (qf1 nb rc fi nu k j Z).2.2 (fhd (Z.1 + p) nb (min 3 (rc - (j + p) * 3)) nu (j + p) Z.2.2))
  | 0, _, _, _ => ⟨fun _ _ => AgS.rfl', fun p hp => absurd hp (by omega)⟩
  | k + 1, j, Z, h => by
    have ih := qf1_at (nb := nb) (rc := rc) (fi := fi) (nu := nu) (k := k) (j := j + 1) (Z := qfS nb rc fi nu j Z) (by show Z.1 + 1 + k ≤ 64; omega)
    have e : (qfS nb rc fi nu j Z).2.2 = fhd Z.1 nb (min 3 (rc - j * 3)) nu j Z.2.2 := by rw [qf1_step (by omega)]
    have e1 : (qfS nb rc fi nu j Z).1 = Z.1 + 1 := rfl
    rw [qf1]
    refine ⟨fun s hs => (ih.1 s (by rw [e1]; omega)).trans' (by rw [e]; exact fhd_out (by omega)), fun p hp => ?_⟩
    cases p with
    | zero =>
      rw [Nat.add_zero, Nat.add_zero]
      exact (ih.1 Z.1 (by rw [e1]; omega)).trans' (by rw [e]; exact AgS.rfl')
    | succ p =>
      have q := ih.2 p (by omega)
      rw [e1, show Z.1 + 1 + p = Z.1 + (p + 1) by omega, show j + 1 + p = j + (p + 1) by omega] at q
      exact q.trans' fhd_in
theorem qf1_tg {nb rc fi nu : Nat} : ∀ {k j : Nat} {Z : QS} (x : Nat), (qf1 nb rc fi nu k j Z).2.1 x = if Z.1 ≤ x ∧ x < Z.1 + k then fi + j + (x - Z.1) else Z.2.1 x
  | 0, _, Z, x => by
    rw [qf1, if_neg (by omega)]
  | k + 1, j, Z, x => by
    rw [qf1, qf1_tg (k := k)]
    show (if Z.1 + 1 ≤ x ∧ x < Z.1 + 1 + k then fi + (j + 1) + (x - (Z.1 + 1)) else va_up Z.2.1 Z.1 (fi + j) x) = _
    by_cases c : x = Z.1
    · have d1 : ¬ (Z.1 + 1 ≤ x ∧ x < Z.1 + 1 + k) := by omega
      have d2 : Z.1 ≤ x ∧ x < Z.1 + (k + 1) := by omega
      rw [if_neg d1, if_pos d2, c, va_up_self]
      omega
    · by_cases c2 : Z.1 + 1 ≤ x ∧ x < Z.1 + 1 + k
      · have d2 : Z.1 ≤ x ∧ x < Z.1 + (k + 1) := by omega
        rw [if_pos c2, if_pos d2]
        omega
      · have d2 : ¬ (Z.1 ≤ x ∧ x < Z.1 + (k + 1)) := by omega
        rw [if_neg c2, if_neg d2, va_up_ne _ _ c]
def qrl (fs : Nat) : List (Int64 × Int64) → Nat → (Nat → Nat) → Nat → Nat
  | [], _, g => g
  | e :: l, d, g => qrl fs l (d + 1) (qrec (fs + d / 3) (d % 3) e.1 e.2 g)
def slc (mg : Bool) (tk tv : Nat → Int64) (ts : Nat → Nat) : Nat → Nat → List (Int64 × Int64)
  | 0, _ => []
  | k + 1, i => if mg = true ∨ ts i ≠ 0 then (tk i, tv i) :: slc mg tk tv ts k (i + 1) else slc mg tk tv ts k (i + 1)
theorem qf2_qrl {mg : Bool} {fs : Nat} {tk tv : Nat → Int64} {ts : Nat → Nat} : ∀ {k i d : Nat} {g : Nat → Nat}, qf2 mg fs tk tv ts k i d g = qrl fs (slc mg tk tv ts k i) d g
  | 0, _, _, _ => rfl
  | k + 1, i, d, g => by
    rw [qf2, slc]
    by_cases c : mg = true ∨ ts i ≠ 0
    · rw [if_pos c, if_pos c, qf2_qrl (k := k)]
      rfl
    · rw [if_neg c, if_neg c, qf2_qrl (k := k)]
