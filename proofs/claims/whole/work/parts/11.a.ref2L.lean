
def srI (f : Nat) (x : Int64) : Nat → Nat → (Nat → Int64) × (Nat → Int64) → Nat × (Nat → Int64) × (Nat → Int64)
  | 0, i, Z => (i, Z)
  | k + 1, i, Z => if Z.1 (i - 1) ≤ x then (i, Z) else srI f x k (i - 1) (va_up Z.1 i (Z.1 (i - 1)), va_up Z.2 i (Z.2 (i - 1)))
def srS (f c : Nat) (Z : (Nat → Int64) × (Nat → Int64)) : (Nat → Int64) × (Nat → Int64) :=
  (va_up (srI f (Z.1 c) (c - f) c Z).2.1 (srI f (Z.1 c) (c - f) c Z).1 (Z.1 c), va_up (srI f (Z.1 c) (c - f) c Z).2.2 (srI f (Z.1 c) (c - f) c Z).1 (Z.2 c))
def srO (f : Nat) : Nat → Nat → (Nat → Int64) × (Nat → Int64) → (Nat → Int64) × (Nat → Int64)
  | 0, _, Z => Z
  | k + 1, c, Z => srO f k (c + 1) (srS f c Z)
def wlL (A s : Nat) (rk rv : Nat → Int64) : Nat → Nat → (Nat → Nat) → Nat → Nat
  | 0, _, g => g
  | k + 1, i, g => wlL A s rk rv k (i + 1) (pn1 8 (pn1 8 g (A + (8 + 16 * i)) (uL (rk (s + i)))) (A + (16 + 16 * i)) (uL (rv (s + i))))
def wlG (q t x s : Nat) (rk rv : Nat → Int64) (y : Nat) (w : Nat → Nat) : Nat → Nat := en1 (wlL (64 * q) s rk rv t 0 (pn1 6 (pn1 1 (pn1 1 (wz 64 w (64 * q)) (64 * q + 0) 1) (64 * q + 1) t) (64 * q + 2) x)) (64 * q) y
theorem frM_lt {u : Nat → Nat} {w : Nat} (hw : 0 < w) : ∀ {k y r c : Nat}, frM u w k y r = some c → c < y + k
  | 0, _, _, _, h => by cases h
  | k + 1, y, r, c, h => by
    rw [frM] at h
    generalize (if u y = 0 then r + 1 else 0) = z at h
    split at h
    · have := Option.some.inj h
      omega
    · have := frM_lt hw h
      omega
def wfL (A s : Nat) (rk rv : Nat → Int64) : Nat → Nat → (Nat → Nat) → Nat → Nat
  | 0, _, g => g
  | k + 1, i, g => wfL A s rk rv k (i + 1) (pn1 8 (pn1 8 g (A + (8 + 16 * i)) (uL (rk (s + i)))) (A + (16 + 16 * i)) (uL (rv (s + i))))
def wfG (q y p z f m zl : Nat) (rk rv : Nat → Int64) (w : Nat → Nat) : Nat → Nat :=
  en1 (wfL (64 * q) (f + 3 * p) rk rv (min 3 (m - 3 * p)) 0 (pn1 2 (pn1 2 (pn1 2 (pn1 1 (pn1 1 (wz 64 w (64 * q)) (64 * q + 0) 2) (64 * q + 1) (min 3 (m - 3 * p))) (64 * q + 2) (zl + 1)) (64 * q + 4) p) (64 * q + 6) z)) (64 * q) (y + p)
theorem wfL_lt {A s : Nat} {rk rv : Nat → Int64} : ∀ {k i : Nat} {g : Nat → Nat} (_ : ∀ j, g j < 256), ∀ j, wfL A s rk rv k i g j < 256
  | 0, _, _, h => h
  | k + 1, i, _, h => wfL_lt (k := k) (i := i + 1) (pn1_lt (pn1_lt h))
theorem wfG_lt {q y p z f m zl : Nat} {rk rv : Nat → Int64} {w : Nat → Nat} (h : ∀ j, w j < 256) : ∀ j, wfG q y p z f m zl rk rv w j < 256 := en1_lt (wfL_lt (pn1_lt (pn1_lt (pn1_lt (pn1_lt (pn1_lt (wz_lt h)))))))
def whL (A : Nat) (fN fF fB fR : Nat → Nat) : Nat → Nat → (Nat → Nat) → Nat → Nat
  | 0, _, g => g
  | k + 1, i, g => whL A fN fF fB fR k (i + 1) (pn1 2 (pn1 2 (pn1 2 (pn1 2 g (A + (8 + 8 * i)) (fN i)) (A + (10 + 8 * i)) (fF i)) (A + (12 + 8 * i)) (fB i)) (A + (14 + 8 * i)) (fR i))
theorem whL_lt {A : Nat} {fN fF fB fR : Nat → Nat} : ∀ {k i : Nat} {g : Nat → Nat} (_ : ∀ j, g j < 256), ∀ j, whL A fN fF fB fR k i g j < 256
  | 0, _, _, h => h
  | k + 1, i, _, h => whL_lt (k := k) (i := i + 1) (pn1_lt (pn1_lt (pn1_lt (pn1_lt h))))
def whG (q n g x : Nat) (fN fF fB fR w : Nat → Nat) : Nat → Nat := en1 (pn1 8 (whL (64 * q) fN fF fB fR n 0 (pn1 6 (pn1 1 (pn1 1 (wz 64 w (64 * q)) (64 * q + 0) 3) (64 * q + 1) n) (64 * q + 2) (g + 1))) (64 * q + 48) x) (64 * q) ((g + 1) % 2)
theorem whG_lt {q n g x : Nat} {fN fF fB fR w : Nat → Nat} (h : ∀ j, w j < 256) : ∀ j, whG q n g x fN fF fB fR w j < 256 := en1_lt (pn1_lt (whL_lt (pn1_lt (pn1_lt (pn1_lt (wz_lt h))))))
abbrev KS : Type := Nat × (Nat → Int64) × (Nat → Int64)
def rdS (d : Nat → Nat) (y j : Nat) (Z : KS) : KS := (Z.1 + 1, va_up Z.2.1 Z.1 (lN (nm1 d 8 (64 * y + 8 + 16 * j))), va_up Z.2.2 Z.1 (lN (nm1 d 8 (64 * y + 16 + 16 * j))))
def rds (d : Nat → Nat) (y : Nat) : Nat → Nat → KS → KS
  | 0, _, Z => Z
  | k + 1, j, Z => rds d y k (j + 1) (rdS d y j Z)
theorem sb_small {v : Nat} (h : v < 128) : sb_b v = nI v := (by decide +kernel : ∀ v, v < 128 → sb_b v = nI v) v h
theorem sb_eq {v k : Nat} (hv : v < 256) (hk : k < 128) : sb_b v = nI k ↔ v = k := by
  constructor
  · intro h
    have h1 := x_b255 hv
    rw [h] at h1
    have h2 := (by decide +kernel : ∀ k, k < 128 → nI k &&& nI 255 = nI k) k hk
    exact ((nI_eq (by omega) (by omega)).mp (h1.symm.trans h2))
  · intro h
    subst h
    exact sb_small hk
theorem sb_int : ∀ v, v < 256 → (sb_b v).toInt = if v < 128 then (v : Int) else (v : Int) - 256 := by decide +kernel
theorem sb_isI {v a c : Nat} (hv : v < 256) (ha : a < 128) (hc : c < 128) : isI (sb_b v).toInt64 (lN a) (lN c) = decide (a ≤ v ∧ v ≤ c) := by
  rw [isI_I (by omega) (by omega), sb_int v hv]
  apply decide_eq_decide.mpr
  split <;> omega
theorem isI_8 {v : Nat} (hv : v < 18446744073709551616) : isI (lN v) (lN 1) (lN 1000000000) = decide (1 ≤ v ∧ v ≤ 1000000000) := by
  unfold isI
  apply decide_eq_decide.mpr
  rw [Int64.le_iff_toInt_le, Int64.le_iff_toInt_le, lN_toI (show v < 2 ^ 64 by omega), pk_lT (show 1 < 2 ^ 63 by decide), pk_lT (show 1000000000 < 2 ^ 63 by decide)]
  split <;> omega
def ibC (rb : Nat) (rd fN fF fB fR : Nat → Nat) (f p : Nat) : Prop := fF f + p < rb ∧ wh1 rd (fF f + p) = true ∧ rd (64 * (fF f + p)) = 2 ∧ rd (64 * (fF f + p) + 1) = min 3 (fR f - 3 * p) ∧ nm1 rd 2 (64 * (fF f + p) + 2) = fN f ∧ nm1 rd 2 (64 * (fF f + p) + 4) = p ∧ nm1 rd 2 (64 * (fF f + p) + 6) = fB f
noncomputable def ibM (rb : Nat) (rd fN fF fB fR : Nat → Nat) (f p : Nat) : Bool := @decide (ibC rb rd fN fF fB fR f p) (Classical.propDecidable _)
theorem ib_t {rb : Nat} {rd fN fF fB fR : Nat → Nat} {f p : Nat} (h : ibC rb rd fN fF fB fR f p) : nI 1 = bI (ibM rb rd fN fF fB fR f p) := by
  rw [ibM, @decide_eq_true _ (Classical.propDecidable _) h]; rfl
theorem ib_f {rb : Nat} {rd fN fF fB fR : Nat → Nat} {f p : Nat} (h : ¬ ibC rb rd fN fF fB fR f p) : nI 0 = bI (ibM rb rd fN fF fB fR f p) := by
  rw [ibM, @decide_eq_false _ (Classical.propDecidable _) h]; rfl
def ilM (rd fF fB : Nat → Nat) (rf y : Nat) : Bool := decide (iof fF fB y rf 0 = false ∧ wh1 rd y = true ∧ rd (64 * y) = 1)
theorem il_t {rd fF fB : Nat → Nat} {rf y : Nat} (h : iof fF fB y rf 0 = false ∧ wh1 rd y = true ∧ rd (64 * y) = 1) : nI 1 = bI (ilM rd fF fB rf y) := by
  rw [ilM, decide_eq_true h]; rfl
theorem il_f {rd fF fB : Nat → Nat} {rf y : Nat} (h : ¬ (iof fF fB y rf 0 = false ∧ wh1 rd y = true ∧ rd (64 * y) = 1)) : nI 0 = bI (ilM rd fF fB rf y) := by
  rw [ilM, decide_eq_false h]; rfl
def iflL (rd : Nat → Nat) (a f : Nat) : Nat → Nat → Bool
  | 0, _ => true
  | k + 1, i => if nm1 rd 2 (a + 2) < nm1 rd 2 (f + 8 * i + 2) + nm1 rd 2 (f + 8 * i + 4) ∧ nm1 rd 2 (f + 8 * i + 2) < nm1 rd 2 (a + 2) + nm1 rd 2 (a + 4) then false else iflL rd a f k (i + 1)
def ifl (rd : Nat → Nat) (a f n : Nat) : Bool := if 2 ≤ nm1 rd 2 (a + 2) ∧ 1 ≤ nm1 rd 2 (a + 4) ∧ 3 * nm1 rd 2 (a + 4) - 2 ≤ nm1 rd 2 (a + 6) ∧ nm1 rd 2 (a + 6) ≤ 3 * nm1 rd 2 (a + 4) then iflL rd a f n 0 else false
theorem ifl_f {rd : Nat → Nat} {a f n : Nat} (h : ¬ (2 ≤ nm1 rd 2 (a + 2) ∧ 1 ≤ nm1 rd 2 (a + 4) ∧ 3 * nm1 rd 2 (a + 4) - 2 ≤ nm1 rd 2 (a + 6) ∧ nm1 rd 2 (a + 6) ≤ 3 * nm1 rd 2 (a + 4))) : nI 0 = bI (ifl rd a f n) := by
  rw [ifl, if_neg h]; rfl
theorem ifl_n {rd : Nat → Nat} {a f n : Nat} (h : 2 ≤ nm1 rd 2 (a + 2) ∧ 1 ≤ nm1 rd 2 (a + 4) ∧ 3 * nm1 rd 2 (a + 4) - 2 ≤ nm1 rd 2 (a + 6) ∧ nm1 rd 2 (a + 6) ≤ 3 * nm1 rd 2 (a + 4)) (z : iflL rd a f n 0 = false) : nI 0 = bI (ifl rd a f n) := by
  rw [ifl, if_pos h, z]; rfl
theorem ifl_y {rd : Nat → Nat} {a f n : Nat} (h : 2 ≤ nm1 rd 2 (a + 2) ∧ 1 ≤ nm1 rd 2 (a + 4) ∧ 3 * nm1 rd 2 (a + 4) - 2 ≤ nm1 rd 2 (a + 6) ∧ nm1 rd 2 (a + 6) ≤ 3 * nm1 rd 2 (a + 4)) (z : iflL rd a f n 0 = true) : nI 1 = bI (ifl rd a f n) := by
  rw [ifl, if_pos h, z]; rfl
def ihL (rd : Nat → Nat) (y : Nat) : Nat → Nat → Bool
  | 0, _ => true
  | k + 1, i => if ifl rd (64 * y + 8 + 8 * i) (64 * y + 8) i = true then ihL rd y k (i + 1) else false
def ihC (rd : Nat → Nat) (y : Nat) : Prop := wh1 rd y = true ∧ rd (64 * y) = 3 ∧ rd (64 * y + 1) ≤ 5 ∧ 1 ≤ nm1 rd 6 (64 * y + 2) ∧ nm1 rd 6 (64 * y + 2) ≤ 1000000000 ∧ nm1 rd 6 (64 * y + 2) % 2 = y ∧ (1 ≤ nm1 rd 8 (64 * y + 48) ∧ nm1 rd 8 (64 * y + 48) ≤ 1000000000)
noncomputable def ihd (rd : Nat → Nat) (y : Nat) : Bool := @ite _ (ihC rd y) (Classical.propDecidable _) (ihL rd y (rd (64 * y + 1)) 0) false
theorem ihd_f {rd : Nat → Nat} {y : Nat} (h : ¬ ihC rd y) : nI 0 = bI (ihd rd y) := by
  rw [ihd, if_neg h]; rfl
theorem ihd_n {rd : Nat → Nat} {y : Nat} (z : ihL rd y (rd (64 * y + 1)) 0 = false) : nI 0 = bI (ihd rd y) := by
  unfold ihd
  split
  · rw [z]; rfl
  · rfl
theorem ihd_y {rd : Nat → Nat} {y : Nat} (h : ihC rd y) (z : ihL rd y (rd (64 * y + 1)) 0 = true) : nI 1 = bI (ihd rd y) := by
  rw [ihd, if_pos h, z]; rfl
