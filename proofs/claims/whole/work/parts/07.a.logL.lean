
def haS (ef : Nat) (eF : Nat → Nat) (i : Nat) (Z : Nat × (Nat → Nat)) : Nat × (Nat → Nat) := (Z.1 + 1, hap Z.1 Z.2 (hfl ef eF i 0) (hfl ef eF i 1) (hfl ef eF i 2) (hfl ef eF i 3))
def hal (ef : Nat) (eF : Nat → Nat) : Nat → Nat → Nat × (Nat → Nat) → Nat × (Nat → Nat)
  | 0, _, Z => Z
  | k + 1, i, Z => hal ef eF k (i + 1) (haS ef eF i Z)
theorem hal_lt {ef : Nat} {eF : Nat → Nat} (he : ∀ j, eF j < 1048576) : ∀ {k i : Nat} {Z : Nat × (Nat → Nat)} (_ : ∀ j, Z.2 j < 1048576), ∀ j, (hal ef eF k i Z).2 j < 1048576
  | 0, _, _, h => h
  | k + 1, i, _, h => hal_lt he (k := k) (i := i + 1) (hap_lt h (hfl_lt he) (hfl_lt he) (hfl_lt he) (hfl_lt he))
theorem hrd_lt {dn : Nat} {dg : Nat → Nat} {b : Nat} {F : Nat → Nat} (hg : ∀ j, dg j < 256) (hF : ∀ j, F j < 1048576) : ∀ j, (hrd dn dg b F).2.2.2 j < 1048576 := by
  unfold hrd
  split
  · split
    · split
      · exact hrf_lt hg hF
      · exact hrf_lt hg hF
    · exact hF
  · exact hF
theorem hrd_b {dn : Nat} {dg : Nat → Nat} {b : Nat} (_ : ∀ j, dg j < 256) (F : Nat → Nat) : (hrd dn dg b F).2.1 ≤ 1000000000 ∧ (hrd dn dg b F).2.2.1 ≤ 1000000000 := by
  unfold hrd
  split
  · split
    · rename_i h
      have h := of_decide_eq_true h
      split
      · exact ⟨h.2.1, h.2.2.2.1⟩
      · exact ⟨Nat.zero_le _, Nat.le_of_ble_eq_true rfl⟩
    · exact ⟨Nat.zero_le _, Nat.le_of_ble_eq_true rfl⟩
  · exact ⟨Nat.zero_le _, Nat.le_of_ble_eq_true rfl⟩

def qlg (s f : Nat) (tk tv : Nat → Int64) (ts : Nat → Nat) (tn : Nat) : Nat → Nat → (Nat → Nat) → Nat → Nat
  | 0, _, g => g
  | k + 1, i, g => qlg s f tk tv ts tn k (i + 1) (qrec s i (tk ((twi ts (f + i) tn 0).getD 0)) (tv ((twi ts (f + i) tn 0).getD 0)) g)
theorem qlg_lt {s f : Nat} {tk tv : Nat → Int64} {ts : Nat → Nat} {tn : Nat} : ∀ {k i : Nat} {g : Nat → Nat} (_ : ∀ j, g j < 256), ∀ j, qlg s f tk tv ts tn k i g j < 256
  | 0, _, _, h => h
  | k + 1, i, _, h => qlg_lt (k := k) (i := i + 1) (qrec_lt h)
def qlG (s f w : Nat) (tk tv : Nat → Int64) (ts : Nat → Nat) (tn b : Nat) (t g : Nat → Nat) : Nat → Nat := qsl s (va_up t s b) (qlg s f tk tv ts tn w 0 (pnum 64 s 6 (qap s g 1 w) 2 f))
theorem qlG_lt {s f w : Nat} {tk tv : Nat → Int64} {ts : Nat → Nat} {tn b : Nat} {t g : Nat → Nat} (h : ∀ j, g j < 256) : ∀ j, qlG s f w tk tv ts tn b t g j < 256 := qsl_lt (qlg_lt (pnum_lt (qap_lt h)))
theorem twi_lt {t : Nat → Nat} {x : Nat} : ∀ {k i c : Nat}, twi t x k i = some c → i ≤ c ∧ c < i + k
  | 0, _, _, h => by cases h
  | k + 1, i, c, h => by
    rw [twi] at h
    split at h
    · cases h; omega
    · have := twi_lt h
      omega
theorem hal_1 (ef : Nat) (eF : Nat → Nat) : ∀ (k i : Nat) (Z : Nat × (Nat → Nat)), (hal ef eF k i Z).1 = Z.1 + k
  | 0, _, _ => rfl
  | k + 1, i, Z => by
    rw [hal, hal_1 ef eF k (i + 1)]
    show Z.1 + 1 + k = Z.1 + (k + 1)
    omega
def plh (mg : Bool) (ef : Nat) (eF pF : Nat → Nat) (lf y1 y2 y3 : Nat) : Nat × (Nat → Nat) := if mg = true then (0 + 1, hap 0 pF (lf + 1) y1 y2 y3) else ((hal ef eF ef 0 (0, pF)).1 + 1, hap (hal ef eF ef 0 (0, pF)).1 (hal ef eF ef 0 (0, pF)).2 (lf + 1) y1 y2 y3)
theorem plh_lt {mg : Bool} {ef : Nat} {eF pF : Nat → Nat} {lf y1 y2 y3 : Nat} (he : ∀ j, eF j < 1048576) (hp : ∀ j, pF j < 1048576) (h0 : lf + 1 < 1048576) (h1 : y1 < 1048576) (h2 : y2 < 1048576) (h3 : y3 < 1048576) : ∀ j, (plh mg ef eF pF lf y1 y2 y3).2 j < 1048576 := by
  unfold plh
  split
  · exact hap_lt hp h0 h1 h2 h3
  · exact hap_lt (hal_lt he hp) h0 h1 h2 h3
abbrev QS : Type := Nat × (Nat → Nat) × (Nat → Nat)
def qfS (nb rc fi nu j : Nat) (Z : QS) : QS := (Z.1 + 1, va_up Z.2.1 Z.1 (fi + j), pnum 64 Z.1 2 (pnum 64 Z.1 2 (pnum 64 Z.1 2 (qap Z.1 Z.2.2 2 (min 3 (rc - j * 3))) 2 nu) 4 j) 6 nb)
def qf1 (nb rc fi nu : Nat) : Nat → Nat → QS → QS
  | 0, _, Z => Z
  | k + 1, j, Z => qf1 nb rc fi nu k (j + 1) (qfS nb rc fi nu j Z)
theorem qf1_g {nb rc fi nu : Nat} : ∀ {k j : Nat} {Z : QS} (_ : ∀ q, Z.2.2 q < 256), ∀ q, (qf1 nb rc fi nu k j Z).2.2 q < 256
  | 0, _, _, h => h
  | k + 1, j, _, h => qf1_g (k := k) (j := j + 1) (pnum_lt (pnum_lt (pnum_lt (qap_lt h))))
theorem qf1_t {nb rc fi nu : Nat} : ∀ {k j : Nat} {Z : QS} (_ : fi + j + k ≤ 64) (_ : ∀ q, Z.2.1 q < 64), ∀ q, (qf1 nb rc fi nu k j Z).2.1 q < 64
  | 0, _, _, _, h => h
  | k + 1, j, _, hk, h => qf1_t (k := k) (j := j + 1) (by omega) (va_up_lt h (by omega))
theorem qf1_n {nb rc fi nu : Nat} : ∀ {k j : Nat} {Z : QS}, (qf1 nb rc fi nu k j Z).1 = Z.1 + k
  | 0, _, _ => rfl
  | k + 1, j, Z => by
    rw [qf1, qf1_n (k := k)]
    show Z.1 + 1 + k = Z.1 + (k + 1)
    omega
def qf2 (mg : Bool) (fs : Nat) (tk tv : Nat → Int64) (ts : Nat → Nat) : Nat → Nat → Nat → (Nat → Nat) → Nat → Nat
  | 0, _, _, g => g
  | k + 1, i, d, g => if mg = true ∨ ¬ ts i = 0 then qf2 mg fs tk tv ts k (i + 1) (d + 1) (qrec (fs + d / 3) (d % 3) (tk i) (tv i) g) else qf2 mg fs tk tv ts k (i + 1) d g
theorem qf2_lt {mg : Bool} {fs : Nat} {tk tv : Nat → Int64} {ts : Nat → Nat} : ∀ {k i d : Nat} {g : Nat → Nat} (_ : ∀ q, g q < 256), ∀ q, qf2 mg fs tk tv ts k i d g q < 256
  | 0, _, _, _, h => h
  | k + 1, i, d, g, h => by
    rw [qf2]
    split
    · exact qf2_lt (qrec_lt h)
    · exact qf2_lt h
def qf3 (fs : Nat) (t : Nat → Nat) : Nat → Nat → (Nat → Nat) → Nat → Nat
  | 0, _, g => g
  | k + 1, j, g => qf3 fs t k (j + 1) (qsl (fs + j) t g)
theorem qf3_lt {fs : Nat} {t : Nat → Nat} : ∀ {k j : Nat} {g : Nat → Nat} (_ : ∀ q, g q < 256), ∀ q, qf3 fs t k j g q < 256
  | 0, _, _, h => h
  | k + 1, j, _, h => qf3_lt (k := k) (j := j + 1) (qsl_lt h)
def qh2 (s pf : Nat) (pF : Nat → Nat) (i : Nat) : Nat → Nat → (Nat → Nat) → Nat → Nat
  | 0, _, g => g
  | k + 1, w, g => qh2 s pf pF i k (w + 1) (pnum 64 s 2 g (8 + 2 * (i * 4 + w)) (hfl pf pF i w))
def qh1 (s pf : Nat) (pF : Nat → Nat) : Nat → Nat → (Nat → Nat) → Nat → Nat
  | 0, _, g => g
  | k + 1, i, g => qh1 s pf pF k (i + 1) (qh2 s pf pF i 4 0 g)
theorem qh2_lt {s pf : Nat} {pF : Nat → Nat} {i : Nat} : ∀ {k w : Nat} {g : Nat → Nat} (_ : ∀ q, g q < 256), ∀ q, qh2 s pf pF i k w g q < 256
  | 0, _, _, h => h
  | k + 1, w, _, h => qh2_lt (k := k) (w := w + 1) (pnum_lt h)
theorem qh1_lt {s pf : Nat} {pF : Nat → Nat} : ∀ {k i : Nat} {g : Nat → Nat} (_ : ∀ q, g q < 256), ∀ q, qh1 s pf pF k i g q < 256
  | 0, _, _, h => h
  | k + 1, i, _, h => qh1_lt (k := k) (i := i + 1) (qh2_lt h)
def qhG (s pf pg px : Nat) (pF t g : Nat → Nat) : Nat → Nat := qsl s (va_up t s (pg % 2)) (pnum 64 s 8 (qh1 s pf pF pf 0 (pnum 64 s 6 (qap s g 3 pf) 2 pg)) 48 px)
theorem qhG_lt {s pf pg px : Nat} {pF t g : Nat → Nat} (h : ∀ j, g j < 256) : ∀ j, qhG s pf pg px pF t g j < 256 := qsl_lt (pnum_lt (qh1_lt (pnum_lt (qap_lt h))))
def tkU (mg : Bool) (un : Nat) (u : Nat → Nat) : Nat → Nat := if mg = true then utn 2 0 un (utn 1 0 un u 0) 0 else utn 1 0 un u 0
theorem tkU_lt {mg : Bool} {un : Nat} {u : Nat → Nat} (h : ∀ j, u j < 8) : ∀ j, tkU mg un u j < 8 := by
  unfold tkU
  split
  · exact utn_lt (utn_lt h (by decide)) (by decide)
  · exact utn_lt h (by decide)
