
def wM (b : Nat → Nat) (cB cI cL : ClassId) (rb : Nat) (rd : Nat → Nat) (rq : Nat) (rQ rw : Nat → Nat) (ra : Nat) (ro : Bool) (rn : Nat) (rk rv : Nat → Int64) (rf : Nat) (fN fF fB fR : Nat → Nat) (rl : Nat) (lB lR : Nat → Nat) (rt rg rx rz : Nat) : va_W :=
  [(b 0, .inr (6, [.int (nI rb), .ref (b 1), .int (nI rq), .ref (b 2), .ref (b 3), .int (nI ra), .int (bI ro), .int (nI rn), .ref (b 4), .ref (b 5), .int (nI rf), .ref (b 6), .ref (b 7), .ref (b 8), .ref (b 9), .int (nI rl), .ref (b 10), .ref (b 11), .int (nI rt), .long (lN rg), .long (lN rx), .int (nI rz)])),
   (b 1, .inl (cB, 4096, .inl (fun j => sb_b (rd j)))), (b 2, .inl (cI, 130, .inl (fun j => nI (rQ j)))), (b 3, .inl (cB, 8320, .inl (fun j => sb_b (rw j)))),
   (b 4, .inl (cL, 220, .inr (.inl rk))), (b 5, .inl (cL, 220, .inr (.inl rv))),
   (b 6, .inl (cI, 6, .inl (fun j => nI (fN j)))), (b 7, .inl (cI, 6, .inl (fun j => nI (fF j)))), (b 8, .inl (cI, 6, .inl (fun j => nI (fB j)))), (b 9, .inl (cI, 6, .inl (fun j => nI (fR j)))),
   (b 10, .inl (cI, 64, .inl (fun j => nI (lB j)))), (b 11, .inl (cI, 64, .inl (fun j => nI (lR j))))]

def isI (v x y : Int64) : Bool := decide (x ≤ v ∧ v ≤ y)
theorem isI_t {v x y : Int64} (c3 : ¬ v < x) (c10 : ¬ y < v) : nI 1 = bI (isI v x y) := by
  have h : x ≤ v ∧ v ≤ y := by
    rw [Int64.lt_iff_toInt_lt] at c3 c10
    rw [Int64.le_iff_toInt_le, Int64.le_iff_toInt_le]
    omega
  rw [isI, decide_eq_true h]
  rfl
theorem isI_f {v x y : Int64} (h : v < x ∨ y < v) : nI 0 = bI (isI v x y) := by
  have h : ¬ (x ≤ v ∧ v ≤ y) := by
    rw [Int64.lt_iff_toInt_lt, Int64.lt_iff_toInt_lt] at h
    rw [Int64.le_iff_toInt_le, Int64.le_iff_toInt_le]
    omega
  rw [isI, decide_eq_false h]
  rfl
theorem isI_N {v x y : Nat} (hv : v < 2 ^ 63) (hx : x < 2 ^ 63) (hy : y < 2 ^ 63) : isI (lN v) (lN x) (lN y) = decide (x ≤ v ∧ v ≤ y) := by
  unfold isI
  apply decide_eq_decide.mpr
  rw [pk_lLE hx hv, pk_lLE hv hy]
theorem isI_I {z : Int32} {x y : Nat} (hx : x < 2 ^ 31) (hy : y < 2 ^ 31) : isI z.toInt64 (lN x) (lN y) = decide ((x : Int) ≤ z.toInt ∧ z.toInt ≤ (y : Int)) := by
  unfold isI
  apply decide_eq_decide.mpr
  rw [Int64.le_iff_toInt_le, Int64.le_iff_toInt_le, pk_lT (show x < 2 ^ 63 by omega), pk_lT (show y < 2 ^ 63 by omega), Int32.toInt_toInt64]
def nm1 (g : Nat → Nat) : Nat → Nat → Nat
  | 0, _ => 0
  | k + 1, i => g i + 256 * nm1 g k (i + 1)
theorem nm1_lt {g : Nat → Nat} (hg : ∀ j, g j < 256) : ∀ (k i : Nat), nm1 g k i < 256 ^ k
  | 0, _ => by simp [nm1]
  | k + 1, i => by
    have h1 := nm1_lt hg k (i + 1)
    have h2 := hg i
    rw [nm1, Nat.pow_succ]
    omega
def sm1 (g : Nat → Nat) (k d : Nat) : Int64 := fol sStep (fun i => g (k + i)) 56 0 (lN d)
def wh1 (g : Nat → Nat) (y : Nat) : Bool := decide (lN (nm1 g 8 (64 * y + 56)) = sm1 g (64 * y) y)
def wz : Nat → (Nat → Nat) → Nat → Nat → Nat
  | 0, g, _ => g
  | k + 1, g, i => wz k (va_up g i 0) (i + 1)
theorem wz_lt : ∀ {k : Nat} {g : Nat → Nat} (_ : ∀ j, g j < 256) {i : Nat}, ∀ j, wz k g i j < 256
  | 0, _, h, _ => h
  | _ + 1, _, h, _ => wz_lt (va_up_lt h (by decide))
def pn1 : Nat → (Nat → Nat) → Nat → Nat → Nat → Nat
  | 0, g, _, _ => g
  | k + 1, g, i, v => pn1 k (va_up g i (v % 256)) (i + 1) (v / 256)
theorem pn1_lt : ∀ {k : Nat} {g : Nat → Nat} (_ : ∀ j, g j < 256) {i v : Nat}, ∀ j, pn1 k g i v j < 256
  | 0, _, h, _, _ => h
  | _ + 1, _, h, _, _ => pn1_lt (va_up_lt h (Nat.mod_lt _ (by decide)))
def en1 (g : Nat → Nat) (a d : Nat) : Nat → Nat := pn1 8 g (a + 56) (uL (sm1 g a d))
theorem en1_lt {g : Nat → Nat} {a d : Nat} (h : ∀ j, g j < 256) : ∀ j, en1 g a d j < 256 := pn1_lt h
theorem x_byteJ (x : Int64) {j : Nat} (hj : j < 8) : ((x >>> ((nI (8 * j)).toInt64 &&& 63)).toInt32).toInt8.toInt32 = sb_b (uL x / 2 ^ (8 * j) % 256) := by
  unfold sb_b
  congr 1
  apply Int8.toBitVec_inj.mp
  rw [wb_c (8 * j) (by omega)]
  show ((x >>> lN (8 * j)).toBitVec.signExtend 32).signExtend 8 = (BitVec.ofNat 32 _).signExtend 8
  rw [BitVec.signExtend_eq_setWidth_of_le _ (by decide), BitVec.signExtend_eq_setWidth_of_le _ (by decide), BitVec.signExtend_eq_setWidth_of_le _ (by decide), Int64.toBitVec_shiftRight, wb_tb, wb_sm _ (by omega)]
  apply BitVec.eq_of_getLsbD_eq
  intro i hi
  have h8 : i < 8 := hi
  have e1 : (BitVec.ofNat 64 (8 * j)).toNat = 8 * j := by rw [BitVec.toNat_ofNat]; omega
  simp only [BitVec.getLsbD_setWidth, BitVec.sshiftRight_eq', e1, BitVec.getLsbD_sshiftRight, BitVec.getLsbD_ofNat]
  have h2 : (uL x / 2 ^ (8 * j) % 256).testBit i = (uL x).testBit (8 * j + i) := by
    rw [show (256 : Nat) = 2 ^ 8 from rfl, Nat.testBit_mod_two_pow, Nat.testBit_div_two_pow]
    simp [h8, Nat.add_comm]
  rw [h2]
  have h3 : x.toBitVec.getLsbD (8 * j + i) = (uL x).testBit (8 * j + i) := rfl
  have h4 : 8 * j + i < 64 := by omega
  have h5 : ¬ 64 ≤ i := by omega
  have h6 : x.toBitVec[8 * j + i] = (uL x).testBit (8 * j + i) := by rw [← BitVec.getLsbD_eq_getElem]; exact h3
  simp [h4, h8, h5, h6, show i < 32 by omega]
def oJ : Option Nat → Int32
  | none => -1
  | some v => nI v
def iof (fF fB : Nat → Nat) (y : Nat) : Nat → Nat → Bool
  | 0, _ => false
  | k + 1, i => if fF i ≤ y ∧ y < fF i + fB i then true else iof fF fB y k (i + 1)
def usM (rf : Nat) (fF fB : Nat → Nat) (rl : Nat) (lB : Nat → Nat) (y : Nat) : Nat := if y < 2 then 3 else if iof fF fB y rf 0 = true then 2 else if qhol lB y rl 0 = true then 1 else 0
theorem usM_lt {rf : Nat} {fF fB : Nat → Nat} {rl : Nat} {lB : Nat → Nat} {y : Nat} : usM rf fF fB rl lB y < 4 := by
  unfold usM
  split
  · decide
  · split
    · decide
    · split <;> decide
def frM (u : Nat → Nat) (w : Nat) : Nat → Nat → Nat → Option Nat
  | 0, _, _ => none
  | k + 1, y, r => if (if u y = 0 then r + 1 else 0) = w then some (y + 1 - w) else frM u w k (y + 1) (if u y = 0 then r + 1 else 0)
def ifM (fR : Nat → Nat) : Nat → Nat → Nat → Nat
  | 0, _, r => r
  | k + 1, i, r => ifM fR k (i + 1) (r + fR i)
theorem ifM_lt {fR : Nat → Nat} (h : ∀ j, fR j < 1048576) : ∀ (k i r : Nat), ifM fR k i r ≤ r + k * 1048576
  | 0, _, _ => by simp [ifM]
  | k + 1, i, r => by
    have h1 := ifM_lt h k (i + 1) (r + fR i)
    have h2 := h i
    rw [ifM]
    omega
def prI (Q w : Nat → Nat) (i : Nat) : Nat → Nat → (Nat → Nat) → Nat → Nat
  | 0, _, d => d
  | k + 1, j, d => prI Q w i k (j + 1) (va_up d (64 * Q i + j) (w (64 * i + j)))
def prO (Q w : Nat → Nat) : Nat → Nat → Nat → Nat → (Nat → Nat) → Nat × (Nat → Nat)
  | 0, _, _, n, d => (n, d)
  | k + 1, i, left, n, d => if left = 0 then (n, d) else prO Q w k (i + 1) (left - min left 64) (n + if min left 64 = 64 then 1 else 0) (prI Q w i (min left 64) 0 d)
theorem prI_lt {Q w : Nat → Nat} {i : Nat} (hw : ∀ q, w q < 256) : ∀ {k j : Nat} {d : Nat → Nat} (_ : ∀ q, d q < 256), ∀ q, prI Q w i k j d q < 256
  | 0, _, _, h => h
  | k + 1, j, _, h => prI_lt hw (k := k) (j := j + 1) (va_up_lt h (hw _))
theorem prO_lt {Q w : Nat → Nat} (hw : ∀ q, w q < 256) : ∀ {k i left n : Nat} {d : Nat → Nat} (_ : ∀ q, d q < 256), ∀ q, (prO Q w k i left n d).2 q < 256
  | 0, _, _, _, _, h => h
  | k + 1, i, left, n, d, h => by
    rw [prO]
    split
    · exact h
    · exact prO_lt hw (prI_lt hw h)
