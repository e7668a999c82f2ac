
theorem x_m1le {n : Nat} (h : n < 2 ^ 31) : (-1 : Int32) ≤ nI n := by
  rw [Int32.le_iff_toInt_le]
  have h1 := (Int32.le_iff_toInt_le).mp (nI_pos' h)
  have h2 : (0 : Int32).toInt = 0 := rfl
  have h3 : (-1 : Int32).toInt = -1 := rfl
  omega
theorem nI_xor {a b : Nat} (ha : a < 256) (hb : b < 256) : nI a ^^^ nI b = nI (a ^^^ b) := by
  apply Int32.toBitVec_inj.mp
  show BitVec.ofNat 32 a ^^^ BitVec.ofNat 32 b = BitVec.ofNat 32 (a ^^^ b)
  apply BitVec.eq_of_toNat_eq
  have h : a ^^^ b < 2 ^ 8 := Nat.xor_lt_two_pow (n := 8) ha hb
  rw [BitVec.toNat_xor, BitVec.toNat_ofNat, BitVec.toNat_ofNat, BitVec.toNat_ofNat, Nat.mod_eq_of_lt (by omega), Nat.mod_eq_of_lt (by omega), Nat.mod_eq_of_lt (by omega)]
theorem ren_lt {n : Nat} : ∀ {k : Nat} {g : Nat → Nat} (_ : ∀ j, g j < 256) {b : Nat}, ∀ j, ren n k g b j < 256
  | 0, _, h, _ => h
  | k + 1, _, h, b => ren_lt (k := k) (wipG_lt h) (b := b + 1)
def opS (dn : Nat) (dg : Nat → Nat) (un ef : Nat) (eF : Nat → Nat) (i : Nat) (S : TS × (Nat → Nat) × Nat) : TS × (Nat → Nat) × Nat :=
  (rfO dn dg (hfl ef eF i 1) (hfl ef eF i 3) (hfl ef eF i 2) 0 S.1, umk un (hfl ef eF i 1) 2 (hfl ef eF i 2) S.2.1 0, max S.2.2 (hfl ef eF i 0))
theorem opS_f {dn : Nat} {dg : Nat → Nat} {un ef : Nat} {eF : Nat → Nat} {i : Nat} {S : TS × (Nat → Nat) × Nat} (h : S.2.2 < 2 ^ 18) (h2 : hfl ef eF i 0 < 2 ^ 18) : (opS dn dg un ef eF i S).2.2 < 2 ^ 18 := by
  show max S.2.2 (hfl ef eF i 0) < 2 ^ 18
  omega
def opL (dn : Nat) (dg : Nat → Nat) (un ef : Nat) (eF : Nat → Nat) : Nat → Nat → TS × (Nat → Nat) × Nat → TS × (Nat → Nat) × Nat
  | 0, _, S => S
  | k + 1, i, S => opL dn dg un ef eF k (i + 1) (opS dn dg un ef eF i S)
def bdX (dn : Nat) (dg : Nat → Nat) (un : Nat) (ug qt : Nat → Nat) (qn eg : Nat) : Nat → Nat → Option Nat
  | 0, _ => none
  | k + 1, y => if sbw un ug qt qn eg y = true ∧ whole dn dg y = false then some y else bdX dn dg un ug qt qn eg k (y + 1)
