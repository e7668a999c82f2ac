def bv (n : Nat) (g : Nat → Nat) (b i : Nat) : Nat := if b < n ∧ i < 64 then g (b * 64 + i) else 0
def bput (n : Nat) (g : Nat → Nat) (b i v : Nat) : Nat → Nat := if b < n ∧ i < 64 then va_up g (b * 64 + i) (v % 256) else g
def num (n : Nat) (g : Nat → Nat) (b : Nat) : Nat → Nat → Nat
  | 0, _ => 0
  | k + 1, i => bv n g b i + 256 * num n g b k (i + 1)
def pnum (n b : Nat) : Nat → (Nat → Nat) → Nat → Nat → Nat → Nat
  | 0, g, _, _ => g
  | k + 1, g, i, v => pnum n b k (bput n g b i (v % 256)) (i + 1) (v / 256)
def wip (n b : Nat) : Nat → (Nat → Nat) → Nat → Nat → Nat
  | 0, g, _ => g
  | k + 1, g, i => wip n b k (bput n g b i 0) (i + 1)
def wipG (n b : Nat) (g : Nat → Nat) : Nat → Nat := wip n b 64 g 0
def ren (n : Nat) : Nat → (Nat → Nat) → Nat → Nat → Nat
  | 0, g, _ => g
  | k + 1, g, b => ren n k (wipG n b g) (b + 1)
def sStep (s : Int64) (v : Nat) : Int64 :=
  (((s ^^^ lN v) <<< ((nI 11).toInt64 &&& 63)) ||| ((s ^^^ lN v).toUInt64 >>> ((nI 53).toInt64.toUInt64 &&& Int64.toUInt64 63)).toInt64) * (-7046029254386353131)
def fol (st : Int64 → Nat → Int64) (v : Nat → Nat) : Nat → Nat → Int64 → Int64
  | 0, _, s => s
  | k + 1, i, s => fol st v k (i + 1) (st s (v i))
theorem fol_s (st : Int64 → Nat → Int64) (v : Nat → Nat) (k i : Nat) (s : Int64) : fol st v (k + 1) i s = fol st v k (i + 1) (st s (v i)) := rfl
theorem fol_0 (st : Int64 → Nat → Int64) (v : Nat → Nat) (i : Nat) (s : Int64) : fol st v 0 i s = s := rfl
def smF (n : Nat) (g : Nat → Nat) (b : Nat) : Nat → Nat → Int64 → Int64 := fol sStep (bv n g b)
theorem smF_s (n : Nat) (g : Nat → Nat) (b k i : Nat) (s : Int64) : smF n g b (k + 1) i s = smF n g b k (i + 1) (sStep s (bv n g b i)) := fol_s sStep (bv n g b) k i s
theorem smF_0 (n : Nat) (g : Nat → Nat) (b i : Nat) (s : Int64) : smF n g b 0 i s = s := fol_0 sStep (bv n g b) i s
def smG (n : Nat) (g : Nat → Nat) (b d : Nat) : Int64 := smF n g b 56 0 (lN d)
def whole (n : Nat) (g : Nat → Nat) (b : Nat) : Bool := decide (lN (num n g b 8 56) = smG n g b b)
def uof (n : Nat) (u : Nat → Nat) (b : Nat) : Nat := if b < n then u b else 0
def umk (n f v : Nat) : Nat → (Nat → Nat) → Nat → Nat → Nat
  | 0, u, _ => u
  | k + 1, u, i => umk n f v k (if f + i < n then va_up u (f + i) v else u) (i + 1)
def utn (x y : Nat) : Nat → (Nat → Nat) → Nat → Nat → Nat
  | 0, u, _ => u
  | k + 1, u, b => utn x y k (if u b = x then va_up u b y else u) (b + 1)
def uhm (x : Nat) (u : Nat → Nat) : Nat → Nat → Nat → Nat
  | 0, _, r => r
  | k + 1, b, r => uhm x u k (b + 1) (if u b = x then r + 1 else r)
def oI : Option Nat → Int32
  | none => -2
  | some v => nI v
def ulr (u : Nat → Nat) (w : Nat) : Nat → Nat → Nat → Option Nat
  | 0, _, _ => none
  | k + 1, b, r => if w ≤ (if u b = 0 then r + 1 else 0) then some (b + 1 - w) else ulr u w k (b + 1) (if u b = 0 then r + 1 else 0)
def uclr (n : Nat) (u : Nat → Nat) : Nat → Nat := umk n 0 3 2 (umk n 0 0 n u 0) 0
def qhol (t : Nat → Nat) (x : Nat) : Nat → Nat → Bool
  | 0, _ => false
  | k + 1, i => if t i = x then true else qhol t x k (i + 1)
def qdr (dn : Nat) (t g : Nat → Nat) : Nat → Nat → (Nat → Nat) → Nat → Nat
  | 0, _, d => d
  | k + 1, i, d => qdr dn t g k (i + 1) (bput dn d (t (i / 64)) (i % 64) (bv 64 g (i / 64) (i % 64)))
def tup (f : Nat → Int64) (x : Int64) : Nat → Nat → Nat
  | 0, i => i
  | k + 1, i => if x < f i then i else tup f x k (i + 1)
def tbe (f : Nat → Int64) (x : Int64) : Nat → Nat → Nat
  | 0, i => i
  | k + 1, i => if x ≤ f i then i else tbe f x k (i + 1)
def twi (t : Nat → Nat) (x : Nat) : Nat → Nat → Option Nat
  | 0, _ => none
  | k + 1, i => if t i = x then some i else twi t x k (i + 1)
def shf {α : Type} : Nat → (Nat → α) → Nat → Nat → α
  | 0, f, _ => f
  | k + 1, f, i => shf k (va_up f i (f (i - 1))) (i - 1)
def tset : Nat → (Nat → Nat) → Nat → Nat → Nat
  | 0, t, _ => t
  | k + 1, t, i => tset k (va_up t i 0) (i + 1)
def hfl (n : Nat) (f : Nat → Nat) (i w : Nat) : Nat := if i < n ∧ i < 5 ∧ w < 4 then f (i * 4 + w) else 0
def hap (n : Nat) (f : Nat → Nat) (a b c d : Nat) : Nat → Nat := va_up (va_up (va_up (va_up f (n * 4 + 0) a) (n * 4 + 1) b) (n * 4 + 2) c) (n * 4 + 3) d
def tpl {α : Type} (p n : Nat) (f : Nat → α) (x : α) : Nat → α := va_up (shf (n - p) f n) p x
