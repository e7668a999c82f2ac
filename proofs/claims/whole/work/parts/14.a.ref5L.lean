
def hdT (rd : Nat → Nat) (b : Nat) : Option Nat → Option Nat
  | none => some b
  | some a => if nm1 rd 6 (64 * a + 2) < nm1 rd 6 (64 * b + 2) then some b else some a
noncomputable def hdS (rd : Nat → Nat) (b : Nat) (o : Option Nat) : Option Nat := if ihd rd b = true then hdT rd b o else o
noncomputable def hdL (rd : Nat → Nat) : Nat → Nat → Option Nat → Option Nat
  | 0, _, o => o
  | k + 1, b, o => hdL rd k (b + 1) (hdS rd b o)
theorem hd_no {rd : Nat → Nat} {b : Nat} {o : Option Nat} (c : ihd rd b = false) : hdS rd b o = o := by rw [hdS, if_neg (by rw [c]; decide)]
theorem hd_new {rd : Nat → Nat} {b : Nat} (c : ihd rd b = true) : hdS rd b none = some b := by rw [hdS, if_pos c]; rfl
theorem hd_gt {rd : Nat → Nat} {b a : Nat} (c : ihd rd b = true) (c2 : nm1 rd 6 (64 * a + 2) < nm1 rd 6 (64 * b + 2)) : hdS rd b (some a) = some b := by rw [hdS, if_pos c, hdT, if_pos c2]
theorem hd_le {rd : Nat → Nat} {b a : Nat} (c : ihd rd b = true) (c2 : nm1 rd 6 (64 * b + 2) ≤ nm1 rd 6 (64 * a + 2)) : hdS rd b (some a) = some a := by rw [hdS, if_pos c, hdT, if_neg (Nat.not_lt.mpr c2)]
theorem rf1_lt {rd : Nat → Nat} (hrd : ∀ j, rd j < 256) {x : Nat} : ∀ {k i : Nat} {fN fF fB fR : Nat → Nat} {z : Nat} (_ : ∀ j, fN j < 1048576) (_ : ∀ j, fF j < 1048576) (_ : ∀ j, fB j < 1048576) (_ : ∀ j, fR j < 1048576), (∀ q, (rf1 rd x k i (fN, fF, fB, fR, z)).1 q < 1048576) ∧ (∀ q, (rf1 rd x k i (fN, fF, fB, fR, z)).2.1 q < 1048576) ∧ (∀ q, (rf1 rd x k i (fN, fF, fB, fR, z)).2.2.1 q < 1048576)
  | 0, _, _, _, _, _, _, h1, h2, h3, _ => ⟨h1, h2, h3⟩
  | k + 1, i, fN, fF, fB, fR, z, h1, h2, h3, h4 => by
    have a1 : nm1 rd 2 (x + 8 + 8 * i) < 65536 := nm1_lt hrd 2 _
    have a2 : nm1 rd 2 (x + 10 + 8 * i) < 65536 := nm1_lt hrd 2 _
    have a3 : nm1 rd 2 (x + 12 + 8 * i) < 65536 := nm1_lt hrd 2 _
    have a4 : nm1 rd 2 (x + 14 + 8 * i) < 65536 := nm1_lt hrd 2 _
    rw [rf1]
    exact rf1_lt hrd (va_up_lt h1 (by omega)) (va_up_lt h2 (by omega)) (va_up_lt h3 (by omega)) (va_up_lt h4 (by omega))
def akM (rQ : Nat → Nat) (rq : Nat) (lB lR : Nat → Nat) : Nat → Int64 → Int64
  | 0, v => v
  | j + 1, v => akM rQ rq lB lR j (if qhol rQ (lB j) rq 0 = true then v - lN (lR j) else v)
def gtM (rk rv : Nat → Int64) (k : Int64) : Nat → Nat → Int64 → Int64
  | 0, _, v => v
  | n + 1, i, v => gtM rk rv k n (i + 1) (if rk i = k then rv i else v)
def tmM (rk : Nat → Int64) (k : Int64) : Nat → Nat → Nat → Nat
  | 0, _, v => v
  | n + 1, i, v => tmM rk k n (i + 1) (v + if rk i = k then 1 else 0)
theorem x_xorb {a b : Nat} (ha : a < 256) (hb : b < 256) : ((sb_b a ^^^ sb_b b).toInt8).toInt32 = sb_b (a ^^^ b) := by
  unfold sb_b
  congr 1
  rw [Int32.toInt8_xor, Int8.toInt8_toInt32, Int8.toInt8_toInt32, ← Int32.toInt8_xor, nI_xor ha hb]
def bdC (rb : Nat) (rd : Nat → Nat) (rq : Nat) (rQ : Nat → Nat) (rf : Nat) (fF fB : Nat → Nat) (rl : Nat) (lB : Nat → Nat) (rg y : Nat) : Prop := ((y < 2 → 0 < rg ∧ rg % 2 = y) ∧ (2 ≤ y → 0 < usM rf fF fB rl lB y)) ∧ qhol rQ y rq 0 = false ∧ wh1 rd y = false
noncomputable def bdM (rb : Nat) (rd : Nat → Nat) (rq : Nat) (rQ : Nat → Nat) (rf : Nat) (fF fB : Nat → Nat) (rl : Nat) (lB : Nat → Nat) (rg : Nat) : Nat → Nat → Option Nat
  | 0, _ => none
  | k + 1, y => @ite _ (bdC rb rd rq rQ rf fF fB rl lB rg y) (Classical.propDecidable _) (some y) (bdM rb rd rq rQ rf fF fB rl lB rg k (y + 1))
theorem bd_no {rb : Nat} {rd : Nat → Nat} {rq : Nat} {rQ : Nat → Nat} {rf : Nat} {fF fB : Nat → Nat} {rl : Nat} {lB : Nat → Nat} {rg k y : Nat} {R : Option Nat} (c : ¬ bdC rb rd rq rQ rf fF fB rl lB rg y) (h : bdM rb rd rq rQ rf fF fB rl lB rg (k + 1) y = R) : bdM rb rd rq rQ rf fF fB rl lB rg k (y + 1) = R := by
  rw [bdM, if_neg c] at h; exact h
theorem bd_yes {rb : Nat} {rd : Nat → Nat} {rq : Nat} {rQ : Nat → Nat} {rf : Nat} {fF fB : Nat → Nat} {rl : Nat} {lB : Nat → Nat} {rg k y : Nat} {R : Option Nat} (c : bdC rb rd rq rQ rf fF fB rl lB rg y) (h : bdM rb rd rq rQ rf fF fB rl lB rg (k + 1) y = R) : nI y = oI R := by
  rw [bdM, if_pos c] at h; rw [← h]; rfl
def fcM (u : Nat → Nat) : Nat → Nat → Nat → Nat
  | 0, _, v => v
  | k + 1, y, v => fcM u k (y + 1) (v + if u y = 0 then 1 else 0)
def ctM (fr rf rn rt rl rq rg rx rz w : Nat) : Nat := if w = 1 then fr else if w = 2 then rf else if w = 3 then rn else if w = 4 then rt else if w = 5 then rl else if w = 6 then rq else if w = 7 then rg else if w = 8 then rx else rz
def bfM (rk : Nat → Int64) (k : Nat) : Nat → Nat → Nat → Nat
  | 0, _, v => v
  | n + 1, j, v => bfM rk k n (j + 1) (v + if rk j < rk k ∨ rk j = rk k ∧ j < k then 1 else 0)
theorem bf_lt {rk : Nat → Int64} {k n j v R : Nat} (c : rk j < rk k) (h : bfM rk k (n + 1) j v = R) : bfM rk k n (j + 1) (v + 1) = R := by
  rw [bfM, if_pos (Or.inl c)] at h; exact h
theorem bf_eq {rk : Nat → Int64} {k n j v R : Nat} (c : rk j = rk k) (c2 : j < k) (h : bfM rk k (n + 1) j v = R) : bfM rk k n (j + 1) (v + 1) = R := by
  rw [bfM, if_pos (Or.inr ⟨c, c2⟩)] at h; exact h
theorem bf_ge {rk : Nat → Int64} {k n j v R : Nat} (c : ¬ rk j < rk k) (c2 : ¬ (rk j = rk k ∧ j < k)) (h : bfM rk k (n + 1) j v = R) : bfM rk k n (j + 1) (v + 0) = R := by
  rw [bfM, if_neg (fun q => q.elim c c2)] at h; exact h
def rcO (rk : Nat → Int64) (rn i : Nat) : Nat → Nat → Option Nat
  | 0, _ => none
  | n + 1, k => if bfM rk k rn 0 0 = i then some k else rcO rk rn i n (k + 1)
def rcX (rk rv : Nat → Int64) (inf rn rt w : Nat) : Option Nat → Int64
  | none => lN 0
  | some k => if w = 0 then rk k else if w = 1 then rv k else if k < inf then lN 0 else if k < rn - rt then lN 1 else lN 2
