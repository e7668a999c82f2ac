
theorem hfl_lt {n : Nat} {f : Nat → Nat} (hf : ∀ j, f j < 1048576) {i w : Nat} : hfl n f i w < 1048576 := by
  unfold hfl
  split
  · exact hf _
  · decide
theorem hap_lt {n : Nat} {f : Nat → Nat} (hf : ∀ j, f j < 1048576) {a b c d : Nat} (ha : a < 1048576) (hb : b < 1048576) (hc : c < 1048576) (hd : d < 1048576) : ∀ j, hap n f a b c d j < 1048576 := va_up_lt (va_up_lt (va_up_lt (va_up_lt hf ha) hb) hc) hd
def hov (n : Nat) (f : Nat → Nat) (y z : Nat) : Nat → Nat → Bool
  | 0, _ => false
  | k + 1, i => if y < hfl n f i 1 + hfl n f i 2 ∧ hfl n f i 1 < y + z then true else hov n f y z k (i + 1)
theorem num2_lt {n : Nat} {g : Nat → Nat} {b : Nat} (hg : ∀ j, g j < 256) (i : Nat) : num n g b 2 i < 65536 := num_lt hg 2 i
def hrfL (dn : Nat) (dg : Nat → Nat) (b : Nat) : Nat → Nat → Nat → (Nat → Nat) → Bool × Nat × (Nat → Nat)
  | 0, _, f, F => (true, f, F)
  | k + 1, i, f, F =>
    if 2 ≤ num dn dg b 2 (8 + 2 * (i * 4 + 1)) ∧ 1 ≤ num dn dg b 2 (8 + 2 * (i * 4 + 2)) ∧ (num dn dg b 2 (8 + 2 * (i * 4 + 3)) + 2) / 3 = num dn dg b 2 (8 + 2 * (i * 4 + 2)) ∧ hov f F (num dn dg b 2 (8 + 2 * (i * 4 + 1))) (num dn dg b 2 (8 + 2 * (i * 4 + 2))) f 0 = false
    then hrfL dn dg b k (i + 1) (f + 1) (hap f F (num dn dg b 2 (8 + 2 * (i * 4 + 0))) (num dn dg b 2 (8 + 2 * (i * 4 + 1))) (num dn dg b 2 (8 + 2 * (i * 4 + 2))) (num dn dg b 2 (8 + 2 * (i * 4 + 3))))
    else (false, f, F)
def hrf (dn : Nat) (dg : Nat → Nat) (b : Nat) (F : Nat → Nat) : Bool × Nat × (Nat → Nat) := if bv dn dg b 1 ≤ 5 then hrfL dn dg b (bv dn dg b 1) 0 0 F else (false, 0, F)
theorem hrfL_lt {dn : Nat} {dg : Nat → Nat} {b : Nat} (hg : ∀ j, dg j < 256) : ∀ (k i f : Nat) (F : Nat → Nat), (∀ j, F j < 1048576) → ∀ j, (hrfL dn dg b k i f F).2.2 j < 1048576
  | 0, _, _, _, hF => hF
  | k + 1, i, f, F, hF => by
    rw [hrfL]
    split
    · have w0 := num2_lt (n := dn) (b := b) hg (8 + 2 * (i * 4 + 0))
      have w1 := num2_lt (n := dn) (b := b) hg (8 + 2 * (i * 4 + 1))
      have w2 := num2_lt (n := dn) (b := b) hg (8 + 2 * (i * 4 + 2))
      have w3 := num2_lt (n := dn) (b := b) hg (8 + 2 * (i * 4 + 3))
      exact hrfL_lt hg k (i + 1) (f + 1) _ (hap_lt hF (by omega) (by omega) (by omega) (by omega))
    · exact hF
theorem hrf_lt {dn : Nat} {dg : Nat → Nat} {b : Nat} {F : Nat → Nat} (hg : ∀ j, dg j < 256) (hF : ∀ j, F j < 1048576) : ∀ j, (hrf dn dg b F).2.2 j < 1048576 := by
  unfold hrf
  split
  · exact hrfL_lt hg _ _ _ _ hF
  · exact hF
def hrk (dn : Nat) (dg : Nat → Nat) (b : Nat) : Bool := decide (1 ≤ num dn dg b 6 2 ∧ num dn dg b 6 2 ≤ 1000000000 ∧ 1 ≤ num dn dg b 8 48 ∧ num dn dg b 8 48 ≤ 1000000000 ∧ num dn dg b 6 2 % 2 = b)
def hrd (dn : Nat) (dg : Nat → Nat) (b : Nat) (F : Nat → Nat) : Nat × Nat × Nat × (Nat → Nat) :=
  if whole dn dg b = true ∧ bv dn dg b 0 = 3 then
    if hrk dn dg b = true then
      if (hrf dn dg b F).1 = true then ((hrf dn dg b F).2.1, num dn dg b 6 2, num dn dg b 8 48, (hrf dn dg b F).2.2) else (0, 0, 1, (hrf dn dg b F).2.2)
    else (0, 0, 1, F)
  else (0, 0, 1, F)
theorem lN_toI {v : Nat} (h : v < 2 ^ 64) : (lN v).toInt = if v < 2 ^ 63 then (v : Int) else (v : Int) - 2 ^ 64 := by
  have h1 : (lN v).toInt = (BitVec.ofNat 64 v).toInt := rfl
  rw [h1, BitVec.toInt_eq_toNat_cond, BitVec.toNat_ofNat, Nat.mod_eq_of_lt h]
  split <;> split <;> omega
theorem inr_t {v : Nat} (hv : v < 2 ^ 64) (c3 : ¬ lN v < lN 1) (c11 : ¬ lN 1000000000 < lN v) : nI 1 = bI (decide (1 ≤ v ∧ v ≤ 1000000000)) := by
  rw [Int64.lt_iff_toInt_lt, lN_toI hv, lN_toI (by decide)] at c3 c11
  rw [decide_eq_true]
  · rfl
  · split at c3 <;> simp at c3 c11 <;> omega
theorem inr_f {v : Nat} (hv : v < 2 ^ 64) (h : lN v < lN 1 ∨ lN 1000000000 < lN v) : nI 0 = bI (decide (1 ≤ v ∧ v ≤ 1000000000)) := by
  rw [Int64.lt_iff_toInt_lt, Int64.lt_iff_toInt_lt, lN_toI hv, lN_toI (by decide), lN_toI (by decide)] at h
  rw [decide_eq_false]
  · rfl
  · split at h <;> simp at h <;> omega
theorem x_lrem2 {v : Nat} (h : v < 2 ^ 63) : lN v - lN v / lN 2 * (lN 2) = lN (v % 2) := pk_lRem h (by decide) (by decide)
def okH (Wh : Nat → Nat → Nat → (Nat → Nat) → va_W) (k0 k1 a0 a1 : Nat) (cI : ClassId) : Prop :=
  (∀ (f g x : Nat) (F : Nat → Nat), (Wh f g x F)[k0]? = some (a0, .inr (1, [.ref a1, .int (nI f), .int (nI g), .int (nI x)]))) ∧ (∀ (f g x : Nat) (F : Nat → Nat), (Wh f g x F)[k1]? = some (a1, .inl (cI, 20, .inl (fun j => nI (F j)))))
  ∧ (∀ (f g x : Nat) (F : Nat → Nat) (f' g' x' : Nat), (Wh f g x F).set k0 (a0, .inr (1, [.ref a1, .int (nI f'), .int (nI g'), .int (nI x')])) = Wh f' g' x' F) ∧ (∀ (f g x : Nat) (F F' : Nat → Nat), (Wh f g x F).set k1 (a1, .inl (cI, 20, .inl (fun j => nI (F' j)))) = Wh f g x F')
