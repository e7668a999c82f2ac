def uL (x : Int64) : Nat := x.toBitVec.toNat
theorem uL_lt (x : Int64) : uL x < 2 ^ 64 := x.toBitVec.isLt
theorem lN_uL (x : Int64) : lN (uL x) = x := wb_inj (by rw [wb_tb]; simp [uL])
theorem uL_lN {n : Nat} (h : n < 2 ^ 64) : uL (lN n) = n := wb_tn h
theorem lN_inj {a b : Nat} (ha : a < 2 ^ 64) (hb : b < 2 ^ 64) (h : lN a = lN b) : a = b := by rw [← uL_lN ha, h, uL_lN hb]
theorem x_b255 {v : Nat} (h : v < 256) : sb_b v &&& nI 255 = nI v := (sb_byte v h).1
theorem x_b256 (v : Nat) : sb_b v = sb_b (v % 256) := by
  have h : (nI v).toInt8 = (nI (v % 256)).toInt8 := by
    apply Int8.toBitVec_inj.mp
    show (BitVec.ofNat 32 v).signExtend 8 = (BitVec.ofNat 32 (v % 256)).signExtend 8
    rw [BitVec.signExtend_eq_setWidth_of_le _ (by decide), BitVec.signExtend_eq_setWidth_of_le _ (by decide)]
    apply BitVec.eq_of_toNat_eq
    simp only [BitVec.toNat_setWidth, BitVec.toNat_ofNat]
    omega
  unfold sb_b
  rw [h]
theorem x_and255 {v : Nat} (h : v < 2 ^ 64) : lN v &&& lN 255 = lN (v % 256) := wb_mask (k := 8) h (by decide)
theorem x_shr8 {v : Nat} (h : v < 2 ^ 64) : ((lN v).toUInt64 >>> ((nI 8).toInt64.toUInt64 &&& Int64.toUInt64 63)).toInt64 = lN (v / 256) := wb_shr (k := 8) h (by decide)
theorem x_numstep {M v : Nat} (hM : M < 2 ^ 56) (hv : v < 256) : (lN M <<< ((nI 8).toInt64 &&& 63)) ||| lN v = lN (v + 256 * M) := by
  rw [wb_shl M (k := 8) (by decide), wb_or (by omega) (by omega)]
  congr 1
  have h := Nat.two_pow_add_eq_or_of_lt (i := 8) (b := v) (by omega) M
  rw [Nat.mul_comm M (2 ^ 8), ← h]
  omega
theorem x_decm (n : Nat) : nI n + Int32.ofInt (-1) = nI n - nI 1 := by
  rw [Int32.sub_eq_add_neg]
  rfl
theorem x_pred0 {j : Nat} (hj : j < 2 ^ 30) (h : nI j - nI 1 < 0) : j = 0 := by
  rcases Nat.eq_zero_or_pos j with q | q
  · exact q
  · rw [pk_sub q] at h
    exact absurd h (nI_pos (by omega))
theorem x_predP {j : Nat} (hj : j < 2 ^ 30) (h : ¬ nI j - nI 1 < 0) : 0 < j := by
  rcases Nat.eq_zero_or_pos j with q | q
  · subst q
    exact absurd (by decide) h
  · exact q
def xhas (n : Nat) (x y : Int32) : Bool := decide (0 ≤ x.toInt ∧ x.toInt < n ∧ 0 ≤ y.toInt ∧ y.toInt < 64)
theorem xhas_t {n : Nat} {x y : Int32} (hn : n ≤ 64) (c1 : ¬ x < 0) (c9 : ¬ nI n ≤ x) (_ : ¬ nI 64 ≤ x) (c19 : ¬ y < 0) (c25 : ¬ nI 64 ≤ y) : nI 1 = bI (xhas n x y) := by
  have h0 : (0 : Int32).toInt = 0 := rfl
  rw [Int32.lt_iff_toInt_lt, h0] at c1 c19
  rw [Int32.le_iff_toInt_le, nI_toInt (by omega)] at c9 c25
  have h : xhas n x y = true := by
    unfold xhas
    exact decide_eq_true (by omega)
  rw [h]
  rfl
theorem xhas_f {n : Nat} {x y : Int32} (h : x < 0 ∨ nI n ≤ x ∨ nI 64 ≤ x ∨ y < 0 ∨ nI 64 ≤ y) (hn : n ≤ 64) : nI 0 = bI (xhas n x y) := by
  have h0 : (0 : Int32).toInt = 0 := rfl
  rw [Int32.lt_iff_toInt_lt, Int32.lt_iff_toInt_lt, Int32.le_iff_toInt_le, Int32.le_iff_toInt_le, Int32.le_iff_toInt_le, h0, nI_toInt (show n < 2 ^ 31 by omega), nI_toInt (show 64 < 2 ^ 31 by decide)] at h
  have h : xhas n x y = false := by
    unfold xhas
    exact decide_eq_false (by omega)
  rw [h]
  rfl
theorem xhas_nI {n b i : Nat} (_ : n ≤ 64) (hb : b < 2 ^ 31) (hi : i < 2 ^ 31) : xhas n (nI b) (nI i) = decide (b < n ∧ i < 64) := by
  unfold xhas
  rw [nI_toInt hb, nI_toInt hi]
  apply decide_eq_decide.mpr
  omega
theorem xhas_d {n : Nat} {x y : Int32} (hn : n ≤ 64) (h : xhas n x y = true) : ∃ b i : Nat, b < n ∧ i < 64 ∧ x = nI b ∧ y = nI i := by
  have h := of_decide_eq_true h
  obtain ⟨b, hb, rfl⟩ := vp_in_of (n := n) (vp_in_iff.mpr ⟨h.1, h.2.1⟩) (by omega)
  obtain ⟨i, hi, rfl⟩ := vp_in_of (n := 64) (vp_in_iff.mpr ⟨h.2.2.1, h.2.2.2⟩) (by omega)
  exact ⟨b, i, hb, hi, rfl, rfl⟩
theorem bv_lt {n : Nat} {g : Nat → Nat} (hg : ∀ j, g j < 256) {b i : Nat} : bv n g b i < 256 := by
  unfold bv
  split
  · exact hg _
  · decide
theorem va_up_lt {g : Nat → Nat} {M : Nat} (hg : ∀ j, g j < M) {k v : Nat} (hv : v < M) : ∀ j, va_up g k v j < M := by
  intro j
  unfold va_up
  split
  · exact hv
  · exact hg j
theorem bput_lt {n : Nat} {g : Nat → Nat} (hg : ∀ j, g j < 256) {b i v : Nat} : ∀ j, bput n g b i v j < 256 := by
  unfold bput
  split
  · exact va_up_lt hg (Nat.mod_lt _ (by decide))
  · exact hg
theorem pnum_lt {n b : Nat} : ∀ {k : Nat} {g : Nat → Nat} (_ : ∀ j, g j < 256) {i v : Nat}, ∀ j, pnum n b k g i v j < 256
  | 0, _, hg, _, _ => hg
  | _ + 1, _, hg, _, _ => pnum_lt (bput_lt hg)
theorem wip_lt {n b : Nat} : ∀ {k : Nat} {g : Nat → Nat} (_ : ∀ j, g j < 256) {i : Nat}, ∀ j, wip n b k g i j < 256
  | 0, _, hg, _ => hg
  | _ + 1, _, hg, _ => wip_lt (bput_lt hg)
theorem wipG_lt {n b : Nat} {g : Nat → Nat} (hg : ∀ j, g j < 256) : ∀ j, wipG n b g j < 256 := wip_lt hg
theorem num_lt {n : Nat} {g : Nat → Nat} {b : Nat} (hg : ∀ j, g j < 256) : ∀ (k i : Nat), num n g b k i < 256 ^ k
  | 0, _ => by simp [num]
  | k + 1, i => by
    have h1 := num_lt (n := n) (b := b) hg k (i + 1)
    have h2 : bv n g b i < 256 := bv_lt hg
    rw [num, Nat.pow_succ]
    omega
theorem num_56 {M k j : Nat} (h : M < 256 ^ (k - j)) (hj : k - j ≤ 7) : M < 2 ^ 56 := Nat.lt_of_lt_of_le h (Nat.le_trans (Nat.pow_le_pow_right (by decide) hj) (by decide))
def okB (Wf : (Nat → Nat) → va_W) (k0 k1 a0 a1 : Nat) (cB : ClassId) (n : Nat) : Prop :=
  (∀ g, (Wf g)[k0]? = some (a0, .inr (0, [.ref a1, .int (nI n)]))) ∧ (∀ g, (Wf g)[k1]? = some (a1, .inl (cB, 4096, .inl (fun j => sb_b (g j))))) ∧ (∀ g g' : Nat → Nat, (Wf g).set k1 (a1, .inl (cB, 4096, .inl (fun j => sb_b (g' j)))) = Wf g')
