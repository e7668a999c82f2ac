
def tyS (cB cI cL : ClassId) : List (ClassId × FieldType) := [(cB, .byte), (cI, .int), (cL, .long)]
theorem tyS_B (cB cI cL : ClassId) : (tyS cB cI cL)[0]? = some (cB, .byte) := rfl
theorem tyS_I (cB cI cL : ClassId) : (tyS cB cI cL)[1]? = some (cI, .int) := rfl
theorem tyS_L (cB cI cL : ClassId) : (tyS cB cI cL)[2]? = some (cL, .long) := rfl
def wS (a : Nat → Nat) (cB cI cL : ClassId) (h1 h2 s1 s2 : Nat) (op : Bool) (nx wt sf lf dn : Nat) (dg : Nat → Nat) (un : Nat) (ug : Nat → Nat) (qn : Nat) (qt qg : Nat → Nat) (tn : Nat) (tk tv : Nat → Int64) (ts : Nat → Nat) (ef eg ex : Nat) (eF : Nat → Nat) (pf pg px : Nat) (pF : Nat → Nat) : va_W :=
  [(a 0, .inr (5, [.ref (a 1), .ref (a 3), .ref (a 5), .ref (a 9), .ref h1, .ref s1, .int (bI op), .int (nI nx), .int (nI wt), .int (nI sf), .int (nI lf)])),
   (a 1, .inr (0, [.ref (a 2), .int (nI dn)])), (a 2, .inl (cB, 4096, .inl (fun j => sb_b (dg j)))),
   (a 3, .inr (4, [.ref (a 4), .int (nI un)])), (a 4, .inl (cI, 64, .inl (fun j => nI (ug j)))),
   (a 5, .inr (2, [.ref (a 6), .ref (a 8), .int (nI qn)])), (a 6, .inr (0, [.ref (a 7), .int (nI 64)])), (a 7, .inl (cB, 4096, .inl (fun j => sb_b (qg j)))), (a 8, .inl (cI, 64, .inl (fun j => nI (qt j)))),
   (a 9, .inr (3, [.ref (a 10), .ref (a 11), .ref (a 12), .int (nI tn)])), (a 10, .inl (cL, 192, .inr (.inl tk))), (a 11, .inl (cL, 192, .inr (.inl tv))), (a 12, .inl (cI, 192, .inl (fun j => nI (ts j)))),
   (h1, .inr (1, [.ref h2, .int (nI ef), .int (nI eg), .int (nI ex)])), (h2, .inl (cI, 20, .inl (fun j => nI (eF j)))),
   (s1, .inr (1, [.ref s2, .int (nI pf), .int (nI pg), .int (nI px)])), (s2, .inl (cI, 20, .inl (fun j => nI (pF j))))]
def wX (a : Nat → Nat) (cB cI cL : ClassId) (r1 r2 h1 h2 s1 s2 : Nat) (op : Bool) (nx wt sf lf dn : Nat) (dg : Nat → Nat) (un : Nat) (ug : Nat → Nat) (qn : Nat) (qt qg : Nat → Nat) (tn : Nat) (tk tv : Nat → Int64) (ts : Nat → Nat) (ef eg ex : Nat) (eF : Nat → Nat) (pf pg px : Nat) (pF : Nat → Nat) : va_W :=
  [(a 0, .inr (5, [.ref (a 1), .ref (a 3), .ref (a 5), .ref (a 9), .ref r1, .ref r2, .int (bI op), .int (nI nx), .int (nI wt), .int (nI sf), .int (nI lf)])),
   (a 1, .inr (0, [.ref (a 2), .int (nI dn)])), (a 2, .inl (cB, 4096, .inl (fun j => sb_b (dg j)))),
   (a 3, .inr (4, [.ref (a 4), .int (nI un)])), (a 4, .inl (cI, 64, .inl (fun j => nI (ug j)))),
   (a 5, .inr (2, [.ref (a 6), .ref (a 8), .int (nI qn)])), (a 6, .inr (0, [.ref (a 7), .int (nI 64)])), (a 7, .inl (cB, 4096, .inl (fun j => sb_b (qg j)))), (a 8, .inl (cI, 64, .inl (fun j => nI (qt j)))),
   (a 9, .inr (3, [.ref (a 10), .ref (a 11), .ref (a 12), .int (nI tn)])), (a 10, .inl (cL, 192, .inr (.inl tk))), (a 11, .inl (cL, 192, .inr (.inl tv))), (a 12, .inl (cI, 192, .inl (fun j => nI (ts j)))),
   (h1, .inr (1, [.ref h2, .int (nI ef), .int (nI eg), .int (nI ex)])), (h2, .inl (cI, 20, .inl (fun j => nI (eF j)))),
   (s1, .inr (1, [.ref s2, .int (nI pf), .int (nI pg), .int (nI px)])), (s2, .inl (cI, 20, .inl (fun j => nI (pF j))))]

def xin (n : Nat) (x : Int32) : Bool := decide (0 ≤ x.toInt ∧ x.toInt < n)
theorem xin_t {n : Nat} {x : Int32} (hn : n ≤ 192) (c1 : ¬ x < 0) (c9 : ¬ nI n ≤ x) (_ : ¬ nI 192 ≤ x) : nI 1 = bI (xin n x) := by
  have h0 : (0 : Int32).toInt = 0 := rfl
  rw [Int32.lt_iff_toInt_lt, h0] at c1
  rw [Int32.le_iff_toInt_le, nI_toInt (by omega)] at c9
  have h : xin n x = true := by
    unfold xin
    exact decide_eq_true (by omega)
  rw [h]
  rfl
theorem xin_f {n : Nat} {x : Int32} (h : x < 0 ∨ nI n ≤ x ∨ nI 192 ≤ x) (hn : n ≤ 192) : nI 0 = bI (xin n x) := by
  have h0 : (0 : Int32).toInt = 0 := rfl
  rw [Int32.lt_iff_toInt_lt, Int32.le_iff_toInt_le, Int32.le_iff_toInt_le, h0, nI_toInt (show n < 2 ^ 31 by omega), nI_toInt (show 192 < 2 ^ 31 by decide)] at h
  have h : xin n x = false := by
    unfold xin
    exact decide_eq_false (by omega)
  rw [h]
  rfl
theorem xin_nI {n i : Nat} (hi : i < 2 ^ 31) : xin n (nI i) = decide (i < n) := by
  unfold xin
  rw [nI_toInt hi]
  apply decide_eq_decide.mpr
  omega
theorem xin_d {n : Nat} {x : Int32} (hn : n < 2 ^ 31) (h : xin n x = true) : ∃ i : Nat, i < n ∧ x = nI i := by
  have h := of_decide_eq_true h
  exact vp_in_of (n := n) (vp_in_iff.mpr ⟨h.1, h.2⟩) hn
theorem tup_le (f : Nat → Int64) (x : Int64) : ∀ (k i : Nat), i ≤ tup f x k i ∧ tup f x k i ≤ i + k
  | 0, i => ⟨Nat.le_refl _, Nat.le_refl _⟩
  | k + 1, i => by
    rw [tup]
    split
    · omega
    · have := tup_le f x k (i + 1)
      omega
theorem tbe_le (f : Nat → Int64) (x : Int64) : ∀ (k i : Nat), i ≤ tbe f x k i ∧ tbe f x k i ≤ i + k
  | 0, i => ⟨Nat.le_refl _, Nat.le_refl _⟩
  | k + 1, i => by
    rw [tbe]
    split
    · omega
    · have := tbe_le f x k (i + 1)
      omega
theorem shf_lt {M : Nat} : ∀ {k : Nat} {f : Nat → Nat} (_ : ∀ j, f j < M) {i : Nat}, ∀ j, shf k f i j < M
  | 0, _, hf, _ => hf
  | _ + 1, _, hf, _ => shf_lt (va_up_lt hf (hf _))
theorem tset_lt : ∀ {k : Nat} {f : Nat → Nat} (_ : ∀ j, f j < 2 ^ 31) {i : Nat}, ∀ j, tset k f i j < 2 ^ 31
  | 0, _, hf, _ => hf
  | _ + 1, _, hf, _ => tset_lt (va_up_lt hf (by decide))
def qtr (n : Nat) (t : Nat → Nat) (x : Int32) : Int32 := if xin n x = true then nI (t x.toNatClampNeg) else -2
theorem qtr_t {n : Nat} {t : Nat → Nat} {j : Nat} (hj : j < n) (hn : n ≤ 64) : qtr n t (nI j) = nI (t j) := by
  unfold qtr
  rw [if_pos (by rw [xin_nI (by omega)]; exact decide_eq_true hj), nI_clamp (by omega)]
theorem qtr_f {n : Nat} {t : Nat → Nat} {x : Int32} (h : x < 0 ∨ nI n ≤ x ∨ nI 64 ≤ x) (hn : n ≤ 64) : -2 = qtr n t x := by
  have h0 : (0 : Int32).toInt = 0 := rfl
  rw [Int32.lt_iff_toInt_lt, Int32.le_iff_toInt_le, Int32.le_iff_toInt_le, h0, nI_toInt (show n < 2 ^ 31 by omega), nI_toInt (show 64 < 2 ^ 31 by decide)] at h
  unfold qtr
  rw [if_neg]
  intro q
  have q := of_decide_eq_true q
  omega
theorem qtr_in {n : Nat} {x : Int32} (c1 : ¬ x < 0) (c9 : ¬ nI n ≤ x) (hn : n ≤ 64) : ∃ j : Nat, j < n ∧ x = nI j := by
  have h0 : (0 : Int32).toInt = 0 := rfl
  rw [Int32.lt_iff_toInt_lt, h0] at c1
  rw [Int32.le_iff_toInt_le, nI_toInt (by omega)] at c9
  exact vp_in_of (n := n) (vp_in_iff.mpr ⟨by omega, by omega⟩) (by omega)
def qap (n : Nat) (g : Nat → Nat) (so pa : Nat) : Nat → Nat := bput 64 (bput 64 (wipG 64 n g) n 0 so) n 1 pa
theorem qap_lt {n : Nat} {g : Nat → Nat} (hg : ∀ j, g j < 256) {so pa : Nat} : ∀ j, qap n g so pa j < 256 := bput_lt (bput_lt (wipG_lt hg))
def qsl (i : Nat) (t g : Nat → Nat) : Nat → Nat := pnum 64 i 8 g 56 (uL (smG 64 g i (t i)))
theorem qsl_lt {i : Nat} {t g : Nat → Nat} (hg : ∀ j, g j < 256) : ∀ j, qsl i t g j < 256 := pnum_lt hg
theorem qdr_lt {dn : Nat} {t g : Nat → Nat} : ∀ {k i : Nat} {d : Nat → Nat} (_ : ∀ j, d j < 256) (_ : ∀ j, g j < 256), ∀ j, qdr dn t g k i d j < 256
  | 0, _, _, hd, _ => hd
  | k + 1, i, _, hd, hg => qdr_lt (k := k) (i := i + 1) (bput_lt hd) hg

abbrev TS : Type := Nat × (Nat → Int64) × (Nat → Int64) × (Nat → Nat)
def tI (T : TS) (k v : Int64) (q : Nat) : TS := if T.1 < 192 then (T.1 + 1, tpl (tup T.2.1 k T.1 0) T.1 T.2.1 k, tpl (tup T.2.1 k T.1 0) T.1 T.2.2.1 v, tpl (tup T.2.1 k T.1 0) T.1 T.2.2.2 q) else T
def rdR (dn : Nat) (dg : Nat → Nat) (b p q : Nat) (T : TS) : TS := tI T (lN (num dn dg b 8 (8 + p * 16))) (lN (num dn dg b 8 (8 + p * 16 + 8))) q
def plc (nx wt q : Nat) : Nat := if q = 0 then 0 else if q < nx - wt then 1 else 2
theorem plc_lt {nx wt q : Nat} : plc nx wt q < 3 := by
  unfold plc
  split
  · decide
  · split <;> decide
def sbw (un : Nat) (ug qt : Nat → Nat) (qn eg b : Nat) : Bool := if uof un ug b = 1 then !(qhol qt b qn 0) else if uof un ug b = 2 then true else if uof un ug b = 3 then decide (0 < eg ∧ eg % 2 = b) else false
def cnO (un : Nat) (ug : Nat → Nat) (ef tn wt qn eg nx lf w : Nat) : Nat := if w = 1 then uhm 0 ug un 0 0 else if w = 2 then ef else if w = 3 then tn else if w = 4 then wt else if w = 5 then uhm 1 ug un 0 0 else if w = 6 then qn else if w = 7 then eg else if w = 8 then nx else if w = 9 then 1 else lf
def qrec (s p : Nat) (k v : Int64) (g : Nat → Nat) : Nat → Nat := pnum 64 s 8 (pnum 64 s 8 g (8 + p * 16) (uL k)) (8 + p * 16 + 8) (uL v)
theorem qrec_lt {s p : Nat} {k v : Int64} {g : Nat → Nat} (hg : ∀ j, g j < 256) : ∀ j, qrec s p k v g j < 256 := pnum_lt (pnum_lt hg)
theorem xhas_b {n b : Nat} (hn : n ≤ 64) (hb : b < 2 ^ 31) (h : xhas n (nI b) (nI 0) = true) : b < n := by
  rw [xhas_nI hn hb (by decide)] at h
  exact (of_decide_eq_true h).1
theorem xhas_nb {n b : Nat} (hn : n ≤ 64) (hb : b < 2 ^ 31) (h : xhas n (nI b) (nI 0) = false) : ¬ b < n := by
  rw [xhas_nI hn hb (by decide)] at h
  exact fun q => of_decide_eq_false h ⟨q, by decide⟩
def ifb (dn : Nat) (dg : Nat → Nat) (ef : Nat) (eF : Nat → Nat) (i p : Nat) : Bool := decide (hfl ef eF i 1 + p < dn ∧ whole dn dg (hfl ef eF i 1 + p) = true ∧ bv dn dg (hfl ef eF i 1 + p) 0 = 2 ∧ bv dn dg (hfl ef eF i 1 + p) 1 = min 3 (hfl ef eF i 3 - p * 3) ∧ num dn dg (hfl ef eF i 1 + p) 2 2 = hfl ef eF i 0 ∧ num dn dg (hfl ef eF i 1 + p) 2 4 = p ∧ num dn dg (hfl ef eF i 1 + p) 2 6 = hfl ef eF i 2)
theorem ifb_t {dn : Nat} {dg : Nat → Nat} {ef : Nat} {eF : Nat → Nat} {i p : Nat} (h : hfl ef eF i 1 + p < dn ∧ whole dn dg (hfl ef eF i 1 + p) = true ∧ bv dn dg (hfl ef eF i 1 + p) 0 = 2 ∧ bv dn dg (hfl ef eF i 1 + p) 1 = min 3 (hfl ef eF i 3 - p * 3) ∧ num dn dg (hfl ef eF i 1 + p) 2 2 = hfl ef eF i 0 ∧ num dn dg (hfl ef eF i 1 + p) 2 4 = p ∧ num dn dg (hfl ef eF i 1 + p) 2 6 = hfl ef eF i 2) : nI 1 = bI (ifb dn dg ef eF i p) := by
  rw [ifb, decide_eq_true h]; rfl
theorem ifb_f {dn : Nat} {dg : Nat → Nat} {ef : Nat} {eF : Nat → Nat} {i p : Nat} (h : ¬ (hfl ef eF i 1 + p < dn ∧ whole dn dg (hfl ef eF i 1 + p) = true ∧ bv dn dg (hfl ef eF i 1 + p) 0 = 2 ∧ bv dn dg (hfl ef eF i 1 + p) 1 = min 3 (hfl ef eF i 3 - p * 3) ∧ num dn dg (hfl ef eF i 1 + p) 2 2 = hfl ef eF i 0 ∧ num dn dg (hfl ef eF i 1 + p) 2 4 = p ∧ num dn dg (hfl ef eF i 1 + p) 2 6 = hfl ef eF i 2)) : nI 0 = bI (ifb dn dg ef eF i p) := by
  rw [ifb, decide_eq_false h]; rfl
def nlb (dn : Nat) (dg : Nat → Nat) (un : Nat) (ug : Nat → Nat) (nx : Nat) : Nat → Nat → Option Nat
  | 0, _ => none
  | k + 1, b => if uof un ug b = 4 ∧ 1 ≤ bv dn dg b 1 ∧ bv dn dg b 1 ≤ 3 ∧ num dn dg b 6 2 = nx then some b else nlb dn dg un ug nx k (b + 1)
def fwI (dn : Nat) (dg : Nat → Nat) (ef : Nat) (eF : Nat → Nat) (i : Nat) : Nat → Nat → Option Nat
  | 0, _ => none
  | k + 1, p => if ifb dn dg ef eF i p = true then fwI dn dg ef eF i k (p + 1) else some (hfl ef eF i 1 + p)
def fwO (dn : Nat) (dg : Nat → Nat) (ef : Nat) (eF : Nat → Nat) : Nat → Nat → Option Nat
  | 0, _ => none
  | k + 1, i => match fwI dn dg ef eF i (hfl ef eF i 2) 0 with
    | some b => some b
    | none => fwO dn dg ef eF k (i + 1)
def rlI (dn : Nat) (dg : Nat → Nat) (b nx : Nat) : Nat → Nat → TS → TS
  | 0, _, T => T
  | k + 1, j, T => rlI dn dg b nx k (j + 1) (rdR dn dg b j (nx + j) T)
def wol (dn un : Nat) (ug : Nat → Nat) : Nat → Nat → (Nat → Nat) → Nat → Nat
  | 0, _, g => g
  | k + 1, b, g => wol dn un ug k (b + 1) (if uof un ug b = 4 then wipG dn b g else g)
def mol (dn : Nat) (dg : Nat → Nat) (un : Nat) : Nat → Nat → (Nat → Nat) → Nat → Nat
  | 0, _, u => u
  | k + 1, b, u => mol dn dg un k (b + 1) (if uof un u b = 0 ∧ whole dn dg b = true ∧ bv dn dg b 0 = 1 then umk un b 4 1 u 0 else u)
abbrev RS : Type := TS × Nat × (Nat → Nat)
def rlS (dn : Nat) (dg : Nat → Nat) (un b : Nat) (S : RS) : RS := (rlI dn dg b S.2.1 (bv dn dg b 1) 0 S.1, S.2.1 + bv dn dg b 1, umk un b 1 1 S.2.2 0)
def rpl (dn : Nat) (dg : Nat → Nat) (un : Nat) : Nat → RS → RS
  | 0, S => S
  | k + 1, S => match nlb dn dg un S.2.2 S.2.1 (dn - 2) 2 with
    | none => S
    | some b => rpl dn dg un k (rlS dn dg un b S)
def rfI (dn : Nat) (dg : Nat → Nat) (b : Nat) : Nat → Nat → TS → TS
  | 0, _, T => T
  | k + 1, j, T => rfI dn dg b k (j + 1) (rdR dn dg b j 0 T)
def rfO (dn : Nat) (dg : Nat → Nat) (y r : Nat) : Nat → Nat → TS → TS
  | 0, _, T => T
  | k + 1, p, T => rfO dn dg y r k (p + 1) (rfI dn dg (y + p) (min 3 (r - p * 3)) 0 T)
theorem tI_lt {T : TS} {k v : Int64} {q : Nat} (h : ∀ j, T.2.2.2 j < 2 ^ 31) (hq : q < 2 ^ 31) : ∀ j, (tI T k v q).2.2.2 j < 2 ^ 31 := by
  unfold tI
  split
  · exact va_up_lt (shf_lt h) hq
  · exact h
theorem tI_le {T : TS} {k v : Int64} {q : Nat} (h : T.1 ≤ 192) : (tI T k v q).1 ≤ 192 := by
  unfold tI
  split
  · show T.1 + 1 ≤ 192
    omega
  · exact h
theorem rdR_lt {dn : Nat} {dg : Nat → Nat} {b p q : Nat} {T : TS} (h : ∀ j, T.2.2.2 j < 2 ^ 31) (hq : q < 2 ^ 31) : ∀ j, (rdR dn dg b p q T).2.2.2 j < 2 ^ 31 := tI_lt h hq
theorem rdR_le {dn : Nat} {dg : Nat → Nat} {b p q : Nat} {T : TS} (h : T.1 ≤ 192) : (rdR dn dg b p q T).1 ≤ 192 := tI_le h
theorem rlI_lt {dn : Nat} {dg : Nat → Nat} {b nx : Nat} (hn : nx < 2 ^ 30) : ∀ {k j : Nat} {T : TS} (_ : ∀ j, T.2.2.2 j < 2 ^ 31) (_ : k + j < 2 ^ 30), ∀ j', (rlI dn dg b nx k j T).2.2.2 j' < 2 ^ 31
  | 0, _, _, h, _ => h
  | k + 1, j, _, h, hk => rlI_lt hn (k := k) (j := j + 1) (rdR_lt h (by omega)) (by omega)
theorem rfI_lt {dn : Nat} {dg : Nat → Nat} {b : Nat} : ∀ {k j : Nat} {T : TS} (_ : ∀ j, T.2.2.2 j < 2 ^ 31), ∀ j', (rfI dn dg b k j T).2.2.2 j' < 2 ^ 31
  | 0, _, _, h => h
  | k + 1, j, _, h => rfI_lt (k := k) (j := j + 1) (rdR_lt h (by decide))
theorem rfO_lt {dn : Nat} {dg : Nat → Nat} {y r : Nat} : ∀ {k p : Nat} {T : TS} (_ : ∀ j, T.2.2.2 j < 2 ^ 31), ∀ j', (rfO dn dg y r k p T).2.2.2 j' < 2 ^ 31
  | 0, _, _, h => h
  | k + 1, p, _, h => rfO_lt (k := k) (p := p + 1) (rfI_lt h)
theorem wol_lt {dn un : Nat} {ug : Nat → Nat} : ∀ {k b : Nat} {g : Nat → Nat} (_ : ∀ j, g j < 256), ∀ j, wol dn un ug k b g j < 256
  | 0, _, _, h => h
  | k + 1, b, g, h => by
    rw [wol]
    refine wol_lt ?_
    split
    · exact wipG_lt h
    · exact h
theorem mol_lt {dn : Nat} {dg : Nat → Nat} {un : Nat} : ∀ {k b : Nat} {u : Nat → Nat} (_ : ∀ j, u j < 8), ∀ j, mol dn dg un k b u j < 8
  | 0, _, _, h => h
  | k + 1, b, u, h => by
    rw [mol]
    refine mol_lt ?_
    split
    · exact umk_lt h (by decide)
    · exact h
theorem rlI_le {dn : Nat} {dg : Nat → Nat} {b nx : Nat} : ∀ {k j : Nat} {T : TS} (_ : T.1 ≤ 192), (rlI dn dg b nx k j T).1 ≤ 192
  | 0, _, _, h => h
  | k + 1, j, _, h => rlI_le (k := k) (j := j + 1) (rdR_le h)
theorem rfI_le {dn : Nat} {dg : Nat → Nat} {b : Nat} : ∀ {k j : Nat} {T : TS} (_ : T.1 ≤ 192), (rfI dn dg b k j T).1 ≤ 192
  | 0, _, _, h => h
  | k + 1, j, _, h => rfI_le (k := k) (j := j + 1) (rdR_le h)
theorem rfO_le {dn : Nat} {dg : Nat → Nat} {y r : Nat} : ∀ {k p : Nat} {T : TS} (_ : T.1 ≤ 192), (rfO dn dg y r k p T).1 ≤ 192
  | 0, _, _, h => h
  | k + 1, p, _, h => rfO_le (k := k) (p := p + 1) (rfI_le h)
theorem oI_none {o : Option Nat} (h : oI o = -2) (hb : ∀ b, o = some b → b < 2 ^ 31) : o = none := by
  cases o with
  | none => rfl
  | some b =>
    have h2 : nI b = -2 := h
    exact absurd h2 (fun q => absurd (by rw [q]; decide) (nI_pos (hb b rfl)))
theorem oI_some {o : Option Nat} (h : ¬ oI o = -2) : ∃ b, o = some b := by
  cases o with
  | none => exact absurd rfl h
  | some b => exact ⟨b, rfl⟩
theorem nlb_lt {dn : Nat} {dg : Nat → Nat} {un : Nat} {ug : Nat → Nat} {nx : Nat} : ∀ {k b c : Nat}, nlb dn dg un ug nx k b = some c → b ≤ c ∧ c < b + k
  | 0, _, _, h => by cases h
  | k + 1, b, c, h => by
    rw [nlb] at h
    split at h
    · cases h; omega
    · have := nlb_lt h
      omega
