
/-- bounds of what stands in rows -/
def RelB (S : SC) (M : SM) : Prop := ((∀ j, c_dg S j < 256) ∧ (∀ j, c_ug S j < 8) ∧ (∀ j, c_qt S j < 64) ∧ (∀ j, c_qg S j < 256) ∧ (∀ j, c_ts S j < 2 ^ 31) ∧ (∀ j, c_eF S j < 1048576) ∧ (∀ j, c_pF S j < 1048576))
  ∧ ((∀ j, m_rd M j < 256) ∧ (∀ j, m_rw M j < 256) ∧ (∀ j, m_rQ M j < 64) ∧ (∀ j, m_fN M j < 1048576) ∧ (∀ j, m_fF M j < 1048576) ∧ (∀ j, m_fB M j < 1048576) ∧ (∀ j, m_fR M j < 1048576) ∧ (∀ j, m_lB M j < 1048576) ∧ (∀ j, m_lR M j < 1048576))
/-- what holds also while the store is closed -/
def RelN (S : SC) (M : SM) : Prop := (c_dn S = m_rb M ∧ 4 ≤ m_rb M ∧ m_rb M ≤ 64) ∧ Ag (64 * m_rb M) (c_dg S) (m_rd M) ∧ c_op S = m_ro M ∧ c_un S ≤ 64 ∧ c_qn S ≤ 64 ∧ c_tn S ≤ 192
/-- the sequence of the reference's k-th record -/
def sqM (ex inf : Nat) (k : Nat) : Nat := if k < inf then 0 else ex + (k - inf)
/-- numbers and uses of an open store -/
def RelU (k : Nat) (S : SC) (M : SM) : Prop := (c_nx S = m_rx M ∧ c_wt S = m_rt M ∧ c_lf S = m_rz M ∧ c_eg S = m_rg M ∧ c_ef S = m_rf M ∧ c_tn S = m_rn M ∧ c_un S = m_rb M)
  ∧ (m_rt M ≤ 2 ∧ m_rf M ≤ 5 ∧ m_rx M ≤ 1000000200 + 3 * k ∧ m_rg M ≤ 1000000000 + k ∧ m_rz M ≤ 65536 + k)
  ∧ (∀ y, y < m_rb M → c_ug S y = usM (m_rf M) (m_fF M) (m_fB M) (m_rl M) (m_lB M) y)
  ∧ (∀ i, i < m_rf M → hfl (c_ef S) (c_eF S) i 0 = m_fN M i ∧ hfl (c_ef S) (c_eF S) i 1 = m_fF M i ∧ hfl (c_ef S) (c_eF S) i 2 = m_fB M i ∧ hfl (c_ef S) (c_eF S) i 3 = m_fR M i)
/-- the queue of an open store -/
def RelQ (S : SC) (M : SM) : Prop := c_qn S = m_rq M ∧ (∀ x, x < m_rq M → c_qt S x = m_rQ M x) ∧ Ag (64 * m_rq M) (c_qg S) (m_rw M)
  ∧ (m_rq M ≤ m_rl M ∧ ∀ x, x < m_rq M → ∃ y, y < m_rl M ∧ m_lB M y = m_rQ M x)
  ∧ nI (c_sf S) = (akM (m_rQ M) (m_rq M) (m_lB M) (m_lR M) (m_rl M) (lN (m_rx M) - lN 1 - lN (m_rt M))).toInt32
/-- the records of an open store -/
def RelT (S : SC) (M : SM) : Prop := Srt (m_rn M) (c_tk S) ∧ SameF (lsR (m_rn M) (c_tk S) (c_tv S) (c_ts S)) (lsR (m_rn M) (m_rk M) (m_rv M) (sqM (c_ex S) (ifM (m_fR M) (m_rf M) 0 0)))
  ∧ (1 ≤ c_ex S ∧ ifM (m_fR M) (m_rf M) 0 0 ≤ m_rn M ∧ m_rx M = c_ex S + (m_rn M - ifM (m_fR M) (m_rf M) 0 0) ∧ m_rt M + ifM (m_fR M) (m_rf M) 0 0 ≤ m_rn M)
/-- blocks of an open store: files and logs apart, and how many records they hold -/
def RelG (M : SM) : Prop := (∀ i, i < m_rf M → 2 ≤ m_fF M i ∧ 1 ≤ m_fB M i ∧ m_fF M i + m_fB M i ≤ m_rb M ∧ m_fR M i ≤ 3 * m_fB M i)
  ∧ (∀ i j, i < j → j < m_rf M → m_fF M i + m_fB M i ≤ m_fF M j ∨ m_fF M j + m_fB M j ≤ m_fF M i)
  ∧ (∀ x, x < m_rl M → 2 ≤ m_lB M x ∧ m_lB M x < m_rb M ∧ iof (m_fF M) (m_fB M) (m_lB M x) (m_rf M) 0 = false ∧ 1 ≤ m_lR M x ∧ m_lR M x ≤ 3)
  ∧ (∀ x y, x < y → y < m_rl M → m_lB M x ≠ m_lB M y)
  ∧ m_rn M = ifM (m_fR M) (m_rf M) 0 0 + ifM (m_lR M) (m_rl M) 0 0 + m_rt M
  ∧ cnt (fun y => decide (usM (m_rf M) (m_fF M) (m_fB M) (m_rl M) (m_lB M) y = 1)) (m_rb M - 2) 2 = m_rl M
  ∧ cnt (fun y => decide (usM (m_rf M) (m_fF M) (m_fB M) (m_rl M) (m_lB M) y = 2)) (m_rb M - 2) 2 = ifM (m_fB M) (m_rf M) 0 0
def Rel (k : Nat) (S : SC) (M : SM) : Prop := RelB S M ∧ RelN S M ∧ (m_ro M = true → RelU k S M ∧ RelQ S M ∧ RelT S M ∧ RelG M) ∧ (m_ro M = false → m_rn M = 0)
theorem Rel.later {k : Nat} {S : SC} {M : SM} (h : Rel k S M) : Rel (k + 1) S M := by
  obtain ⟨h1, h2, h3, h4⟩ := h
  refine ⟨h1, h2, fun o => ?_, h4⟩
  obtain ⟨⟨u1, ⟨v1, v2, v3, v4, v5⟩, u3, u4⟩, q, t, g⟩ := h3 o
  exact ⟨⟨u1, ⟨v1, v2, by omega, by omega, by omega⟩, u3, u4⟩, q, t, g⟩
theorem cnt_two {P Q : Nat → Bool} (h : ∀ x, P x = true → Q x = true → False) : ∀ (k c : Nat), cnt P k c + cnt Q k c ≤ k
  | 0, _ => Nat.le_refl _
  | k + 1, c => by
    have ih := cnt_two h k (c + 1)
    rw [cnt, cnt]
    by_cases c1 : P c = true
    · have c2 : ¬ Q c = true := fun q => h c c1 q
      rw [if_pos c1, if_neg c2]
      omega
    · rw [if_neg c1]
      split <;> omega
theorem ifM_acc {f : Nat → Nat} : ∀ {k i r : Nat}, ifM f k i r = r + ifM f k i 0
  | 0, _, _ => rfl
  | k + 1, i, r => by
    rw [ifM, ifM, ifM_acc (r := r + f i), ifM_acc (r := 0 + f i)]
    omega
theorem ifM_le3 {f g : Nat → Nat} : ∀ {k i : Nat}, (∀ x, i ≤ x → x < i + k → f x ≤ 3 * g x) → ifM f k i 0 ≤ 3 * ifM g k i 0
  | 0, _, _ => Nat.zero_le _
  | k + 1, i, h => by
    have h1 := h i (by omega) (by omega)
    have h2 := ifM_le3 (f := f) (g := g) (k := k) (i := i + 1) (fun x q1 q2 => h x (by omega) (by omega))
    rw [ifM, ifM, ifM_acc, ifM_acc (f := g) (r := 0 + g i)]
    omega
theorem ifM_le {f : Nat → Nat} {c : Nat} : ∀ {k i : Nat}, (∀ x, i ≤ x → x < i + k → f x ≤ c) → ifM f k i 0 ≤ c * k
  | 0, _, _ => Nat.zero_le _
  | k + 1, i, h => by
    have h1 := h i (by omega) (by omega)
    have h2 := ifM_le (f := f) (c := c) (k := k) (i := i + 1) (fun x q1 q2 => h x (by omega) (by omega))
    rw [ifM, ifM_acc, Nat.mul_succ]
    omega
/-- how much an open store can hold -/
theorem rel_room {k : Nat} {S : SC} {M : SM} (hb : m_rb M ≤ 64) (hb4 : 4 ≤ m_rb M) (hu : RelU k S M) (hg : RelG M) : m_rl M + ifM (m_fB M) (m_rf M) 0 0 + 2 ≤ m_rb M ∧ m_rn M ≤ 3 * (m_rl M + ifM (m_fB M) (m_rf M) 0 0) + 2 := by
  obtain ⟨g1, g2, g3, g4, g5, g6, g7⟩ := hg
  have h1 := cnt_two (P := fun y => decide (usM (m_rf M) (m_fF M) (m_fB M) (m_rl M) (m_lB M) y = 1)) (Q := fun y => decide (usM (m_rf M) (m_fF M) (m_fB M) (m_rl M) (m_lB M) y = 2)) (fun x q1 q2 => by
    have q1 := of_decide_eq_true q1
    have q2 := of_decide_eq_true q2
    omega) (m_rb M - 2) 2
  have h2 := ifM_le3 (f := m_fR M) (g := m_fB M) (k := m_rf M) (i := 0) (fun x _ q => (g1 x (by omega)).2.2.2)
  have h3 := ifM_le (f := m_lR M) (c := 3) (k := m_rl M) (i := 0) (fun x _ q => (g3 x (by omega)).2.2.2.2)
  have h4 := hu.2.1.1
  rw [g6, g7] at h1
  omega
theorem isI_pred {z : Int32} {n : Nat} (hn : n < 2 ^ 31) : isI z.toInt64 (lN 0) (nI n - nI 1).toInt64 = true ↔ (0 ≤ z.toInt ∧ z.toInt < (n : Int)) := by
  cases n with
  | zero =>
    have e : (nI 0 - nI 1).toInt64.toInt = -1 := by decide
    unfold isI
    rw [decide_eq_true_eq, Int64.le_iff_toInt_le, Int64.le_iff_toInt_le, e, pk_lT (show 0 < 2 ^ 63 by decide), Int32.toInt_toInt64]
    omega
  | succ n =>
    rw [pk_sub (by omega), nI_l (by omega), isI_I (by decide) (by omega), decide_eq_true_eq]
    omega
theorem xin_no {n : Nat} {z : Int32} (hn : n < 2 ^ 31) (h : ¬ xin n z = true) : z < 0 ∨ nI n ≤ z := by
  have h0 : (0 : Int32).toInt = 0 := rfl
  rw [Int32.lt_iff_toInt_lt, Int32.le_iff_toInt_le, nI_toInt hn, h0]
  rcases Int.lt_or_le z.toInt 0 with q | q
  · exact Or.inl q
  · rcases Int.lt_or_le z.toInt n with q2 | q2
    · exact absurd (decide_eq_true ⟨q, q2⟩) h
    · exact Or.inr q2
theorem isI_dec {z : Int32} {x y : Nat} (hx : x < 2 ^ 31) (hy : y < 2 ^ 31) : isI z.toInt64 (lN x) (lN y) = true ↔ ((x : Int) ≤ z.toInt ∧ z.toInt ≤ (y : Int)) := by
  rw [isI_I hx hy, decide_eq_true_eq]
