
def RelB (S : SC) (M : SM) : Prop := ((∀ j, c_dg S j < 256) ∧ (∀ j, c_ug S j < 8) ∧ (∀ j, c_qt S j < 64) ∧ (∀ j, c_qg S j < 256) ∧ (∀ j, c_ts S j < 2 ^ 31) ∧ (∀ j, c_eF S j < 1048576) ∧ (∀ j, c_pF S j < 1048576))
  ∧ ((∀ j, m_rd M j < 256) ∧ (∀ j, m_rw M j < 256) ∧ (∀ j, m_rQ M j < 64) ∧ (∀ j, m_fN M j < 1048576) ∧ (∀ j, m_fF M j < 1048576) ∧ (∀ j, m_fB M j < 1048576) ∧ (∀ j, m_fR M j < 1048576) ∧ (∀ j, m_lB M j < 1048576) ∧ (∀ j, m_lR M j < 1048576))
def RelN (S : SC) (M : SM) : Prop := (c_dn S = m_rb M ∧ 4 ≤ m_rb M ∧ m_rb M ≤ 64) ∧ Ag (64 * m_rb M) (c_dg S) (m_rd M) ∧ c_op S = m_ro M ∧ c_un S ≤ 64 ∧ c_qn S ≤ 64 ∧ c_tn S ≤ 192
def sqM (ex inf : Nat) (k : Nat) : Nat := if k < inf then 0 else ex + (k - inf)
def RelU (k : Nat) (S : SC) (M : SM) : Prop := (c_nx S = m_rx M ∧ c_wt S = m_rt M ∧ c_lf S = m_rz M ∧ c_eg S = m_rg M ∧ c_ef S = m_rf M ∧ c_tn S = m_rn M ∧ c_un S = m_rb M)
  ∧ (m_rt M ≤ 2 ∧ m_rf M ≤ 5 ∧ m_rx M ≤ 1000000200 + 3 * k ∧ m_rg M ≤ 1000000000 + k ∧ m_rz M ≤ 65536 + k)
  ∧ (∀ y, y < m_rb M → c_ug S y = usM (m_rf M) (m_fF M) (m_fB M) (m_rl M) (m_lB M) y)
  ∧ (∀ i, i < m_rf M → hfl (c_ef S) (c_eF S) i 0 = m_fN M i ∧ hfl (c_ef S) (c_eF S) i 1 = m_fF M i ∧ hfl (c_ef S) (c_eF S) i 2 = m_fB M i ∧ hfl (c_ef S) (c_eF S) i 3 = m_fR M i)
def RelQ (S : SC) (M : SM) : Prop := c_qn S = m_rq M ∧ (∀ x, x < m_rq M → c_qt S x = m_rQ M x) ∧ Ag (64 * m_rq M) (c_qg S) (m_rw M)
  ∧ (m_rq M ≤ m_rl M ∧ ∀ x, x < m_rq M → ∃ y, y < m_rl M ∧ m_lB M y = m_rQ M x)
  ∧ nI (c_sf S) = (akM (m_rQ M) (m_rq M) (m_lB M) (m_lR M) (m_rl M) (lN (m_rx M) - lN 1 - lN (m_rt M))).toInt32
def RelT (S : SC) (M : SM) : Prop := Srt (m_rn M) (c_tk S) ∧ SameF (lsR (m_rn M) (c_tk S) (c_tv S) (c_ts S)) (lsR (m_rn M) (m_rk M) (m_rv M) (sqM (c_ex S) (ifM (m_fR M) (m_rf M) 0 0)))
  ∧ (1 ≤ c_ex S ∧ ifM (m_fR M) (m_rf M) 0 0 ≤ m_rn M ∧ m_rx M = c_ex S + (m_rn M - ifM (m_fR M) (m_rf M) 0 0) ∧ m_rt M + ifM (m_fR M) (m_rf M) 0 0 ≤ m_rn M)
def RelG (M : SM) : Prop := (∀ i, i < m_rf M → 2 ≤ m_fF M i ∧ 1 ≤ m_fB M i ∧ m_fF M i + m_fB M i ≤ m_rb M ∧ m_fR M i ≤ 3 * m_fB M i)
  ∧ (∀ i j, i < j → j < m_rf M → m_fF M i + m_fB M i ≤ m_fF M j ∨ m_fF M j + m_fB M j ≤ m_fF M i)
  ∧ (∀ x, x < m_rl M → 2 ≤ m_lB M x ∧ m_lB M x < m_rb M ∧ iof (m_fF M) (m_fB M) (m_lB M x) (m_rf M) 0 = false ∧ 1 ≤ m_lR M x ∧ m_lR M x ≤ 3)
  ∧ (∀ x y, x < y → y < m_rl M → m_lB M x ≠ m_lB M y)
  ∧ m_rn M = ifM (m_fR M) (m_rf M) 0 0 + ifM (m_lR M) (m_rl M) 0 0 + m_rt M
  ∧ cnt (fun y => decide (usM (m_rf M) (m_fF M) (m_fB M) (m_rl M) (m_lB M) y = 1)) (m_rb M - 2) 2 = m_rl M
  ∧ cnt (fun y => decide (usM (m_rf M) (m_fF M) (m_fB M) (m_rl M) (m_lB M) y = 2)) (m_rb M - 2) 2 = ifM (m_fB M) (m_rf M) 0 0
def Rel (k : Nat) (S : SC) (M : SM) : Prop := RelB S M ∧ RelN S M ∧ (m_ro M = true → RelU k S M ∧ RelQ S M ∧ RelT S M ∧ RelG M) ∧ (m_ro M = false → m_rn M = 0)
theorem Rel.later {k : Nat} {S : SC} {M : SM} (h : Rel k S M) : Rel (k + 1) S M := by
  obtain ⟨h1, h2, h3, h4⟩ := h
  refine ⟨h1, h2, fun o => ?_, h4⟩
  obtain ⟨⟨u1, ⟨v1, v2, v3, v4, v5⟩, u3, u4⟩, q, t, g⟩ := h3 o
  exact ⟨⟨u1, ⟨v1, v2, by omega, by omega, by omega⟩, u3, u4⟩, q, t, g⟩
theorem cnt_two {P Q : Nat → Bool} (h : ∀ x, P x = true → Q x = true → False) : ∀ (k c : Nat), cnt P k c + cnt Q k c ≤ k
  | 0, _ => Nat.le_refl _
  | k + 1, c => by
    have ih := cnt_two h k (c + 1)
    rw [cnt, cnt]
    by_cases c1 : P c = true
    · have c2 : ¬ Q c = true := fun q => h c c1 q
      rw [if_pos c1, if_neg c2]
      omega
    · rw [if_neg c1]
      split <;> omega
theorem ifM_acc {f : Nat → Nat} : ∀ {k i r : Nat}, ifM f k i r = r + ifM f k i 0
  | 0, _, _ => rfl
  | k + 1, i, r => by
    rw [ifM, ifM, ifM_acc (r := r + f i), ifM_acc (r := 0 + f i)]
    omega
theorem ifM_le3 {f g : Nat → Nat} : ∀ {k i : Nat}, (∀ x, i ≤ x → x < i + k → f x ≤ 3 * g x) → ifM f k i 0 ≤ 3 * ifM g k i 0
  | 0, _, _ => Nat.zero_le _
  | k + 1, i, h => by
    have h1 := h i (by omega) (by omega)
    have h2 := ifM_le3 (f := f) (g := g) (k := k) (i := i + 1) (fun x q1 q2 => h x (by omega) (by omega))
    rw [ifM, ifM, ifM_acc, ifM_acc (f := g) (r := 0 + g i)]
    omega
theorem ifM_le {f : Nat → Nat} {c : Nat} : ∀ {k i : Nat}, (∀ x, i ≤ x → x < i + k → f x ≤ c) → ifM f k i 0 ≤ c * k
  | 0, _, _ => Nat.zero_le _
  | k + 1, i, h => by
    have h1 := h i (by omega) (by omega)
    have h2 := ifM_le (f := f) (c := c) (k := k) (i := i + 1) (fun x q1 q2 => h x (by omega) (by omega))
    rw [ifM, ifM_acc, Nat.mul_succ]
    omega
theorem rel_room {k : Nat} {S : SC} {M : SM} (hb : m_rb M ≤ 64) (hb4 : 4 ≤ m_rb M) (hu : RelU k S M) (hg : RelG M) : m_rl M + ifM (m_fB M) (m_rf M) 0 0 + 2 ≤ m_rb M ∧ m_rn M ≤ 3 * (m_rl M + ifM (m_fB M) (m_rf M) 0 0) + 2 := by
  obtain ⟨g1, g2, g3, g4, g5, g6, g7⟩ := hg
  have h1 := cnt_two (P := fun y => decide (usM (m_rf M) (m_fF M) (m_fB M) (m_rl M) (m_lB M) y = 1)) (Q := fun y => decide (usM (m_rf M) (m_fF M) (m_fB M) (m_rl M) (m_lB M) y = 2)) (fun x q1 q2 => by
    have q1 := of_decide_eq_true q1
    have q2 := of_decide_eq_true q2
    omega) (m_rb M - 2) 2
  have h2 := ifM_le3 (f := m_fR M) (g := m_fB M) (k := m_rf M) (i := 0) (fun x _ q => (g1 x (by omega)).2.2.2)
  have h3 := ifM_le (f := m_lR M) (c := 3) (k := m_rl M) (i := 0) (fun x _ q => (g3 x (by omega)).2.2.2.2)
  have h4 := hu.2.1.1
  rw [g6, g7] at h1
  omega
theorem isI_pred {z : Int32} {n : Nat} (hn : n < 2 ^ 31) : isI z.toInt64 (lN 0) (nI n - nI 1).toInt64 = true ↔ (0 ≤ z.toInt ∧ z.toInt < (n : Int)) := by
  cases n with
  | zero =>
    have e : (nI 0 - nI 1).toInt64.toInt = -1 := by decide
    unfold isI
    rw [decide_eq_true_eq, Int64.le_iff_toInt_le, Int64.le_iff_toInt_le, e, pk_lT (show 0 < 2 ^ 63 by decide), Int32.toInt_toInt64]
    omega
  | succ n =>
    rw [pk_sub (by omega), nI_l (by omega), isI_I (by decide) (by omega), decide_eq_true_eq]
    omega
theorem xin_no {n : Nat} {z : Int32} (hn : n < 2 ^ 31) (h : ¬ xin n z = true) : z < 0 ∨ nI n ≤ z := by
  have h0 : (0 : Int32).toInt = 0 := rfl
  rw [Int32.lt_iff_toInt_lt, Int32.le_iff_toInt_le, nI_toInt hn, h0]
  rcases Int.lt_or_le z.toInt 0 with q | q
  · exact Or.inl q
  · rcases Int.lt_or_le z.toInt n with q2 | q2
    · exact absurd (decide_eq_true ⟨q, q2⟩) h
    · exact Or.inr q2
theorem uhm_cnt {ug u : Nat → Nat} : ∀ {k y r : Nat}, (∀ x, y ≤ x → x < y + k → ug x = u x) → uhm 1 ug k y r = r + cnt (fun x => decide (u x = 1)) k y
  | 0, _, _, _ => rfl
  | k + 1, y, r, h => by
    rw [uhm, cnt, h y (by omega) (by omega), uhm_cnt (k := k) (fun x h1 h2 => h x (by omega) (by omega))]
    by_cases c : u y = 1
    · have d : decide (u y = 1) = true := decide_eq_true c
      rw [if_pos c, if_pos d]
      omega
    · have d : ¬ decide (u y = 1) = true := fun q => c (of_decide_eq_true q)
      rw [if_neg c, if_neg d]
      omega
theorem usM_head {rf : Nat} {fF fB : Nat → Nat} {rl : Nat} {lB : Nat → Nat} {y : Nat} (h : y < 2) : usM rf fF fB rl lB y = 3 := by rw [usM, if_pos h]
theorem usM_log {rf : Nat} {fF fB : Nat → Nat} {rl : Nat} {lB : Nat → Nat} {x : Nat} (h2 : 2 ≤ lB x) (hx : x < rl) (hf : iof fF fB (lB x) rf 0 = false) : usM rf fF fB rl lB (lB x) = 1 := by
  have c1 : ¬ lB x < 2 := by omega
  have c2 : ¬ iof fF fB (lB x) rf 0 = true := by rw [hf]; decide
  have c3 : qhol lB (lB x) rl 0 = true := qhol_iff.mpr ⟨x, by omega, by omega, rfl⟩
  rw [usM, if_neg c1, if_neg c2, if_pos c3]
theorem bad_same {dg rd : Nat → Nat} {ug qt : Nat → Nat} {rb rq : Nat} {rQ : Nat → Nat} {rf : Nat} {fF fB : Nat → Nat} {rl : Nat} {lB : Nat → Nat} {rg : Nat}
    (hA : Ag (64 * rb) dg rd) (hu : ∀ y, y < rb → ug y = usM rf fF fB rl lB y) (hq : ∀ x, x < rq → qt x = rQ x) (hQ : ∀ x, x < rq → usM rf fF fB rl lB (rQ x) = 1) :
    ∀ {k y : Nat}, y + k = rb → bdX rb dg rb ug qt rq rg k y = bdM rb rd rq rQ rf fF fB rl lB rg k y
  | 0, _, _ => rfl
  | k + 1, y, h => by
    have hy : y < rb := by omega
    rw [bdX, bdM, bad_same hA hu hq hQ (k := k) (by omega)]
    have ew : whole rb dg y = wh1 rd y := by rw [whole_at hy, wh1_ag hA (by omega)]
    have eq : qhol qt y rq 0 = qhol rQ y rq 0 := qhol_congr (fun j _ h2 => hq j (by omega))
    have nq : usM rf fF fB rl lB y ≠ 1 → qhol rQ y rq 0 = false := fun hne => by
      cases hh : qhol rQ y rq 0 with
      | false => rfl
      | true =>
        obtain ⟨j, -, h2, h3⟩ := qhol_iff.mp hh
        have z := hQ j (by omega)
        rw [h3] at z
        exact absurd z hne
    have es : (sbw rb ug qt rq rg y = true ∧ whole rb dg y = false) ↔ bdC rb rd rq rQ rf fF fB rl lB rg y := by
      rw [ew, sbw, uof, if_pos hy, hu y hy, eq, bdC]
      by_cases c : y < 2
      · have z := usM_head (rf := rf) (fF := fF) (fB := fB) (rl := rl) (lB := lB) c
        have z2 := nq (by rw [z]; decide)
        rw [z, z2]
        simp only [show ¬ (3 : Nat) = 1 by decide, show ¬ (3 : Nat) = 2 by decide, if_false, if_true, decide_eq_true_eq]
        constructor
        · rintro ⟨q1, q2⟩
          exact ⟨⟨fun _ => q1, fun q => by omega⟩, trivial, q2⟩
        · rintro ⟨⟨q1, -⟩, -, q2⟩
          exact ⟨q1 c, q2⟩
      · have z4 : usM rf fF fB rl lB y < 4 := usM_lt
        have z3 : usM rf fF fB rl lB y ≠ 3 := by
          unfold usM
          rw [if_neg c]
          split
          · decide
          · split <;> decide
        rcases (show usM rf fF fB rl lB y = 0 ∨ usM rf fF fB rl lB y = 1 ∨ usM rf fF fB rl lB y = 2 by omega) with z | z | z
        · rw [z]
          simp only [show ¬ (0 : Nat) = 1 by decide, show ¬ (0 : Nat) = 2 by decide, show ¬ (0 : Nat) = 3 by decide, if_false]
          constructor
          · rintro ⟨q1, -⟩
            exact absurd q1 (by decide)
          · rintro ⟨⟨-, q1⟩, -⟩
            exact absurd (q1 (by omega)) (by decide)
        · rw [z]
          simp only [if_true, Bool.not_eq_true']
          constructor
          · rintro ⟨q1, q2⟩
            exact ⟨⟨fun q => absurd q c, fun _ => by decide⟩, q1, q2⟩
          · rintro ⟨-, q1, q2⟩
            exact ⟨q1, q2⟩
        · have z2 := nq (by rw [z]; decide)
          rw [z, z2]
          simp only [show ¬ (2 : Nat) = 1 by decide, if_false, if_true]
          constructor
          · rintro ⟨-, q2⟩
            exact ⟨⟨fun q => absurd q c, fun _ => by decide⟩, trivial, q2⟩
          · rintro ⟨-, -, q2⟩
            exact ⟨trivial, q2⟩
    by_cases c : bdC rb rd rq rQ rf fF fB rl lB rg y
    · rw [if_pos (es.mpr c), if_pos c]
    · rw [if_neg (fun q => c (es.mp q)), if_neg c]
theorem cnt_none {P : Nat → Bool} : ∀ {k c : Nat}, (∀ x, c ≤ x → x < c + k → ¬ P x = true) → cnt P k c = 0
  | 0, _, _ => rfl
  | k + 1, c, h => by
    rw [cnt, if_neg (h c (by omega) (by omega)), cnt_none (k := k) (fun x h1 h2 => h x (by omega) (by omega))]
theorem usM_new {fF fB lB : Nat → Nat} {y : Nat} : usM 0 fF fB 0 lB y = if y < 2 then 3 else 0 := by
  unfold usM
  split
  · rfl
  · rw [if_neg (by rw [iof]; decide), if_neg (by rw [qhol]; decide)]
theorem rel_new {k n : Nat} {S : SC} {M : SM} (hn : 4 ≤ n ∧ n ≤ 64) (hB : RelB S M) (hA : Ag (64 * n) (c_dg S) (m_rd M)) (hu : ∀ y, y < n → c_ug S y = if y < 2 then 3 else 0)
    (hS : c_dn S = n ∧ c_un S = n ∧ c_qn S = 0 ∧ c_tn S = 0 ∧ c_nx S = 1 ∧ c_wt S = 0 ∧ c_sf S = 0 ∧ c_lf S = 0 ∧ c_op S = true ∧ c_ef S = 0 ∧ c_eg S = 0 ∧ c_ex S = 1)
    (hM : m_rb M = n ∧ m_rq M = 0 ∧ m_ro M = true ∧ m_rn M = 0 ∧ m_rf M = 0 ∧ m_rl M = 0 ∧ m_rt M = 0 ∧ m_rg M = 0 ∧ m_rx M = 1 ∧ m_rz M = 0) : Rel k S M := by
  obtain ⟨s1, s2, s3, s4, s5, s6, s7, s8, s9, s10, s11, s12⟩ := hS
  obtain ⟨m1, m2, m3, m4, m5, m6, m7, m8, m9, m10⟩ := hM
  refine ⟨hB, ⟨⟨by omega, by omega, by omega⟩, by rw [m1]; exact hA, by rw [s9, m3], by omega, by omega, by omega⟩, fun _ => ⟨⟨⟨by omega, by omega, by omega, by omega, by omega, by omega, by omega⟩, ⟨by omega, by omega, by omega, by omega, by omega⟩, fun y hy => ?_, fun i hi => absurd hi (by omega)⟩, ⟨by omega, fun x hx => absurd hx (by omega), fun x hx => absurd hx (by omega), ⟨by omega, fun x hx => absurd hx (by omega)⟩, ?_⟩, ⟨fun i j _ hj => absurd hj (by omega), ?_, ⟨by omega, ?_, ?_, ?_⟩⟩, ⟨fun i hi => absurd hi (by omega), fun i j _ hj => absurd hj (by omega), fun x hx => absurd hx (by omega), fun x y _ hy => absurd hy (by omega), ?_, ?_, ?_⟩⟩, fun o => absurd (m3.symm.trans o) (by decide)⟩
  · rw [m5, m6, usM_new]
    exact hu y (by omega)
  · rw [s7, m2, m6, m7, m9]
    show nI 0 = (lN 1 - lN 1 - lN 0).toInt32
    decide
  · rw [m4]
    exact fun _ => rfl
  · rw [m5, m4]
    exact Nat.le_refl _
  · rw [m5, m4, m9, s12]
    rfl
  · rw [m5, m4, m7]
    exact Nat.le_refl _
  · rw [m5, m4, m6, m7]
    rfl
  · rw [m5, m6]
    refine cnt_none (fun x h1 _ q => ?_)
    have z : usM 0 (m_fF M) (m_fB M) 0 (m_lB M) x = 1 := of_decide_eq_true q
    rw [usM_new, if_neg (by omega)] at z
    omega
  · rw [m5, m6]
    refine cnt_none (fun x h1 _ q => ?_)
    have z : usM 0 (m_fF M) (m_fB M) 0 (m_lB M) x = 2 := of_decide_eq_true q
    rw [usM_new, if_neg (by omega)] at z
    omega
theorem nat_of_pos {z : Int32} (h : 0 ≤ z) : ∃ n : Nat, n < 2 ^ 31 ∧ z = nI n := by
  have h0 : (0 : Int32).toInt = 0 := rfl
  have h1 := Int32.le_iff_toInt_le.mp h
  rw [h0] at h1
  have h2 : z.toInt < 2 ^ 31 := Int32.toInt_lt z
  refine ⟨z.toInt.toNat, by omega, Int32.toInt_inj.mp ?_⟩
  rw [nI_toInt (by omega)]
  omega
theorem akM_0 {rQ : Nat → Nat} {lB lR : Nat → Nat} : ∀ {j : Nat} {v : Int64}, akM rQ 0 lB lR j v = v
  | 0, _ => rfl
  | j + 1, v => by
    have c : ¬ qhol rQ (lB j) 0 0 = true := by rw [qhol]; decide
    rw [akM, if_neg c]
    exact akM_0
theorem rel_drain {k m : Nat} {S : SC} {M : SM} (n1 : c_dn S = m_rb M) (n4 : Ag (64 * m_rb M) (c_dg S) (m_rd M)) (n7 : c_qn S ≤ 64) (b4 : ∀ j, c_qg S j < 256) (hq : RelQ S M) (hg : RelG M) :
    (prO (m_rQ M) (m_rw M) (m_rq M) 0 m 0 (m_rd M)).1 = min m (c_qn S * 64) / 64 ∧ Ag (64 * m_rb M) (qdr (c_dn S) (c_qt S) (c_qg S) (min m (c_qn S * 64)) 0 (c_dg S)) (prO (m_rQ M) (m_rw M) (m_rq M) 0 m 0 (m_rd M)).2 := by
  obtain ⟨q1, q2, q3, ⟨q4, q5⟩, q6⟩ := hq
  rw [q1, n1]
  rw [q1] at n7
  exact drain_ag n7 b4 (fun x hx => by
    obtain ⟨y, y1, y2⟩ := q5 x hx
    rw [q2 x hx, ← y2]
    exact (hg.2.2.1 y y1).2.1) q2 q3 n4
theorem isI_dec {z : Int32} {x y : Nat} (hx : x < 2 ^ 31) (hy : y < 2 ^ 31) : isI z.toInt64 (lN x) (lN y) = true ↔ ((x : Int) ≤ z.toInt ∧ z.toInt ≤ (y : Int)) := by
  rw [isI_I hx hy, decide_eq_true_eq]
