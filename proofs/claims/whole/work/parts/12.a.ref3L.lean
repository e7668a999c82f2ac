
abbrev FS : Type := (Nat → Nat) × (Nat → Nat) × (Nat → Nat) × (Nat → Nat) × Nat
def rfS (rd : Nat → Nat) (x i : Nat) (Z : FS) : FS := (va_up Z.1 i (nm1 rd 2 (x + 8 + 8 * i)), va_up Z.2.1 i (nm1 rd 2 (x + 10 + 8 * i)), va_up Z.2.2.1 i (nm1 rd 2 (x + 12 + 8 * i)), va_up Z.2.2.2.1 i (nm1 rd 2 (x + 14 + 8 * i)), if nm1 rd 2 (x + 8 + 8 * i) ≤ Z.2.2.2.2 then Z.2.2.2.2 else nm1 rd 2 (x + 8 + 8 * i))
theorem rfS_z {rd : Nat → Nat} {x i : Nat} {Z : FS} (h : Z.2.2.2.2 < 2 ^ 18) (h2 : nm1 rd 2 (x + 8 + 8 * i) < 2 ^ 18) : (rfS rd x i Z).2.2.2.2 < 2 ^ 18 := by
  show (if _ then _ else _) < 2 ^ 18
  split
  · exact h
  · exact h2
def rf1 (rd : Nat → Nat) (x : Nat) : Nat → Nat → FS → FS
  | 0, _, Z => Z
  | k + 1, i, Z => rf1 rd x k (i + 1) (rfS rd x i Z)
noncomputable def rgI (rb : Nat) (rd : Nat → Nat) (Z : FS) (f : Nat) : Nat → Nat → KS → Option Nat × KS
  | 0, _, X => (none, X)
  | k + 1, p, X => if ibM rb rd Z.1 Z.2.1 Z.2.2.1 Z.2.2.2.1 f p = true then rgI rb rd Z f k (p + 1) (rds rd (Z.2.1 f + p) (rd (64 * (Z.2.1 f + p) + 1)) 0 X) else (some (Z.2.1 f + p), X)
noncomputable def rgO (rb : Nat) (rd : Nat → Nat) (Z : FS) : Nat → Nat → KS → Option Nat × KS
  | 0, _, X => (none, X)
  | k + 1, f, X => match rgI rb rd Z f (Z.2.2.1 f) 0 X with
    | (some c, Y) => (some c, Y)
    | (none, Y) => rgO rb rd Z k (f + 1) Y
theorem ib_d {rb : Nat} {rd fN fF fB fR : Nat → Nat} {f p : Nat} (h : ibM rb rd fN fF fB fR f p = true) : ibC rb rd fN fF fB fR f p := @of_decide_eq_true _ (Classical.propDecidable _) h
theorem rds_n {rd : Nat → Nat} {y : Nat} : ∀ {k j : Nat} {X : KS}, (rds rd y k j X).1 = X.1 + k
  | 0, _, _ => rfl
  | k + 1, j, X => by
    rw [rds, rds_n (k := k)]
    show X.1 + 1 + k = X.1 + (k + 1)
    omega
def cv (Z : FS) (f p c : Nat) : Bool := iof Z.2.1 Z.2.2.1 c f 0 || decide (Z.2.1 f ≤ c ∧ c < Z.2.1 f + p)
def cnt (P : Nat → Bool) : Nat → Nat → Nat
  | 0, _ => 0
  | k + 1, c => (if P c = true then 1 else 0) + cnt P k (c + 1)
theorem cnt_le (P : Nat → Bool) : ∀ (k c : Nat), cnt P k c ≤ k
  | 0, _ => Nat.le_refl _
  | k + 1, c => by
    have h := cnt_le P k (c + 1)
    rw [cnt]
    split <;> omega
theorem cnt_eq {P P' : Nat → Bool} : ∀ {k c : Nat} (_ : ∀ x, c ≤ x → x < c + k → P x = P' x), cnt P k c = cnt P' k c
  | 0, _, _ => rfl
  | k + 1, c, h => by
    rw [cnt, cnt, h c (by omega) (by omega), cnt_eq (fun x h1 h2 => h x (by omega) (by omega))]
theorem cnt_one {P P' : Nat → Bool} {y : Nat} (hy : P y = false) (hy' : P' y = true) (ho : ∀ x, x ≠ y → P x = P' x) : ∀ {k c : Nat}, c ≤ y → y < c + k → cnt P' k c = cnt P k c + 1
  | 0, _, h1, h2 => absurd h2 (by omega)
  | k + 1, c, h1, h2 => by
    rw [cnt, cnt]
    rcases Nat.eq_or_lt_of_le h1 with e | e
    · subst e
      rw [hy, hy', cnt_eq (P := P') (P' := P) (fun x h3 _ => (ho x (by omega)).symm)]
      simp
      omega
    · rw [ho c (by omega), cnt_one hy hy' ho (k := k) (c := c + 1) (by omega) (by omega)]
      omega
def cvN (Z : FS) (f p rb : Nat) : Nat := cnt (cv Z f p) (rb - 2) 2
theorem cvN_le (Z : FS) (f p rb : Nat) (_ : 2 ≤ rb) : cvN Z f p rb + 2 ≤ rb := by
  have h := cnt_le (cv Z f p) (rb - 2) 2
  unfold cvN
  omega
theorem iof_iff {fF fB : Nat → Nat} {y : Nat} : ∀ {k i : Nat}, iof fF fB y k i = true ↔ ∃ g, i ≤ g ∧ g < i + k ∧ fF g ≤ y ∧ y < fF g + fB g
  | 0, i => by
    constructor
    · intro h; cases h
    · rintro ⟨g, h1, h2, -⟩; omega
  | k + 1, i => by
    rw [iof]
    split
    · rename_i h
      exact ⟨fun _ => ⟨i, Nat.le_refl _, by omega, h⟩, fun _ => rfl⟩
    · rename_i h
      rw [iof_iff (k := k) (i := i + 1)]
      constructor
      · rintro ⟨g, h1, h2, h3⟩
        exact ⟨g, by omega, by omega, h3⟩
      · rintro ⟨g, h1, h2, h3⟩
        rcases Nat.eq_or_lt_of_le h1 with e | e
        · subst e; exact absurd h3 h
        · exact ⟨g, by omega, by omega, h3⟩
theorem cv_iff {Z : FS} {f p c : Nat} : cv Z f p c = true ↔ (∃ g, g < f ∧ Z.2.1 g ≤ c ∧ c < Z.2.1 g + Z.2.2.1 g) ∨ (Z.2.1 f ≤ c ∧ c < Z.2.1 f + p) := by
  unfold cv
  rw [Bool.or_eq_true, iof_iff, decide_eq_true_eq]
  constructor
  · rintro (⟨g, h1, h2, h3⟩ | h)
    · exact Or.inl ⟨g, by omega, h3⟩
    · exact Or.inr h
  · rintro (⟨g, h1, h3⟩ | h)
    · exact Or.inl ⟨g, by omega, by omega, h3⟩
    · exact Or.inr h
theorem cvN_next (Z : FS) (f rb : Nat) : cvN Z f (Z.2.2.1 f) rb = cvN Z (f + 1) 0 rb := by
  refine cnt_eq (fun x _ _ => ?_)
  rw [Bool.eq_iff_iff, cv_iff, cv_iff]
  constructor
  · rintro (⟨g, h1, h2⟩ | h)
    · exact Or.inl ⟨g, by omega, h2⟩
    · exact Or.inl ⟨f, by omega, h⟩
  · rintro (⟨g, h1, h2⟩ | h)
    · rcases Nat.lt_succ_iff_lt_or_eq.mp h1 with q | q
      · exact Or.inl ⟨g, q, h2⟩
      · subst q; exact Or.inr h2
    · omega
theorem cvN_step {Z : FS} {n f p rb : Nat} (hF : ∀ g, g < n → 2 ≤ Z.2.1 g ∧ 1 ≤ Z.2.2.1 g ∧ 3 * Z.2.2.1 g ≤ Z.2.2.2.1 g + 2) (hN : ∀ g h, g < h → h < n → Z.2.1 g + Z.2.2.1 g ≤ Z.2.1 h ∨ Z.2.1 h + Z.2.2.1 h ≤ Z.2.1 g) (hf : f < n) (hp : p < Z.2.2.1 f) (hb : Z.2.1 f + p < rb) : cvN Z f (p + 1) rb = cvN Z f p rb + 1 := by
  have h2 := (hF f hf).1
  refine cnt_one (y := Z.2.1 f + p) ?_ ?_ ?_ (by omega) (by omega)
  · rw [Bool.eq_false_iff]
    intro q
    rcases cv_iff.mp q with ⟨g, h1, h3⟩ | h
    · rcases hN g f h1 hf with r | r <;> omega
    · omega
  · exact cv_iff.mpr (Or.inr (by omega))
  · intro x hx
    rw [Bool.eq_iff_iff, cv_iff, cv_iff]
    constructor
    · rintro (h | h)
      · exact Or.inl h
      · exact Or.inr (by omega)
    · rintro (h | h)
      · exact Or.inl h
      · exact Or.inr (by omega)
abbrev LSt : Type := Nat × (Nat → Int64) × (Nat → Int64) × Nat × (Nat → Nat) × (Nat → Nat) × Nat
def fl (rb : Nat) (rd fF fB : Nat → Nat) (rf x : Nat) : Nat → Nat → Option Nat
  | 0, _ => none
  | k + 1, y => if ilM rd fF fB rf y = true ∧ (1 ≤ rd (64 * y + 1) ∧ rd (64 * y + 1) ≤ 3) ∧ nm1 rd 6 (64 * y + 2) = x then some y else fl rb rd fF fB rf x k (y + 1)
def foS (f : Nat → Nat → Option Nat) (o : Option Nat) (k y : Nat) : Option Nat := match o with
  | none => f k y
  | some c => some c
theorem fo_hit {rb : Nat} {rd fF fB : Nat → Nat} {rf x k y : Nat} {R : Option Nat} (hc : ilM rd fF fB rf y = true ∧ (1 ≤ rd (64 * y + 1) ∧ rd (64 * y + 1) ≤ 3) ∧ nm1 rd 6 (64 * y + 2) = x) (h : foS (fl rb rd fF fB rf x) none (k + 1) y = R) : foS (fl rb rd fF fB rf x) (some y) k (y + 1) = R := by
  have h1 : fl rb rd fF fB rf x (k + 1) y = R := h
  rw [fl, if_pos hc] at h1
  exact h1
theorem fo_miss {rb : Nat} {rd fF fB : Nat → Nat} {rf x k y : Nat} {R : Option Nat} (hc : ¬ (ilM rd fF fB rf y = true ∧ (1 ≤ rd (64 * y + 1) ∧ rd (64 * y + 1) ≤ 3) ∧ nm1 rd 6 (64 * y + 2) = x)) (h : foS (fl rb rd fF fB rf x) none (k + 1) y = R) : foS (fl rb rd fF fB rf x) none k (y + 1) = R := by
  have h1 : fl rb rd fF fB rf x (k + 1) y = R := h
  rw [fl, if_neg hc] at h1
  exact h1
theorem oJ_neg {o : Option Nat} (h : ¬ 0 ≤ oJ o) (hb : ∀ c, o = some c → c < 2 ^ 31) : o = none := by
  cases o with
  | none => rfl
  | some c => exact absurd (nI_pos' (hb c rfl)) h
theorem foS_end {f : Nat → Nat → Option Nat} {o R : Option Nat} {k y : Nat} (hk : k = 0) (h : foS f o k y = R) (h0 : f 0 y = none) : R = o := by
  subst hk
  cases o with
  | none => exact h.symm.trans h0
  | some c => exact h.symm
def lgP (rd fF fB : Nat → Nat) (rf x y : Nat) : Bool := ilM rd fF fB rf y && decide (x ≤ nm1 rd 6 (64 * y + 2))
def lgK (rb : Nat) (rd fF fB : Nat → Nat) (rf x : Nat) : Nat := cnt (lgP rd fF fB rf x) (rb - 2) 2
theorem lgK_64 {rb : Nat} {rd fF fB : Nat → Nat} {rf x : Nat} (h : rb ≤ 64) : lgK rb rd fF fB rf x < 64 := by
  have h1 := cnt_le (lgP rd fF fB rf x) (rb - 2) 2
  unfold lgK
  omega
theorem cnt_sub {P P' : Nat → Bool} (ho : ∀ x, P' x = true → P x = true) : ∀ {k c : Nat}, cnt P' k c ≤ cnt P k c
  | 0, _ => Nat.le_refl _
  | k + 1, c => by
    have h := cnt_sub ho (k := k) (c := c + 1)
    rw [cnt, cnt]
    split
    · rename_i h1
      rw [if_pos (ho c h1)]
      omega
    · omega
theorem cnt_lt {P P' : Nat → Bool} {y : Nat} (ho : ∀ x, P' x = true → P x = true) (hy : P y = true) (hy' : P' y = false) : ∀ {k c : Nat}, c ≤ y → y < c + k → cnt P' k c + 1 ≤ cnt P k c
  | 0, _, h1, h2 => absurd h2 (by omega)
  | k + 1, c, h1, h2 => by
    rw [cnt, cnt]
    rcases Nat.eq_or_lt_of_le h1 with e | e
    · subst e
      have h := cnt_sub ho (k := k) (c := c + 1)
      rw [hy, hy']
      simp
      omega
    · have h := cnt_lt ho hy hy' (k := k) (c := c + 1) (by omega) (by omega)
      split
      · rename_i h1
        rw [if_pos (ho c h1)]
        omega
      · omega
theorem fl_d {rb : Nat} {rd fF fB : Nat → Nat} {rf x : Nat} : ∀ {k y c : Nat}, fl rb rd fF fB rf x k y = some c → (y ≤ c ∧ c < y + k) ∧ ilM rd fF fB rf c = true ∧ (1 ≤ rd (64 * c + 1) ∧ rd (64 * c + 1) ≤ 3) ∧ nm1 rd 6 (64 * c + 2) = x
  | 0, _, _, h => by cases h
  | k + 1, y, c, h => by
    rw [fl] at h
    split at h
    · rename_i hc
      have e := Option.some.inj h
      subst e
      exact ⟨by omega, hc⟩
    · have q := fl_d h
      exact ⟨by omega, q.2⟩
def rlT (rd : Nat → Nat) (y : Nat) (S : LSt) : LSt :=
  ((rds rd y (rd (64 * y + 1)) 0 (S.1, S.2.1, S.2.2.1)).1, (rds rd y (rd (64 * y + 1)) 0 (S.1, S.2.1, S.2.2.1)).2.1, (rds rd y (rd (64 * y + 1)) 0 (S.1, S.2.1, S.2.2.1)).2.2, S.2.2.2.1 + 1, va_up S.2.2.2.2.1 S.2.2.2.1 y, va_up S.2.2.2.2.2.1 S.2.2.2.1 (rd (64 * y + 1)), S.2.2.2.2.2.2 + rd (64 * y + 1))
def rlG (rb : Nat) (rd fF fB : Nat → Nat) (rf : Nat) : Nat → LSt → LSt
  | 0, S => S
  | t + 1, S => match fl rb rd fF fB rf S.2.2.2.2.2.2 (rb - 2) 2 with
    | none => S
    | some y => rlG rb rd fF fB rf t (rlT rd y S)
theorem lgK_step {rb : Nat} {rd fF fB : Nat → Nat} {rf x y n : Nat} (h : (2 ≤ y ∧ y < 2 + (rb - 2)) ∧ ilM rd fF fB rf y = true ∧ (1 ≤ n ∧ n ≤ 3) ∧ nm1 rd 6 (64 * y + 2) = x) : lgK rb rd fF fB rf (x + n) + 1 ≤ lgK rb rd fF fB rf x := by
  refine cnt_lt (y := y) (fun z hz => ?_) ?_ ?_ h.1.1 h.1.2
  · unfold lgP at hz ⊢
    rw [Bool.and_eq_true, decide_eq_true_eq] at hz ⊢
    exact ⟨hz.1, by omega⟩
  · unfold lgP
    rw [Bool.and_eq_true, decide_eq_true_eq]
    exact ⟨h.2.1, by omega⟩
  · unfold lgP
    rw [Bool.and_eq_false_iff]
    exact Or.inr (decide_eq_false (by omega))
def rlW (rf : Nat) (fF fB : Nat → Nat) (rl : Nat) (lB : Nat → Nat) : Nat → Nat → (Nat → Nat) → Nat → Nat
  | 0, _, d => d
  | k + 1, z, d => rlW rf fF fB rl lB k (z + 1) (if usM rf fF fB rl lB z = 0 ∧ ilM d fF fB rf z = true then wz 64 d (64 * z) else d)
theorem rlW_lt {rf : Nat} {fF fB : Nat → Nat} {rl : Nat} {lB : Nat → Nat} : ∀ {k z : Nat} {d : Nat → Nat} (_ : ∀ q, d q < 256), ∀ q, rlW rf fF fB rl lB k z d q < 256
  | 0, _, _, h => h
  | k + 1, z, d, h => by
    rw [rlW]
    refine rlW_lt ?_
    split
    · exact wz_lt h
    · exact h
theorem oJ_some {o : Option Nat} (h : 0 ≤ oJ o) : ∃ c, o = some c := by
  cases o with
  | none => exact absurd h (by decide)
  | some c => exact ⟨c, rfl⟩
