
abbrev FS : Type := (Nat → Nat) × (Nat → Nat) × (Nat → Nat) × (Nat → Nat) × Nat
def rfS (rd : Nat → Nat) (x i : Nat) (Z : FS) : FS := (va_up Z.1 i (nm1 rd 2 (x + 8 + 8 * i)), va_up Z.2.1 i (nm1 rd 2 (x + 10 + 8 * i)), va_up Z.2.2.1 i (nm1 rd 2 (x + 12 + 8 * i)), va_up Z.2.2.2.1 i (nm1 rd 2 (x + 14 + 8 * i)), if nm1 rd 2 (x + 8 + 8 * i) ≤ Z.2.2.2.2 then Z.2.2.2.2 else nm1 rd 2 (x + 8 + 8 * i))
theorem rfS_z {rd : Nat → Nat} {x i : Nat} {Z : FS} (h : Z.2.2.2.2 < 2 ^ 18) (h2 : nm1 rd 2 (x + 8 + 8 * i) < 2 ^ 18) : (rfS rd x i Z).2.2.2.2 < 2 ^ 18 := by
  show (if _ then _ else _) < 2 ^ 18
  split
  · exact h
  · exact h2
def rf1 (rd : Nat → Nat) (x : Nat) : Nat → Nat → FS → FS
  | 0, _, Z => Z
  | k + 1, i, Z => rf1 rd x k (i + 1) (rfS rd x i Z)
noncomputable def rgI (rb : Nat) (rd : Nat → Nat) (Z : FS) (f : Nat) : Nat → Nat → KS → Option Nat × KS
  | 0, _, X => (none, X)
  | k + 1, p, X => if ibM rb rd Z.1 Z.2.1 Z.2.2.1 Z.2.2.2.1 f p = true then rgI rb rd Z f k (p + 1) (rds rd (Z.2.1 f + p) (rd (64 * (Z.2.1 f + p) + 1)) 0 X) else (some (Z.2.1 f + p), X)
noncomputable def rgO (rb : Nat) (rd : Nat → Nat) (Z : FS) : Nat → Nat → KS → Option Nat × KS
  | 0, _, X => (none, X)
  | k + 1, f, X => match rgI rb rd Z f (Z.2.2.1 f) 0 X with
    | (some c, Y) => (some c, Y)
    | (none, Y) => rgO rb rd Z k (f + 1) Y
theorem ib_d {rb : Nat} {rd fN fF fB fR : Nat → Nat} {f p : Nat} (h : ibM rb rd fN fF fB fR f p = true) : ibC rb rd fN fF fB fR f p := @of_decide_eq_true _ (Classical.propDecidable _) h
theorem rds_n {rd : Nat → Nat} {y : Nat} : ∀ {k j : Nat} {X : KS}, (rds rd y k j X).1 = X.1 + k
  | 0, _, _ => rfl
  | k + 1, j, X => by
    rw [rds, rds_n (k := k)]
    show X.1 + 1 + k = X.1 + (k + 1)
    omega
/-- block c is read already: of a file before f, or of its first p -/
def cv (Z : FS) (f p c : Nat) : Bool := iof Z.2.1 Z.2.2.1 c f 0 || decide (Z.2.1 f ≤ c ∧ c < Z.2.1 f + p)
def cnt (P : Nat → Bool) : Nat → Nat → Nat
  | 0, _ => 0
  | k + 1, c => (if P c = true then 1 else 0) + cnt P k (c + 1)
theorem cnt_le (P : Nat → Bool) : ∀ (k c : Nat), cnt P k c ≤ k
  | 0, _ => Nat.le_refl _
  | k + 1, c => by
    have h := cnt_le P k (c + 1)
    rw [cnt]
    split <;> omega
theorem cnt_eq {P P' : Nat → Bool} : ∀ {k c : Nat} (_ : ∀ x, c ≤ x → x < c + k → P x = P' x), cnt P k c = cnt P' k c
  | 0, _, _ => rfl
  | k + 1, c, h => by
    rw [cnt, cnt, h c (by omega) (by omega), cnt_eq (fun x h1 h2 => h x (by omega) (by omega))]
theorem cnt_one {P P' : Nat → Bool} {y : Nat} (hy : P y = false) (hy' : P' y = true) (ho : ∀ x, x ≠ y → P x = P' x) : ∀ {k c : Nat}, c ≤ y → y < c + k → cnt P' k c = cnt P k c + 1
  | 0, _, h1, h2 => absurd h2 (by omega)
  | k + 1, c, h1, h2 => by
    rw [cnt, cnt]
    rcases Nat.eq_or_lt_of_le h1 with e | e
    · subst e
      rw [hy, hy', cnt_eq (P := P') (P' := P) (fun x h3 _ => (ho x (by omega)).symm)]
      simp
      omega
    · rw [ho c (by omega), cnt_one hy hy' ho (k := k) (c := c + 1) (by omega) (by omega)]
      omega
def cvN (Z : FS) (f p rb : Nat) : Nat := cnt (cv Z f p) (rb - 2) 2
theorem cvN_le (Z : FS) (f p rb : Nat) (_ : 2 ≤ rb) : cvN Z f p rb + 2 ≤ rb := by
  have h := cnt_le (cv Z f p) (rb - 2) 2
  unfold cvN
  omega
theorem iof_iff {fF fB : Nat → Nat} {y : Nat} : ∀ {k i : Nat}, iof fF fB y k i = true ↔ ∃ g, i ≤ g ∧ g < i + k ∧ fF g ≤ y ∧ y < fF g + fB g
  | 0, i => by
    constructor
    · intro h; cases h
    · rintro ⟨g, h1, h2, -⟩; omega
  | k + 1, i => by
    rw [iof]
    split
    · rename_i h
      exact ⟨fun _ => ⟨i, Nat.le_refl _, by omega, h⟩, fun _ => rfl⟩
    · rename_i h
      rw [iof_iff (k := k) (i := i + 1)]
      constructor
      · rintro ⟨g, h1, h2, h3⟩
        exact ⟨g, by omega, by omega, h3⟩
      · rintro ⟨g, h1, h2, h3⟩
        rcases Nat.eq_or_lt_of_le h1 with e | e
        · subst e; exact absurd h3 h
        · exact ⟨g, by omega, by omega, h3⟩
theorem cv_iff {Z : FS} {f p c : Nat} : cv Z f p c = true ↔ (∃ g, g < f ∧ Z.2.1 g ≤ c ∧ c < Z.2.1 g + Z.2.2.1 g) ∨ (Z.2.1 f ≤ c ∧ c < Z.2.1 f + p) := by
  unfold cv
  rw [Bool.or_eq_true, iof_iff, decide_eq_true_eq]
  constructor
  · rintro (⟨g, h1, h2, h3⟩ | h)
    · exact Or.inl ⟨g, by omega, h3⟩
    · exact Or.inr h
  · rintro (⟨g, h1, h3⟩ | h)
    · exact Or.inl ⟨g, by omega, by omega, h3⟩
    · exact Or.inr h
theorem cvN_next (Z : FS) (f rb : Nat) : cvN Z f (Z.2.2.1 f) rb = cvN Z (f + 1) 0 rb := by
  refine cnt_eq (fun x _ _ => ?_)
  rw [Bool.eq_iff_iff, cv_iff, cv_iff]
  constructor
  · rintro (⟨g, h1, h2⟩ | h)
    · exact Or.inl ⟨g, by omega, h2⟩
    · exact Or.inl ⟨f, by omega, h⟩
  · rintro (⟨g, h1, h2⟩ | h)
    · rcases Nat.lt_succ_iff_lt_or_eq.mp h1 with q | q
      · exact Or.inl ⟨g, q, h2⟩
      · subst q; exact Or.inr h2
    · omega
theorem cvN_step {Z : FS} {n f p rb : Nat} (hF : ∀ g, g < n → 2 ≤ Z.2.1 g ∧ 1 ≤ Z.2.2.1 g ∧ 3 * Z.2.2.1 g ≤ Z.2.2.2.1 g + 2) (hN : ∀ g h, g < h → h < n → Z.2.1 g + Z.2.2.1 g ≤ Z.2.1 h ∨ Z.2.1 h + Z.2.2.1 h ≤ Z.2.1 g) (hf : f < n) (hp : p < Z.2.2.1 f) (hb : Z.2.1 f + p < rb) : cvN Z f (p + 1) rb = cvN Z f p rb + 1 := by
  have h2 := (hF f hf).1
  refine cnt_one (y := Z.2.1 f + p) ?_ ?_ ?_ (by omega) (by omega)
  · rw [Bool.eq_false_iff]
    intro q
    rcases cv_iff.mp q with ⟨g, h1, h3⟩ | h
    · rcases hN g f h1 hf with r | r <;> omega
    · omega
  · exact cv_iff.mpr (Or.inr (by omega))
  · intro x hx
    rw [Bool.eq_iff_iff, cv_iff, cv_iff]
    constructor
    · rintro (h | h)
      · exact Or.inl h
      · exact Or.inr (by omega)
    · rintro (h | h)
      · exact Or.inl h
      · exact Or.inr (by omega)
