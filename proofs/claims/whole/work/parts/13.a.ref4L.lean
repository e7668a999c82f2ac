
theorem frM_end {u : Nat → Nat} {w : Nat} : ∀ {k y r c : Nat}, r ≤ y → frM u w k y r = some c → c + w ≤ y + k
  | 0, _, _, _, _, h => by cases h
  | k + 1, y, r, c, hr, h => by
    rw [frM] at h
    have hz : (if u y = 0 then r + 1 else 0) ≤ y + 1 := by split <;> omega
    generalize (if u y = 0 then r + 1 else 0) = z at h hz
    split at h
    · have := Option.some.inj h
      omega
    · have := frM_end hz h
      omega
abbrev WQ : Type := Nat × (Nat → Nat) × Nat × (Nat → Nat)
def cqS (y z f m zl : Nat) (rk rv : Nat → Int64) (p : Nat) (Z : WQ) : WQ := (Z.1 + 1, va_up Z.2.1 Z.1 (y + p), 64 * Z.1, wfG Z.1 y p z f m zl rk rv Z.2.2.2)
def cqL (y z f m zl : Nat) (rk rv : Nat → Int64) : Nat → Nat → WQ → WQ
  | 0, _, Z => Z
  | k + 1, p, Z => cqL y z f m zl rk rv k (p + 1) (cqS y z f m zl rk rv p Z)
