theorem ulr_frM {ug u : Nat → Nat} {w : Nat} : ∀ {k y r : Nat}, r < w → (∀ x, y ≤ x → x < y + k → ug x = u x) → ulr ug w k y r = frM u w k y r
  | 0, _, _, _, _ => rfl
  | k + 1, y, r, hr, h => by
    rw [ulr, frM, h y (by omega) (by omega)]
    have hz : (if u y = 0 then r + 1 else 0) ≤ w := by split <;> omega
    generalize (if u y = 0 then r + 1 else 0) = z at hz
    by_cases c : w ≤ z
    · rw [if_pos c, if_pos (by omega)]
    · rw [if_neg c, if_neg (by omega)]
      exact ulr_frM (by omega) (fun x h1 h2 => h x (by omega) (by omega))
theorem ulr_heads {ug u : Nat → Nat} {w n : Nat} (hw : 0 < w) (hn : 2 ≤ n) (h0 : ug 0 ≠ 0) (h1 : ug 1 ≠ 0) (h : ∀ x, 2 ≤ x → x < n → ug x = u x) : ulr ug w n 0 0 = frM u w (n - 2) 2 0 := by
  rw [show n = (n - 2) + 1 + 1 by omega, ulr, if_neg h0, if_neg (by omega), ulr, if_neg h1, if_neg (by omega), show n - 2 + 1 + 1 - 2 = n - 2 by omega]
  exact ulr_frM hw (fun x q1 q2 => h x q1 (by omega))
theorem uhm_add {x : Nat} {u : Nat → Nat} : ∀ {k b r : Nat}, uhm x u k b r = r + uhm x u k b 0
  | 0, _, _ => rfl
  | k + 1, b, r => by
    rw [uhm, uhm]
    split
    · rw [uhm_add (r := r + 1), uhm_add (r := 0 + 1)]
      omega
    · exact uhm_add
theorem uhm_fcM {ug u : Nat → Nat} : ∀ {k y r : Nat}, (∀ x, y ≤ x → x < y + k → ug x = u x) → uhm 0 ug k y r = fcM u k y r
  | 0, _, _, _ => rfl
  | k + 1, y, r, h => by
    rw [uhm, fcM, h y (by omega) (by omega)]
    have e : (if u y = 0 then r + 1 else r) = r + if u y = 0 then 1 else 0 := by split <;> rfl
    rw [e]
    exact uhm_fcM (fun x h1 h2 => h x (by omega) (by omega))
theorem uhm_heads {ug u : Nat → Nat} {n : Nat} (hn : 2 ≤ n) (h0 : ug 0 ≠ 0) (h1 : ug 1 ≠ 0) (h : ∀ x, 2 ≤ x → x < n → ug x = u x) : uhm 0 ug n 0 0 = fcM u (n - 2) 2 0 := by
  rw [show n = (n - 2) + 1 + 1 by omega, uhm, if_neg h0, uhm, if_neg h1, show n - 2 + 1 + 1 - 2 = n - 2 by omega]
  exact uhm_fcM (fun x q1 q2 => h x q1 (by omega))
theorem qhol_iff {t : Nat → Nat} {x : Nat} : ∀ {k i : Nat}, qhol t x k i = true ↔ ∃ j, i ≤ j ∧ j < i + k ∧ t j = x
  | 0, i => by
    constructor
    · intro h; cases h
    · rintro ⟨j, h1, h2, -⟩; omega
  | k + 1, i => by
    rw [qhol]
    split
    · rename_i h
      exact ⟨fun _ => ⟨i, Nat.le_refl _, by omega, h⟩, fun _ => rfl⟩
    · rename_i h
      rw [qhol_iff (k := k) (i := i + 1)]
      constructor
      · rintro ⟨j, h1, h2, h3⟩
        exact ⟨j, by omega, by omega, h3⟩
      · rintro ⟨j, h1, h2, h3⟩
        rcases Nat.eq_or_lt_of_le h1 with e | e
        · subst e; exact absurd h3 h
        · exact ⟨j, by omega, by omega, h3⟩
theorem qhol_congr {t t' : Nat → Nat} {x : Nat} : ∀ {k i : Nat}, (∀ j, i ≤ j → j < i + k → t j = t' j) → qhol t x k i = qhol t' x k i
  | 0, _, _ => rfl
  | k + 1, i, h => by
    rw [qhol, qhol, h i (by omega) (by omega), qhol_congr (k := k) (fun j h1 h2 => h j (by omega) (by omega))]
theorem umk_val {n f v : Nat} : ∀ {k : Nat} {u : Nat → Nat} {i : Nat}, ∀ j, umk n f v k u i j = if f + i ≤ j ∧ j < f + i + k ∧ j < n then v else u j
  | 0, u, i, j => by
    rw [umk, if_neg (by omega)]
  | k + 1, u, i, j => by
    rw [umk, umk_val (k := k)]
    by_cases c1 : f + (i + 1) ≤ j ∧ j < f + (i + 1) + k ∧ j < n
    · rw [if_pos c1, if_pos (by omega)]
    · rw [if_neg c1]
      by_cases c2 : f + i < n
      · rw [if_pos c2]
        unfold va_up
        split
        · rw [if_pos (by omega)]
        · rw [if_neg (by omega)]
      · rw [if_neg c2, if_neg (by omega)]
theorem utn_val {x y : Nat} : ∀ {k : Nat} {u : Nat → Nat} {b : Nat}, ∀ j, utn x y k u b j = if b ≤ j ∧ j < b + k ∧ u j = x then y else u j
  | 0, u, b, j => by
    rw [utn, if_neg (by omega)]
  | k + 1, u, b, j => by
    rw [utn, utn_val (k := k)]
    by_cases e : j = b
    · subst e
      rw [if_neg (by omega)]
      by_cases c : u j = x
      · rw [if_pos c, va_up_self, if_pos (by omega)]
      · rw [if_neg c, if_neg (by omega)]
    · have h : (if u b = x then va_up u b y else u) j = u j := by
        split
        · exact va_up_ne _ _ e
        · rfl
      rw [h]
      by_cases c : b + 1 ≤ j ∧ j < b + 1 + k ∧ u j = x
      · rw [if_pos c, if_pos (by omega)]
      · rw [if_neg c, if_neg (by omega)]
theorem uclr_val {n : Nat} {u : Nat → Nat} (hn : 2 ≤ n) {j : Nat} (hj : j < n) : uclr n u j = if j < 2 then 3 else 0 := by
  rw [uclr, umk_val, umk_val]
  by_cases c : j < 2
  · rw [if_pos (by omega), if_pos c]
  · rw [if_neg (by omega), if_pos (by omega), if_neg c]
theorem usM_mark {rf : Nat} {fF fB : Nat → Nat} {rl : Nat} {lB : Nat → Nat} {y x : Nat} (hx : usM rf fF fB rl lB y = 0) : usM rf fF fB (rl + 1) (va_up lB rl y) x = if x = y then 1 else usM rf fF fB rl lB x := by
  have hq : qhol (va_up lB rl y) x (rl + 1) 0 = (decide (x = y) || qhol lB x rl 0) := by
    rw [Bool.eq_iff_iff, Bool.or_eq_true, qhol_iff, qhol_iff, decide_eq_true_eq]
    constructor
    · rintro ⟨j, h1, h2, h3⟩
      by_cases e : j = rl
      · subst e
        rw [va_up_self] at h3
        exact Or.inl h3.symm
      · rw [va_up_ne _ _ e] at h3
        exact Or.inr ⟨j, h1, by omega, h3⟩
    · rintro (h | ⟨j, h1, h2, h3⟩)
      · exact ⟨rl, by omega, by omega, by rw [va_up_self, h]⟩
      · exact ⟨j, h1, by omega, by rw [va_up_ne _ _ (by omega)]; exact h3⟩
  by_cases e : x = y
  · subst e
    rw [if_pos rfl]
    unfold usM at hx ⊢
    by_cases c1 : x < 2
    · rw [if_pos c1] at hx
      omega
    · rw [if_neg c1] at hx ⊢
      by_cases c2 : iof fF fB x rf 0 = true
      · rw [if_pos c2] at hx
        omega
      · rw [if_neg c2, hq]
        simp
  · rw [if_neg e]
    unfold usM
    rw [hq]
    simp [e]
