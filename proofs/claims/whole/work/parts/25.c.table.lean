abbrev RecT : Type := Int64 × Int64 × Nat
def lsR (n : Nat) (k v : Nat → Int64) (q : Nat → Nat) : List RecT := (List.range n).map (fun i => (k i, v i, q i))
def keyB (x : Int64) (e : RecT) : Bool := decide (e.1 = x)
def SameF (A B : List RecT) : Prop := ∀ x, A.filter (keyB x) = B.filter (keyB x)
theorem lsR_len {n : Nat} {k v : Nat → Int64} {q : Nat → Nat} : (lsR n k v q).length = n := by simp [lsR]
theorem lsR_get {n : Nat} {k v : Nat → Int64} {q : Nat → Nat} {i : Nat} (h : i < n) : (lsR n k v q)[i]? = some (k i, v i, q i) := by
  simp [lsR, h]
theorem lsR_succ {n : Nat} {k v : Nat → Int64} {q : Nat → Nat} : lsR (n + 1) k v q = lsR n k v q ++ [(k n, v n, q n)] := by
  simp [lsR, List.range_succ]
theorem lsR_congr {n : Nat} {k v k' v' : Nat → Int64} {q q' : Nat → Nat} (h : ∀ i, i < n → k i = k' i ∧ v i = v' i ∧ q i = q' i) : lsR n k v q = lsR n k' v' q' := by
  unfold lsR
  apply List.map_congr_left
  intro i hi
  obtain ⟨h1, h2, h3⟩ := h i (List.mem_range.mp hi)
  rw [h1, h2, h3]
def Srt (n : Nat) (k : Nat → Int64) : Prop := ∀ i j, i ≤ j → j < n → k i ≤ k j
theorem SameF.count {A B : List RecT} (h : SameF A B) (e : RecT) : A.count e = B.count e := by
  have h1 : ∀ l : List RecT, l.count e = (l.filter (keyB e.1)).count e := fun l => by
    rw [List.count_filter (by simp [keyB])]
  rw [h1 A, h1 B, h e.1]
theorem SameF.perm {A B : List RecT} (h : SameF A B) : A.Perm B := List.perm_iff_count.mpr h.count
theorem SameF.len {A B : List RecT} (h : SameF A B) : A.length = B.length := h.perm.length_eq
theorem SameF.less {A B : List RecT} (h : SameF A B) (p : RecT → Bool) : A.countP p = B.countP p := h.perm.countP_eq p
theorem tup_sorted {k : Nat → Int64} {x : Int64} : ∀ {m i : Nat}, (∀ j, j < i → k j ≤ x) → (∀ j, j < tup k x m i → k j ≤ x) ∧ (tup k x m i < i + m → x < k (tup k x m i))
  | 0, i, h => ⟨h, fun q => absurd q (by rw [tup]; omega)⟩
  | m + 1, i, h => by
    rw [tup]
    split
    · rename_i c
      exact ⟨h, fun _ => c⟩
    · rename_i c
      have h2 := tup_sorted (k := k) (x := x) (m := m) (i := i + 1) (fun j hj => by
        rcases Nat.lt_succ_iff_lt_or_eq.mp hj with q | q
        · exact h j q
        · subst q; exact Int64.not_lt.mp c)
      exact ⟨h2.1, fun q => h2.2 (by omega)⟩
theorem shf_val {α : Type} : ∀ {m : Nat} {f : Nat → α} {i : Nat}, m ≤ i → ∀ j, shf m f i j = if i - m < j ∧ j ≤ i then f (j - 1) else f j
  | 0, f, i, _, j => by
    rw [shf, if_neg (by omega)]
  | m + 1, f, i, h, j => by
    rw [shf, shf_val (m := m) (by omega)]
    by_cases c : i - 1 - m < j ∧ j ≤ i - 1
    · rw [if_pos c, if_pos (by omega), va_up_ne _ _ (by omega)]
    · rw [if_neg c]
      by_cases e : j = i
      · subst e
        rw [va_up_self, if_pos (by omega)]
      · rw [va_up_ne _ _ e, if_neg (by omega)]
theorem tpl_val {α : Type} {p n : Nat} (hp : p ≤ n) {f : Nat → α} {x : α} (j : Nat) : tpl p n f x j = if j < p then f j else if j = p then x else if j ≤ n then f (j - 1) else f j := by
  unfold tpl
  by_cases e : j = p
  · subst e
    rw [va_up_self, if_neg (by omega), if_pos rfl]
  · rw [va_up_ne _ _ e, shf_val (by omega)]
    by_cases c : j < p
    · rw [if_pos c, if_neg (by omega)]
    · rw [if_neg c, if_neg e]
      by_cases c2 : j ≤ n
      · rw [if_pos c2, if_pos (by omega)]
      · rw [if_neg c2, if_neg (by omega)]
