def lessB (x : Int64) (e : RecT) : Bool := decide (e.1 < x)
theorem less_step {x y : Int64} (h : x < y) : ∀ (l : List RecT), l.countP (lessB x) + (l.filter (keyB x)).length ≤ l.countP (lessB y)
  | [] => by simp
  | e :: l => by
    have ih := less_step h l
    rw [List.countP_cons, List.countP_cons, List.filter_cons]
    by_cases c : e.1 = x
    · have k1 : keyB x e = true := decide_eq_true c
      have k2 : lessB y e = true := decide_eq_true (by rw [c]; exact h)
      have k3 : ¬ lessB x e = true := fun q => by
        have z : e.1 < x := of_decide_eq_true q
        rw [c] at z
        exact Int64.lt_irrefl z
      rw [if_pos k1, if_pos k2, if_neg k3, List.length_cons]
      omega
    · have k1 : ¬ keyB x e = true := fun q => c (of_decide_eq_true q)
      rw [if_neg k1]
      by_cases c2 : lessB x e = true
      · have k2 : lessB y e = true := decide_eq_true (Int64.lt_trans (of_decide_eq_true c2) h)
        rw [if_pos c2, if_pos k2]
        omega
      · rw [if_neg c2]
        omega
theorem filter_at {x : Int64} {l : List RecT} {k : Nat} {e : RecT} (h : l[k]? = some e) (hx : e.1 = x) : (l.filter (keyB x))[((l.take k).filter (keyB x)).length]? = some e := by
  have hk : k < l.length := (List.getElem?_eq_some_iff.mp h).1
  have he : l[k] = e := (List.getElem?_eq_some_iff.mp h).2
  have hl : l = l.take k ++ e :: l.drop (k + 1) := by
    rw [← he, List.getElem_cons_drop, List.take_append_drop]
  conv => lhs; arg 1; rw [hl]
  rw [List.filter_append, List.filter_cons, if_pos (show keyB x e = true from decide_eq_true hx), List.getElem?_append_right (Nat.le_refl _), Nat.sub_self]
  rfl
theorem filter_nth {x : Int64} : ∀ {l : List RecT} {m : Nat}, m < (l.filter (keyB x)).length → ∃ (k : Nat) (e : RecT), l[k]? = some e ∧ e.1 = x ∧ ((l.take k).filter (keyB x)).length = m
  | [], m, h => absurd h (by simp)
  | a :: l, m, h => by
    rw [List.filter_cons] at h
    by_cases c : keyB x a = true
    · rw [if_pos c, List.length_cons] at h
      cases m with
      | zero => exact ⟨0, a, rfl, of_decide_eq_true c, rfl⟩
      | succ m =>
        obtain ⟨k, e, h1, h2, h3⟩ := filter_nth (x := x) (l := l) (m := m) (by omega)
        exact ⟨k + 1, e, h1, h2, by rw [List.take_succ_cons, List.filter_cons, if_pos c, List.length_cons, h3]⟩
    · rw [if_neg c] at h
      obtain ⟨k, e, h1, h2, h3⟩ := filter_nth (x := x) (l := l) (m := m) h
      exact ⟨k + 1, e, h1, h2, by rw [List.take_succ_cons, List.filter_cons, if_neg c, h3]⟩
theorem i64_tri (a b : Int64) : a < b ∨ a = b ∨ b < a := by
  by_cases h : a = b
  · exact Or.inr (Or.inl h)
  · by_cases h2 : a < b
    · exact Or.inl h2
    · exact Or.inr (Or.inr (Int64.lt_of_le_of_ne (Int64.not_lt.mp h2) (fun e => h e.symm)))
def rnk (l : List RecT) (k : Nat) (x : Int64) : Nat := l.countP (lessB x) + ((l.take k).filter (keyB x)).length
theorem rnk_same {A B : List RecT} (h : SameF A B) {i k : Nat} {a b : RecT} (ha : A[i]? = some a) (hb : B[k]? = some b) (he : rnk A i a.1 = rnk B k b.1) : a = b := by
  have fa := filter_at ha rfl
  have fb := filter_at hb rfl
  have la := (List.getElem?_eq_some_iff.mp fa).1
  have lb := (List.getElem?_eq_some_iff.mp fb).1
  unfold rnk at he
  rw [h.less (lessB a.1)] at he
  have e1 : a.1 = b.1 := by
    rcases i64_tri a.1 b.1 with q | q | q
    · have s := less_step q B
      rw [h a.1] at la
      omega
    · exact q
    · have s := less_step q B
      omega
  rw [e1] at he fa
  have e2 : ((A.take i).filter (keyB b.1)).length = ((B.take k).filter (keyB b.1)).length := by omega
  rw [h b.1, e2, fb] at fa
  exact (Option.some.inj fa).symm
theorem rnk_ex {A B : List RecT} (h : SameF A B) {i : Nat} {a : RecT} (ha : A[i]? = some a) : ∃ (k : Nat) (b : RecT), B[k]? = some b ∧ rnk B k b.1 = rnk A i a.1 := by
  have fa := filter_at ha rfl
  have la := (List.getElem?_eq_some_iff.mp fa).1
  rw [h a.1] at la
  obtain ⟨k, b, h1, h2, h3⟩ := filter_nth la
  exact ⟨k, b, h1, by rw [rnk, rnk, h2, h3, h.less (lessB a.1)]⟩
theorem bfM_add0 {k : Nat → Int64} {j0 : Nat} : ∀ {m i a : Nat}, bfM k j0 m i a = a + bfM k j0 m i 0
  | 0, _, _ => rfl
  | m + 1, i, a => by
    rw [bfM, bfM, bfM_add0 (a := a + _), bfM_add0 (a := 0 + _)]
    omega
theorem bfM_rnk {k v : Nat → Int64} {q : Nat → Nat} {j0 : Nat} : ∀ {m i : Nat}, bfM k j0 m i 0 = ((List.range' i m).map (fun j => ((k j, v j, q j) : RecT))).countP (lessB (k j0)) + (((List.range' i (min m (j0 - i))).map (fun j => ((k j, v j, q j) : RecT))).filter (keyB (k j0))).length
  | 0, i => by
    rw [Nat.zero_min]
    rfl
  | m + 1, i => by
    rw [bfM, bfM_add0, bfM_rnk (v := v) (q := q) (m := m) (i := i + 1), List.range'_succ, List.map_cons, List.countP_cons]
    by_cases c : i < j0
    · rw [show min (m + 1) (j0 - i) = min m (j0 - (i + 1)) + 1 by omega, List.range'_succ, List.map_cons, List.filter_cons]
      by_cases c1 : k i < k j0
      · have k1 : lessB (k j0) (k i, v i, q i) = true := decide_eq_true c1
        have k2 : ¬ keyB (k j0) (k i, v i, q i) = true := fun z => Int64.lt_irrefl ((show k i = k j0 from of_decide_eq_true z) ▸ c1)
        rw [if_pos (Or.inl c1), if_pos k1, if_neg k2]
        omega
      · have k1 : ¬ lessB (k j0) (k i, v i, q i) = true := fun z => c1 (of_decide_eq_true z)
        rw [if_neg k1]
        by_cases c2 : k i = k j0
        · have k2 : keyB (k j0) (k i, v i, q i) = true := decide_eq_true c2
          rw [if_pos (Or.inr ⟨c2, c⟩), if_pos k2, List.length_cons]
          omega
        · have k2 : ¬ keyB (k j0) (k i, v i, q i) = true := fun z => c2 (of_decide_eq_true z)
          rw [if_neg (fun z => z.elim c1 (fun w => c2 w.1)), if_neg k2]
          omega
    · rw [show min (m + 1) (j0 - i) = 0 by omega, show min m (j0 - (i + 1)) = 0 by omega]
      show _ + (_ + 0) = _ + 0
      by_cases c1 : k i < k j0
      · have k1 : lessB (k j0) (k i, v i, q i) = true := decide_eq_true c1
        rw [if_pos (Or.inl c1), if_pos k1]
        omega
      · have k1 : ¬ lessB (k j0) (k i, v i, q i) = true := fun z => c1 (of_decide_eq_true z)
        rw [if_neg (fun z => z.elim c1 (fun w => c w.2)), if_neg k1]
        omega
theorem bfM_at {n : Nat} {k v : Nat → Int64} {q : Nat → Nat} {j : Nat} (hj : j < n) : bfM k j n 0 0 = rnk (lsR n k v q) j (k j) := by
  rw [bfM_rnk (v := v) (q := q), rnk, lsR, ← List.map_take, List.take_range, List.range_eq_range', List.range_eq_range', Nat.sub_zero, Nat.min_comm]
theorem bfM_sorted {n : Nat} {k : Nat → Int64} (hs : Srt n k) {j0 : Nat} (hj : j0 < n) : ∀ {m i a : Nat}, i + m = n → bfM k j0 m i a = a + (j0 - i)
  | 0, i, a, h => by
    rw [bfM]
    omega
  | m + 1, i, a, h => by
    rw [bfM, bfM_sorted hs hj (m := m) (by omega)]
    by_cases c : i < j0
    · have hle : k i ≤ k j0 := hs i j0 (by omega) hj
      have hh : k i < k j0 ∨ k i = k j0 ∧ i < j0 := by
        by_cases e : k i = k j0
        · exact Or.inr ⟨e, c⟩
        · exact Or.inl (Int64.lt_of_le_of_ne hle e)
      rw [if_pos hh]
      omega
    · have hle : k j0 ≤ k i := hs j0 i (by omega) (by omega)
      have hh : ¬ (k i < k j0 ∨ k i = k j0 ∧ i < j0) := fun z => z.elim (fun w => absurd w (Int64.not_lt.mpr hle)) (fun w => c w.2)
      rw [if_neg hh]
      omega
theorem rcO_some {rk : Nat → Int64} {rn i : Nat} : ∀ {m k k0 : Nat}, k ≤ k0 → k0 < k + m → bfM rk k0 rn 0 0 = i → ∃ k1, rcO rk rn i m k = some k1 ∧ k1 < k + m ∧ bfM rk k1 rn 0 0 = i
  | 0, _, _, h1, h2, _ => absurd h2 (by omega)
  | m + 1, k, k0, h1, h2, h3 => by
    rw [rcO]
    split
    · rename_i c
      exact ⟨k, rfl, by omega, c⟩
    · rename_i c
      have hk : k + 1 ≤ k0 := by
        rcases Nat.eq_or_lt_of_le h1 with e | e
        · subst e; exact absurd h3 c
        · exact e
      obtain ⟨k1, q1, q2, q3⟩ := rcO_some (m := m) hk (by omega) h3
      exact ⟨k1, q1, by omega, q3⟩
theorem rec_at {n : Nat} {tk tv rk rv : Nat → Int64} {ts sq : Nat → Nat} (hs : Srt n tk) (h : SameF (lsR n tk tv ts) (lsR n rk rv sq)) {i : Nat} (hi : i < n) :
    ∃ k, rcO rk n i n 0 = some k ∧ k < n ∧ rk k = tk i ∧ rv k = tv i ∧ sq k = ts i := by
  have ha : (lsR n tk tv ts)[i]? = some (tk i, tv i, ts i) := lsR_get hi
  have hr : rnk (lsR n tk tv ts) i (tk i) = i := by
    rw [← bfM_at hi, bfM_sorted hs hi (by omega)]
    omega
  obtain ⟨k0, b, hb, he⟩ := rnk_ex h ha
  have hk0 : k0 < n := by
    have := (List.getElem?_eq_some_iff.mp hb).1
    rwa [lsR_len] at this
  rw [lsR_get hk0] at hb
  have eb := Option.some.inj hb
  subst eb
  have he2 : bfM rk k0 n 0 0 = i := by
    rw [bfM_at (v := rv) (q := sq) hk0]
    exact he.trans hr
  obtain ⟨k1, q1, q2, q3⟩ := rcO_some (m := n) (k := 0) (Nat.zero_le _) (by omega) he2
  have hk1 : k1 < n := by omega
  have e := rnk_same h ha (lsR_get hk1) (by rw [← bfM_at hk1, q3]; exact hr)
  exact ⟨k1, q1, hk1, (congrArg (·.1) e).symm, (congrArg (·.2.1) e).symm, (congrArg (·.2.2) e).symm⟩
