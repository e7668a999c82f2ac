theorem tpl_lt {α : Type} {p n : Nat} (hp : p ≤ n) {f : Nat → α} {x : α} {j : Nat} (h : j < p) : tpl p n f x j = f j := by rw [tpl_val hp, if_pos h]
theorem tpl_eq {α : Type} {p n : Nat} (hp : p ≤ n) {f : Nat → α} {x : α} : tpl p n f x p = x := by rw [tpl_val hp, if_neg (Nat.lt_irrefl _), if_pos rfl]
theorem tpl_gt {α : Type} {p n : Nat} (hp : p ≤ n) {f : Nat → α} {x : α} {j : Nat} (h : p < j) (hj : j ≤ n) : tpl p n f x j = f (j - 1) := by rw [tpl_val hp, if_neg (by omega), if_neg (by omega), if_pos hj]
theorem ins_list {n p : Nat} (hp : p ≤ n) {tk tv : Nat → Int64} {ts : Nat → Nat} {k v : Int64} {q : Nat} : lsR (n + 1) (tpl p n tk k) (tpl p n tv v) (tpl p n ts q) = (lsR n tk tv ts).take p ++ (k, v, q) :: (lsR n tk tv ts).drop p := by
  apply List.ext_getElem?
  intro i
  have hl : ((lsR n tk tv ts).take p).length = p := by rw [List.length_take, lsR_len]; omega
  rcases Nat.lt_or_ge i (n + 1) with hi | hi
  · rw [lsR_get hi]
    rcases Nat.lt_trichotomy i p with c | c | c
    · rw [List.getElem?_append_left (by omega), List.getElem?_take, if_pos c, lsR_get (by omega), tpl_lt hp c, tpl_lt hp c, tpl_lt hp c]
    · subst c
      rw [List.getElem?_append_right (by omega), hl, Nat.sub_self, tpl_eq hp, tpl_eq hp, tpl_eq hp]
      rfl
    · rw [List.getElem?_append_right (by omega), hl, show i - p = (i - p - 1) + 1 by omega, List.getElem?_cons_succ, List.getElem?_drop, show p + (i - p - 1) = i - 1 by omega, lsR_get (by omega)]
      rw [tpl_gt hp c (by omega), tpl_gt hp c (by omega), tpl_gt hp c (by omega)]
  · rw [List.getElem?_eq_none (by rw [lsR_len]; exact hi), List.getElem?_eq_none (by simp only [List.length_append, List.length_cons, List.length_drop, hl, lsR_len]; omega)]
theorem same_ins {A B : List RecT} {p : Nat} {e : RecT} (h : SameF A B) (hd : ∀ a ∈ A.drop p, a.1 ≠ e.1) : SameF (A.take p ++ e :: A.drop p) (B ++ [e]) := by
  intro x
  have hA : A.filter (keyB x) = (A.take p).filter (keyB x) ++ (A.drop p).filter (keyB x) := by rw [← List.filter_append, List.take_append_drop]
  rw [List.filter_append, List.filter_cons, List.filter_append, ← h x, hA, List.filter_cons, List.filter_nil]
  by_cases c : keyB x e = true
  · have hx : e.1 = x := of_decide_eq_true c
    have h0 : (A.drop p).filter (keyB x) = [] := List.filter_eq_nil_iff.mpr (fun a ha q => hd a ha ((of_decide_eq_true q).trans hx.symm))
    rw [if_pos c, if_pos c, h0, List.append_nil]
  · rw [if_neg c, if_neg c, List.append_nil]
theorem srt_ins {n : Nat} {tk : Nat → Int64} {k : Int64} (hs : Srt n tk) : Srt (n + 1) (tpl (tup tk k n 0) n tk k) := by
  have h1 := tup_sorted (k := tk) (x := k) (m := n) (i := 0) (fun j hj => absurd hj (by omega))
  have h2 := tup_le tk k n 0
  generalize tup tk k n 0 = p at h1 h2
  intro i j hij hj
  rw [tpl_val (by omega), tpl_val (by omega)]
  by_cases c1 : j < p
  · rw [if_pos c1, if_pos (by omega)]
    exact hs i j hij (by omega)
  · rw [if_neg c1]
    by_cases c2 : j = p
    · rw [if_pos c2]
      by_cases c3 : i < p
      · rw [if_pos c3]
        exact h1.1 i c3
      · rw [if_neg c3, if_pos (by omega)]
        exact Int64.le_refl _
    · rw [if_neg c2, if_pos (show j ≤ n by omega)]
      have hgt : k < tk p := h1.2 (by omega)
      have hle : tk p ≤ tk (j - 1) := hs p (j - 1) (by omega) (by omega)
      by_cases c3 : i < p
      · rw [if_pos c3]
        exact Int64.le_trans (h1.1 i c3) (Int64.le_trans (Int64.le_of_lt hgt) hle)
      · rw [if_neg c3]
        by_cases c4 : i = p
        · rw [if_pos c4]
          exact Int64.le_trans (Int64.le_of_lt hgt) hle
        · rw [if_neg c4, if_pos (show i ≤ n by omega)]
          exact hs (i - 1) (j - 1) (by omega) (by omega)
theorem same_add {n : Nat} {tk tv rk rv : Nat → Int64} {ts sq : Nat → Nat} {k v : Int64} {q : Nat} (hs : Srt n tk) (h : SameF (lsR n tk tv ts) (lsR n rk rv sq)) :
    Srt (n + 1) (tpl (tup tk k n 0) n tk k) ∧ SameF (lsR (n + 1) (tpl (tup tk k n 0) n tk k) (tpl (tup tk k n 0) n tv v) (tpl (tup tk k n 0) n ts q)) (lsR (n + 1) (va_up rk n k) (va_up rv n v) (va_up sq n q)) := by
  refine ⟨srt_ins hs, ?_⟩
  have h1 := tup_sorted (k := tk) (x := k) (m := n) (i := 0) (fun j hj => absurd hj (by omega))
  have h2 := tup_le tk k n 0
  rw [ins_list (by omega), lsR_succ, va_up_self, va_up_self, va_up_self, lsR_congr (k' := rk) (v' := rv) (q' := sq) (fun i hi => ⟨va_up_ne _ _ (by omega), va_up_ne _ _ (by omega), va_up_ne _ _ (by omega)⟩)]
  refine same_ins h (fun a ha => ?_)
  obtain ⟨i, hi⟩ := List.getElem?_of_mem ha
  rw [List.getElem?_drop] at hi
  generalize tup tk k n 0 = p at h1 h2 hi
  have hin : p + i < n := by
    rcases Nat.lt_or_ge (p + i) n with q1 | q1
    · exact q1
    · rw [List.getElem?_eq_none (by rw [lsR_len]; exact q1)] at hi
      cases hi
  rw [lsR_get hin] at hi
  have e := Option.some.inj hi
  rw [← e]
  intro q1
  have q2 : tk (p + i) = k := q1
  have hgt : k < tk p := h1.2 (by omega)
  have hle : tk p ≤ tk (p + i) := hs p (p + i) (by omega) hin
  rw [q2] at hle
  exact absurd hgt (Int64.not_lt.mpr hle)
theorem tbe_sorted {k : Nat → Int64} {x : Int64} : ∀ {m i : Nat}, (∀ j, j < i → k j < x) → (∀ j, j < tbe k x m i → k j < x) ∧ (tbe k x m i < i + m → x ≤ k (tbe k x m i))
  | 0, i, h => ⟨h, fun q => absurd q (by rw [tbe]; omega)⟩
  | m + 1, i, h => by
    rw [tbe]
    split
    · rename_i c
      exact ⟨h, fun _ => c⟩
    · rename_i c
      have h2 := tbe_sorted (k := k) (x := x) (m := m) (i := i + 1) (fun j hj => by
        rcases Nat.lt_succ_iff_lt_or_eq.mp hj with q | q
        · exact h j q
        · subst q; exact Int64.not_le.mp c)
      exact ⟨h2.1, fun q => h2.2 (by omega)⟩
theorem gtM_fold {k v : Nat → Int64} {q : Nat → Nat} {x : Int64} : ∀ {m i : Nat} {a : Int64}, gtM k v x m i a = ((List.range' i m).map (fun j => ((k j, v j, q j) : RecT))).foldl (fun a e => if e.1 = x then e.2.1 else a) a
  | 0, _, _ => rfl
  | m + 1, i, a => by
    rw [gtM, List.range'_succ, List.map_cons, List.foldl_cons, gtM_fold (q := q) (m := m)]
theorem fold_filter {x : Int64} : ∀ {l : List RecT} {a : Int64}, l.foldl (fun a e => if e.1 = x then e.2.1 else a) a = (l.filter (keyB x)).foldl (fun _ e => e.2.1) a
  | [], _ => rfl
  | e :: l, a => by
    rw [List.foldl_cons, List.filter_cons]
    by_cases c : e.1 = x
    · rw [if_pos c, if_pos (show keyB x e = true from decide_eq_true c), List.foldl_cons]
      exact fold_filter
    · rw [if_neg c, if_neg (by simp [keyB, c])]
      exact fold_filter
theorem gtM_same {n : Nat} {tk tv rk rv : Nat → Int64} {ts sq : Nat → Nat} {x a : Int64} (h : SameF (lsR n tk tv ts) (lsR n rk rv sq)) : gtM rk rv x n 0 a = gtM tk tv x n 0 a := by
  rw [gtM_fold (q := sq), gtM_fold (q := ts), ← List.range_eq_range']
  show (lsR n rk rv sq).foldl _ _ = (lsR n tk tv ts).foldl _ _
  rw [fold_filter, fold_filter, h x]
theorem gtM_none {k v : Nat → Int64} {x : Int64} : ∀ {m i : Nat} {a : Int64}, (∀ j, i ≤ j → j < i + m → k j ≠ x) → gtM k v x m i a = a
  | 0, _, _, _ => rfl
  | m + 1, i, a, h => by
    rw [gtM, if_neg (h i (by omega) (by omega))]
    exact gtM_none (fun j h1 h2 => h j (by omega) (by omega))
theorem gtM_add {k v : Nat → Int64} {x : Int64} : ∀ {m1 m2 i : Nat} {a : Int64}, gtM k v x (m1 + m2) i a = gtM k v x m2 (i + m1) (gtM k v x m1 i a)
  | 0, m2, i, a => by rw [Nat.zero_add]; rfl
  | m1 + 1, m2, i, a => by
    rw [show m1 + 1 + m2 = (m1 + m2) + 1 by omega, gtM, gtM, gtM_add (m1 := m1), show i + (m1 + 1) = i + 1 + m1 by omega]
theorem gtM_sorted {n : Nat} {tk tv : Nat → Int64} {x : Int64} (hs : Srt n tk) : gtM tk tv x n 0 (lN 0) = if tup tk x n 0 ≤ tbe tk x n 0 then lN 0 else tv (tup tk x n 0 - 1) := by
  have h1 := tup_sorted (k := tk) (x := x) (m := n) (i := 0) (fun j hj => absurd hj (by omega))
  have h2 := tup_le tk x n 0
  have b1 := tbe_sorted (k := tk) (x := x) (m := n) (i := 0) (fun j hj => absurd hj (by omega))
  have b2 := tbe_le tk x n 0
  generalize tup tk x n 0 = p at h1 h2
  generalize tbe tk x n 0 = b at b1 b2
  have above : ∀ j, p ≤ j → j < n → tk j ≠ x := fun j q1 q2 e => by
    have g1 : x < tk p := h1.2 (by omega)
    have g2 : tk p ≤ tk j := hs p j q1 q2
    rw [e] at g2
    exact absurd g1 (Int64.not_lt.mpr g2)
  split
  · rename_i c
    refine gtM_none (fun j _ q2 => ?_)
    rcases Nat.lt_or_ge j b with q | q
    · exact fun e => absurd (b1.1 j q) (by rw [e]; exact fun z => Int64.lt_irrefl z)
    · exact above j (by omega) (by omega)
  · rename_i c
    have hin : tk (p - 1) = x := by
      have g1 : tk (p - 1) ≤ x := h1.1 (p - 1) (by omega)
      have g2 : x ≤ tk b := b1.2 (by omega)
      have g3 : tk b ≤ tk (p - 1) := hs b (p - 1) (by omega) (by omega)
      exact Int64.le_antisymm g1 (Int64.le_trans g2 g3)
    rw [show n = (p - 1) + (1 + (n - p)) by omega, gtM_add, gtM_add]
    rw [gtM_none (m := n - p) (fun j q1 q2 => above j (by omega) (by omega))]
    show (if tk (0 + (p - 1)) = x then tv (0 + (p - 1)) else _) = _
    rw [Nat.zero_add, if_pos hin]
theorem tmM_add0 {k : Nat → Int64} {x : Int64} : ∀ {m i a : Nat}, tmM k x m i a = a + tmM k x m i 0
  | 0, _, _ => rfl
  | m + 1, i, a => by
    rw [tmM, tmM, tmM_add0 (a := a + _), tmM_add0 (a := 0 + _)]
    omega
theorem tmM_cnt {k v : Nat → Int64} {q : Nat → Nat} {x : Int64} : ∀ {m i : Nat}, tmM k x m i 0 = (((List.range' i m).map (fun j => ((k j, v j, q j) : RecT))).filter (keyB x)).length
  | 0, _ => rfl
  | m + 1, i => by
    rw [tmM, List.range'_succ, List.map_cons, List.filter_cons, tmM_add0, tmM_cnt (v := v) (q := q) (m := m)]
    by_cases c : k i = x
    · rw [if_pos c, if_pos (show keyB x (k i, v i, q i) = true from decide_eq_true c), List.length_cons]
      omega
    · rw [if_neg c, if_neg (by simp [keyB, c])]
      omega
theorem tmM_same {n : Nat} {tk tv rk rv : Nat → Int64} {ts sq : Nat → Nat} {x : Int64} (h : SameF (lsR n tk tv ts) (lsR n rk rv sq)) : tmM rk x n 0 0 = tmM tk x n 0 0 := by
  rw [tmM_cnt (v := rv) (q := sq), tmM_cnt (v := tv) (q := ts), ← List.range_eq_range']
  show ((lsR n rk rv sq).filter _).length = ((lsR n tk tv ts).filter _).length
  rw [h x]
theorem tmM_none {k : Nat → Int64} {x : Int64} : ∀ {m i a : Nat}, (∀ j, i ≤ j → j < i + m → k j ≠ x) → tmM k x m i a = a
  | 0, _, _, _ => rfl
  | m + 1, i, a, h => by
    rw [tmM, if_neg (h i (by omega) (by omega)), Nat.add_zero]
    exact tmM_none (fun j h1 h2 => h j (by omega) (by omega))
theorem tmM_all {k : Nat → Int64} {x : Int64} : ∀ {m i a : Nat}, (∀ j, i ≤ j → j < i + m → k j = x) → tmM k x m i a = a + m
  | 0, _, _, _ => rfl
  | m + 1, i, a, h => by
    rw [tmM, if_pos (h i (by omega) (by omega)), tmM_all (m := m) (fun j h1 h2 => h j (by omega) (by omega))]
    omega
theorem tmM_split {k : Nat → Int64} {x : Int64} : ∀ {m1 m2 i a : Nat}, tmM k x (m1 + m2) i a = tmM k x m2 (i + m1) (tmM k x m1 i a)
  | 0, m2, i, a => by rw [Nat.zero_add]; rfl
  | m1 + 1, m2, i, a => by
    rw [show m1 + 1 + m2 = (m1 + m2) + 1 by omega, tmM, tmM, tmM_split (m1 := m1), show i + (m1 + 1) = i + 1 + m1 by omega]
theorem tmM_sorted {n : Nat} {tk : Nat → Int64} {x : Int64} (hs : Srt n tk) : tbe tk x n 0 ≤ tup tk x n 0 ∧ tmM tk x n 0 0 = tup tk x n 0 - tbe tk x n 0 := by
  have h1 := tup_sorted (k := tk) (x := x) (m := n) (i := 0) (fun j hj => absurd hj (by omega))
  have h2 := tup_le tk x n 0
  have b1 := tbe_sorted (k := tk) (x := x) (m := n) (i := 0) (fun j hj => absurd hj (by omega))
  have b2 := tbe_le tk x n 0
  generalize tup tk x n 0 = p at h1 h2
  generalize tbe tk x n 0 = b at b1 b2
  have hbp : b ≤ p := by
    rcases Nat.lt_or_ge p b with q | q
    · have g1 := b1.1 p q
      have g2 : x < tk p := h1.2 (by omega)
      exact absurd (Int64.lt_trans g1 g2) (fun z => Int64.lt_irrefl z)
    · exact q
  refine ⟨hbp, ?_⟩
  have low : ∀ j, 0 ≤ j → j < 0 + b → tk j ≠ x := fun j _ q e => absurd (b1.1 j (by omega)) (by rw [e]; exact fun z => Int64.lt_irrefl z)
  have mid : ∀ j, 0 + b ≤ j → j < 0 + b + (p - b) → tk j = x := fun j q1 q2 => by
    have g1 : tk j ≤ x := h1.1 j (by omega)
    have g2 : x ≤ tk b := b1.2 (by omega)
    have g3 : tk b ≤ tk j := hs b j (by omega) (by omega)
    exact Int64.le_antisymm g1 (Int64.le_trans g2 g3)
  have above : ∀ j, 0 + b + (p - b) ≤ j → j < 0 + b + (p - b) + (n - p) → tk j ≠ x := fun j q1 q2 e => by
    have g1 : x < tk p := h1.2 (by omega)
    have g2 : tk p ≤ tk j := hs p j (by omega) (by omega)
    rw [e] at g2
    exact absurd g1 (Int64.not_lt.mpr g2)
  rw [show n = b + ((p - b) + (n - p)) by omega, tmM_split, tmM_split, tmM_none low, tmM_all mid, tmM_none above]
  omega
