def z0 (e : RecT) : RecT := (e.1, e.2.1, 0)
def pwK (l : List RecT) : Prop := l.Pairwise (fun a b => a.1 ≤ b.1)
theorem filter_z0 {x : Int64} {l : List RecT} : (l.map z0).filter (keyB x) = (l.filter (keyB x)).map z0 := by
  rw [List.filter_map]
  rfl
theorem lsR_of (A : List RecT) : ∃ (k v : Nat → Int64) (q : Nat → Nat), A = lsR A.length k v q := by
  refine ⟨fun i => (A[i]?.getD (0, 0, 0)).1, fun i => (A[i]?.getD (0, 0, 0)).2.1, fun i => (A[i]?.getD (0, 0, 0)).2.2, ?_⟩
  apply List.ext_getElem?
  intro i
  rcases Nat.lt_or_ge i A.length with h | h
  · rw [lsR_get h, List.getElem?_eq_getElem h]
    rfl
  · rw [List.getElem?_eq_none h, List.getElem?_eq_none (by rw [lsR_len]; exact h)]
theorem pwK_srt {n : Nat} {k v : Nat → Int64} {q : Nat → Nat} : pwK (lsR n k v q) ↔ Srt n k := by
  unfold pwK
  rw [List.pairwise_iff_getElem]
  constructor
  · intro h i j hij hj
    rcases Nat.eq_or_lt_of_le hij with e | e
    · subst e; exact Int64.le_refl _
    · have z := h i j (by rw [lsR_len]; omega) (by rw [lsR_len]; omega) e
      simpa [lsR] using z
  · intro h i j hi hj hij
    rw [lsR_len] at hi hj
    simpa [lsR] using h i j (by omega) hj
theorem sorted_unique {A B : List RecT} (hA : pwK A) (hB : pwK B) (h : SameF A B) : A = B := by
  have hl := h.len
  obtain ⟨k, v, q, e⟩ := lsR_of A
  obtain ⟨k', v', q', e'⟩ := lsR_of B
  rw [← hl] at e'
  generalize A.length = n at e e'
  subst e
  subst e'
  have z := same_sorted (pwK_srt.mp hA) (pwK_srt.mp hB) h
  exact lsR_congr z
theorem pwK_filter {l : List RecT} (p : RecT → Bool) (h : pwK l) : pwK (l.filter p) := List.Pairwise.filter p h
theorem pwK_z0 {l : List RecT} (h : pwK l) : pwK (l.map z0) := by
  unfold pwK at h ⊢
  rw [List.pairwise_map]
  exact h
theorem slc_list {mg : Bool} {tk tv : Nat → Int64} {ts : Nat → Nat} : ∀ {k i : Nat}, slc mg tk tv ts k i = (((List.range' i k).map (fun j => ((tk j, tv j, ts j) : RecT))).filter (fun e => mg || decide (e.2.2 ≠ 0))).map (fun e => (e.1, e.2.1))
  | 0, _ => rfl
  | k + 1, i => by
    rw [slc, List.range'_succ, List.map_cons, List.filter_cons, slc_list (k := k)]
    by_cases c : mg = true ∨ ts i ≠ 0
    · have d : (mg || decide (ts i ≠ 0)) = true := by
        rcases c with c | c
        · rw [c]; rfl
        · rw [decide_eq_true c, Bool.or_true]
      rw [if_pos c, if_pos d]
      rfl
    · have d : ¬ (mg || decide (ts i ≠ 0)) = true := fun z => by
        rcases (Bool.or_eq_true _ _).mp z with z | z
        · exact c (Or.inl z)
        · exact c (Or.inr (of_decide_eq_true z))
      rw [if_neg c, if_neg d]
theorem sel_all {n : Nat} {tk tv rk rv : Nat → Int64} {ts sq : Nat → Nat} {K : (Nat → Int64) × (Nat → Int64)} (hn : 0 < n) (hs : Srt n tk) (h : SameF (lsR n tk tv ts) (lsR n rk rv sq)) (hK : srO 0 (n - (0 + 1)) (0 + 1) (rk, rv) = K) :
    slc true tk tv ts n 0 = (List.range' 0 n).map (fun i => (K.1 (0 + i), K.2 (0 + i))) := by
  have hO := srO_spec (f := 0) (rk := rk) (rv := rv) (m := n - (0 + 1)) (c := 0 + 1) (Z := (rk, rv)) (by omega) (fun i j h1 h2 => by rw [show i = 0 by omega, show j = 0 by omega]; exact Int64.le_refl _) (fun _ => rfl) (fun _ _ => ⟨rfl, rfl⟩)
  rw [hK, show 0 + 1 + (n - (0 + 1)) - 0 = n by omega] at hO
  obtain ⟨o1, o2, -⟩ := hO
  have e : (lsR n tk tv ts).map z0 = sg 0 n K.1 K.2 := by
    refine sorted_unique (pwK_z0 (pwK_srt.mpr hs)) (pwK_srt.mpr o1) (fun x => ?_)
    rw [filter_z0, h x, ← filter_z0, o2 x]
    have e2 : (lsR n rk rv sq).map z0 = sg 0 n rk rv := by
      unfold sg lsR
      rw [List.map_map]
      apply List.map_congr_left
      intro i _
      show (rk i, rv i, 0) = (rk (0 + i), rv (0 + i), 0)
      rw [Nat.zero_add]
    rw [e2]
  have e3 := congrArg (List.map (fun e : RecT => (e.1, e.2.1))) e
  rw [slc_list, show ∀ l : List RecT, l.filter (fun e => true || decide (e.2.2 ≠ 0)) = l from fun l => List.filter_eq_self.mpr (fun a _ => rfl)]
  unfold sg lsR at e3
  rw [List.map_map, List.map_map, List.map_map, List.range_eq_range'] at e3
  rw [List.map_map]
  exact e3
theorem sel_loose {n f : Nat} {tk tv rk rv : Nat → Int64} {ts sq : Nat → Nat} {K : (Nat → Int64) × (Nat → Int64)} (hn : f < n) (hs : Srt n tk) (h : SameF (lsR n tk tv ts) (lsR n rk rv sq)) (hq : ∀ k, k < n → (sq k = 0 ↔ k < f)) (hK : srO f (n - (f + 1)) (f + 1) (rk, rv) = K) :
    slc false tk tv ts n 0 = (List.range' 0 (n - f)).map (fun i => (K.1 (f + i), K.2 (f + i))) := by
  have hO := srO_spec (f := f) (rk := rk) (rv := rv) (m := n - (f + 1)) (c := f + 1) (Z := (rk, rv)) (by omega) (fun i j h1 h2 => by rw [show i = 0 by omega, show j = 0 by omega]; exact Int64.le_refl _) (fun _ => rfl) (fun _ _ => ⟨rfl, rfl⟩)
  rw [hK, show f + 1 + (n - (f + 1)) - f = n - f by omega] at hO
  obtain ⟨o1, o2, -⟩ := hO
  have e2 : ((lsR n rk rv sq).filter (fun e => false || decide (e.2.2 ≠ 0))).map z0 = sg f (n - f) rk rv := by
    have s1 : lsR n rk rv sq = lsR f rk rv sq ++ (List.range' f (n - f)).map (fun i => (rk i, rv i, sq i)) := by
      unfold lsR
      rw [← List.map_append, List.range_eq_range', List.range_eq_range', show (List.range' 0 f ++ List.range' f (n - f)) = List.range' 0 n by
        have z := List.range'_append (s := 0) (m := f) (n := n - f) (step := 1)
        rw [Nat.one_mul, Nat.zero_add, show f + (n - f) = n by omega] at z
        exact z]
    rw [s1, List.filter_append, List.filter_eq_nil_iff.mpr, List.nil_append, List.filter_eq_self.mpr]
    · unfold sg lsR
      rw [List.map_map, List.range_eq_range', List.range'_eq_map_range, List.map_map, List.range_eq_range']
      apply List.map_congr_left
      intro i _
      rfl
    · intro a ha
      obtain ⟨i, hi, rfl⟩ := List.mem_map.mp ha
      have hi := List.mem_range'_1.mp hi
      show (false || decide (sq i ≠ 0)) = true
      have hz : sq i ≠ 0 := fun z => absurd ((hq i (by omega)).mp z) (by omega)
      rw [decide_eq_true hz, Bool.or_true]
    · intro a ha
      obtain ⟨i, hi, rfl⟩ := List.mem_map.mp ha
      have hi := List.mem_range.mp hi
      show ¬ (false || decide (sq i ≠ 0)) = true
      rw [(hq i (by omega)).mpr hi]
      decide
  have e : ((lsR n tk tv ts).filter (fun e => false || decide (e.2.2 ≠ 0))).map z0 = sg f (n - f) K.1 K.2 := by
    refine sorted_unique (pwK_z0 (pwK_filter _ (pwK_srt.mpr hs))) (pwK_srt.mpr o1) (fun x => ?_)
    rw [o2 x, ← e2, filter_z0, filter_z0, List.filter_filter, List.filter_filter]
    have c : ∀ l : List RecT, l.filter (fun a => keyB x a && (false || decide (a.2.2 ≠ 0))) = (l.filter (keyB x)).filter (fun e => false || decide (e.2.2 ≠ 0)) := fun l => by
      rw [List.filter_filter]
      apply List.filter_congr
      intro a _
      exact Bool.and_comm _ _
    rw [c, c, h x]
  have e3 := congrArg (List.map (fun e : RecT => (e.1, e.2.1))) e
  rw [slc_list]
  unfold sg lsR at e3
  rw [List.map_map, List.map_map, List.range_eq_range', List.range_eq_range'] at e3
  exact e3
