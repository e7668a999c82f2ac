theorem srI_spec {f : Nat} {x : Int64} : ∀ {m i : Nat} {Z : (Nat → Int64) × (Nat → Int64)}, m ≤ i → ∃ s, s ≤ m ∧ srI f x m i Z = (i - s, shf s Z.1 i, shf s Z.2 i) ∧ (∀ j, i - s ≤ j → j < i → x < Z.1 j) ∧ (s = m ∨ Z.1 (i - s - 1) ≤ x)
  | 0, i, Z, _ => ⟨0, Nat.le_refl _, rfl, fun j h1 h2 => absurd h2 (by omega), Or.inl rfl⟩
  | m + 1, i, Z, h => by
    rw [srI]
    by_cases c : Z.1 (i - 1) ≤ x
    · rw [if_pos c]
      exact ⟨0, Nat.zero_le _, rfl, fun j h1 h2 => absurd h2 (by omega), Or.inr c⟩
    · rw [if_neg c]
      obtain ⟨s, h1, h2, h3, h4⟩ := srI_spec (f := f) (x := x) (m := m) (i := i - 1) (Z := (va_up Z.1 i (Z.1 (i - 1)), va_up Z.2 i (Z.2 (i - 1)))) (by omega)
      refine ⟨s + 1, by omega, ?_, ?_, ?_⟩
      · rw [h2, show i - 1 - s = i - (s + 1) by omega]
        rfl
      · intro j q1 q2
        rcases Nat.lt_or_ge j (i - 1) with q | q
        · have h5 := h3 j (by omega) q
          have h5 : x < va_up Z.1 i (Z.1 (i - 1)) j := h5
          rwa [va_up_ne _ _ (by omega)] at h5
        · rw [show j = i - 1 by omega]
          exact Int64.not_le.mp c
      · rcases h4 with q | q
        · exact Or.inl (by omega)
        · refine Or.inr ?_
          have q : va_up Z.1 i (Z.1 (i - 1)) (i - 1 - s - 1) ≤ x := q
          rw [va_up_ne _ _ (by omega)] at q
          rwa [show i - (s + 1) - 1 = i - 1 - s - 1 by omega]
theorem srS_spec {f c : Nat} (h : f ≤ c) {Z : (Nat → Int64) × (Nat → Int64)} : ∃ p, f ≤ p ∧ p ≤ c ∧ srS f c Z = (tpl p c Z.1 (Z.1 c), tpl p c Z.2 (Z.2 c)) ∧ (∀ j, p ≤ j → j < c → Z.1 c < Z.1 j) ∧ (p = f ∨ Z.1 (p - 1) ≤ Z.1 c) := by
  obtain ⟨s, h1, h2, h3, h4⟩ := srI_spec (f := f) (x := Z.1 c) (m := c - f) (i := c) (Z := Z) (by omega)
  refine ⟨c - s, by omega, by omega, ?_, h3, ?_⟩
  · rw [srS, h2, tpl, tpl, show c - (c - s) = s by omega]
  · rcases h4 with q | q
    · exact Or.inl (by omega)
    · exact Or.inr q
def sg (f n : Nat) (k v : Nat → Int64) : List RecT := lsR n (fun j => k (f + j)) (fun j => v (f + j)) (fun _ => 0)
theorem tpl_shift {α : Type} {f p c : Nat} (h1 : f ≤ p) (h2 : p ≤ c) {k : Nat → α} {x : α} (j : Nat) : tpl p c k x (f + j) = tpl (p - f) (c - f) (fun i => k (f + i)) x j := by
  have g2 : p - f ≤ c - f := by omega
  by_cases c1 : f + j < p
  · have d1 : j < p - f := by omega
    rw [tpl_lt h2 c1, tpl_lt g2 d1]
  · by_cases c2 : f + j = p
    · have d2 : j = p - f := by omega
      rw [c2, d2, tpl_eq h2, tpl_eq g2]
    · by_cases c3 : f + j ≤ c
      · rw [tpl_gt h2 (by omega) c3, tpl_gt g2 (by omega) (by omega), show f + (j - 1) = f + j - 1 by omega]
      · have d1 : ¬ j < p - f := by omega
        have d2 : ¬ j = p - f := by omega
        have d3 : ¬ j ≤ c - f := by omega
        rw [tpl_val h2, tpl_val g2, if_neg c1, if_neg c2, if_neg c3, if_neg d1, if_neg d2, if_neg d3]
theorem srt_tpl {n p : Nat} {k : Nat → Int64} {x : Int64} (hp : p ≤ n) (hs : Srt n k) (h1 : ∀ j, p ≤ j → j < n → x < k j) (h2 : p = 0 ∨ k (p - 1) ≤ x) : Srt (n + 1) (tpl p n k x) := by
  have hlow : ∀ j, j < p → k j ≤ x := fun j hj => by
    rcases h2 with q | q
    · omega
    · exact Int64.le_trans (hs j (p - 1) (by omega) (by omega)) q
  intro i j hij hj
  rw [tpl_val hp, tpl_val hp]
  by_cases c1 : j < p
  · rw [if_pos c1, if_pos (by omega)]
    exact hs i j hij (by omega)
  · rw [if_neg c1]
    by_cases c2 : j = p
    · rw [if_pos c2]
      by_cases c3 : i < p
      · rw [if_pos c3]
        exact hlow i c3
      · rw [if_neg c3, if_pos (by omega)]
        exact Int64.le_refl _
    · rw [if_neg c2, if_pos (show j ≤ n by omega)]
      by_cases c3 : i < p
      · rw [if_pos c3]
        exact hs i (j - 1) (by omega) (by omega)
      · rw [if_neg c3]
        by_cases c4 : i = p
        · rw [if_pos c4]
          exact Int64.le_of_lt (h1 (j - 1) (by omega) (by omega))
        · rw [if_neg c4, if_pos (show i ≤ n by omega)]
          exact hs (i - 1) (j - 1) (by omega) (by omega)
theorem srO_spec {f : Nat} {rk rv : Nat → Int64} : ∀ {m c : Nat} {Z : (Nat → Int64) × (Nat → Int64)}, f ≤ c → Srt (c - f) (fun j => Z.1 (f + j)) → SameF (sg f (c - f) Z.1 Z.2) (sg f (c - f) rk rv) → (∀ j, j < f ∨ c ≤ j → Z.1 j = rk j ∧ Z.2 j = rv j) →
    Srt (c + m - f) (fun j => (srO f m c Z).1 (f + j)) ∧ SameF (sg f (c + m - f) (srO f m c Z).1 (srO f m c Z).2) (sg f (c + m - f) rk rv) ∧ (∀ j, j < f ∨ c + m ≤ j → (srO f m c Z).1 j = rk j ∧ (srO f m c Z).2 j = rv j)
  | 0, c, Z, _, h1, h2, h3 => ⟨h1, h2, h3⟩
  | m + 1, c, Z, hc, h1, h2, h3 => by
    rw [srO, show c + (m + 1) = c + 1 + m by omega]
    obtain ⟨p, p1, p2, pe, p3, p4⟩ := srS_spec hc (Z := Z)
    have e1 : (fun j => (srS f c Z).1 (f + j)) = tpl (p - f) (c - f) (fun i => Z.1 (f + i)) (Z.1 c) := by
      funext j
      rw [pe]
      exact tpl_shift p1 p2 j
    have e2 : (fun j => (srS f c Z).2 (f + j)) = tpl (p - f) (c - f) (fun i => Z.2 (f + i)) (Z.2 c) := by
      funext j
      rw [pe]
      exact tpl_shift p1 p2 j
    have e3 : (fun _ : Nat => 0) = tpl (p - f) (c - f) (fun _ : Nat => 0) 0 := by
      funext j
      rw [tpl_val (by omega)]
      split
      · rfl
      · split
        · rfl
        · split <;> rfl
    refine srO_spec (m := m) (c := c + 1) (by omega) ?_ ?_ ?_
    · rw [e1, show c + 1 - f = (c - f) + 1 by omega]
      refine srt_tpl (by omega) h1 (fun j q1 q2 => p3 (f + j) (by omega) (by omega)) ?_
      rcases p4 with q | q
      · exact Or.inl (by omega)
      · rcases Nat.eq_or_lt_of_le p1 with q2 | q2
        · exact Or.inl (by omega)
        · refine Or.inr ?_
          show Z.1 (f + (p - f - 1)) ≤ Z.1 c
          rwa [show f + (p - f - 1) = p - 1 by omega]
    · have hz := h3 c (Or.inr (Nat.le_refl _))
      have g1 : sg f (c + 1 - f) (srS f c Z).1 (srS f c Z).2 = (sg f (c - f) Z.1 Z.2).take (p - f) ++ (Z.1 c, Z.2 c, 0) :: (sg f (c - f) Z.1 Z.2).drop (p - f) := by
        rw [show c + 1 - f = (c - f) + 1 by omega, sg, e1, e2, e3, ins_list (by omega)]
        rfl
      have g2 : sg f (c + 1 - f) rk rv = sg f (c - f) rk rv ++ [(Z.1 c, Z.2 c, 0)] := by
        rw [show c + 1 - f = (c - f) + 1 by omega, sg, lsR_succ, hz.1, hz.2]
        show _ ++ [(rk (f + (c - f)), rv (f + (c - f)), 0)] = _
        rw [show f + (c - f) = c by omega]
        rfl
      rw [g1, g2]
      refine same_ins h2 (fun a ha => ?_)
      obtain ⟨i, hi⟩ := List.getElem?_of_mem ha
      rw [List.getElem?_drop] at hi
      have hin : p - f + i < c - f := by
        rcases Nat.lt_or_ge (p - f + i) (c - f) with q1 | q1
        · exact q1
        · rw [List.getElem?_eq_none (by rw [sg, lsR_len]; exact q1)] at hi
          cases hi
      rw [sg, lsR_get hin] at hi
      have e := Option.some.inj hi
      rw [← e]
      intro q1
      have q1 : Z.1 (f + (p - f + i)) = Z.1 c := q1
      have q2 := p3 (f + (p - f + i)) (by omega) (by omega)
      rw [q1] at q2
      exact Int64.lt_irrefl q2
    · intro j hj
      rw [pe]
      show tpl p c Z.1 (Z.1 c) j = rk j ∧ tpl p c Z.2 (Z.2 c) j = rv j
      rw [tpl_val p2, tpl_val p2]
      rcases hj with q | q
      · rw [if_pos (by omega), if_pos (by omega)]
        exact h3 j (Or.inl q)
      · rw [if_neg (by omega), if_neg (by omega), if_neg (by omega), if_neg (by omega), if_neg (by omega), if_neg (by omega)]
        exact h3 j (Or.inr (by omega))
theorem same_sorted {n : Nat} {k v k' v' : Nat → Int64} {q q' : Nat → Nat} (h1 : Srt n k) (h2 : Srt n k') (h : SameF (lsR n k v q) (lsR n k' v' q')) : ∀ i, i < n → k i = k' i ∧ v i = v' i ∧ q i = q' i := by
  intro i hi
  have r1 : rnk (lsR n k v q) i (k i) = i := by
    rw [← bfM_at hi, bfM_sorted h1 hi (by omega)]
    omega
  have r2 : rnk (lsR n k' v' q') i (k' i) = i := by
    rw [← bfM_at hi, bfM_sorted h2 hi (by omega)]
    omega
  have e := rnk_same h (lsR_get hi) (lsR_get hi) (r1.trans r2.symm)
  exact ⟨congrArg (·.1) e, congrArg (·.2.1) e, congrArg (·.2.2) e⟩
