def fd (rd : Nat → Nat) (b i w : Nat) : Nat := nm1 rd 2 (64 * b + (8 + 2 * (i * 4 + w)))
def goodF (rd : Nat → Nat) (b i : Nat) : Prop := 2 ≤ fd rd b i 1 ∧ 1 ≤ fd rd b i 2 ∧ (fd rd b i 3 + 2) / 3 = fd rd b i 2 ∧ ∀ g, g < i → ¬ (fd rd b i 1 < fd rd b g 1 + fd rd b g 2 ∧ fd rd b g 1 < fd rd b i 1 + fd rd b i 2)
theorem iflL_iff {rd : Nat → Nat} {a f : Nat} : ∀ {k j : Nat}, iflL rd a f k j = true ↔ ∀ g, j ≤ g → g < j + k → ¬ (nm1 rd 2 (a + 2) < nm1 rd 2 (f + 8 * g + 2) + nm1 rd 2 (f + 8 * g + 4) ∧ nm1 rd 2 (f + 8 * g + 2) < nm1 rd 2 (a + 2) + nm1 rd 2 (a + 4))
  | 0, j => ⟨fun _ g h1 h2 => by omega, fun _ => rfl⟩
  | k + 1, j => by
    rw [iflL]
    split
    · rename_i c
      exact ⟨fun q => (by cases q), fun q => absurd c (q j (by omega) (by omega))⟩
    · rename_i c
      rw [iflL_iff (k := k) (j := j + 1)]
      constructor
      · intro h g h1 h2
        rcases Nat.eq_or_lt_of_le h1 with e | e
        · subst e; exact c
        · exact h g (by omega) (by omega)
      · intro h g h1 h2
        exact h g (by omega) (by omega)
theorem hov_iff {n : Nat} {F : Nat → Nat} {y z : Nat} : ∀ {k j : Nat}, hov n F y z k j = false ↔ ∀ g, j ≤ g → g < j + k → ¬ (y < hfl n F g 1 + hfl n F g 2 ∧ hfl n F g 1 < y + z)
  | 0, j => ⟨fun _ g h1 h2 => by omega, fun _ => rfl⟩
  | k + 1, j => by
    rw [hov]
    split
    · rename_i c
      exact ⟨fun q => (by cases q), fun q => absurd c (q j (by omega) (by omega))⟩
    · rename_i c
      rw [hov_iff (k := k) (j := j + 1)]
      constructor
      · intro h g h1 h2
        rcases Nat.eq_or_lt_of_le h1 with e | e
        · subst e; exact c
        · exact h g (by omega) (by omega)
      · intro h g h1 h2
        exact h g (by omega) (by omega)
theorem ifl_iff {rd : Nat → Nat} {b i : Nat} : ifl rd (64 * b + 8 + 8 * i) (64 * b + 8) i = true ↔ goodF rd b i := by
  have e : ∀ g, nm1 rd 2 (64 * b + 8 + 8 * g + 2) = fd rd b g 1 ∧ nm1 rd 2 (64 * b + 8 + 8 * g + 4) = fd rd b g 2 ∧ nm1 rd 2 (64 * b + 8 + 8 * g + 6) = fd rd b g 3 := fun g => by
    unfold fd
    exact ⟨by congr 1; omega, by congr 1; omega, by congr 1; omega⟩
  unfold ifl
  rw [(e i).1, (e i).2.1, (e i).2.2]
  by_cases c : 2 ≤ fd rd b i 1 ∧ 1 ≤ fd rd b i 2 ∧ 3 * fd rd b i 2 - 2 ≤ fd rd b i 3 ∧ fd rd b i 3 ≤ 3 * fd rd b i 2
  · rw [if_pos c, iflL_iff]
    constructor
    · intro h
      refine ⟨c.1, c.2.1, by omega, fun g hg => ?_⟩
      have z := h g (by omega) (by omega)
      rw [(e i).1, (e i).2.1, (e g).1, (e g).2.1] at z
      exact z
    · rintro ⟨-, -, -, h⟩ g _ hg
      rw [(e i).1, (e i).2.1, (e g).1, (e g).2.1]
      exact h g (by omega)
  · rw [if_neg c]
    constructor
    · intro q; cases q
    · rintro ⟨h1, h2, h3, -⟩
      exact absurd ⟨h1, h2, by omega, by omega⟩ c
theorem hrfL_spec {dn b : Nat} {dg rd : Nat → Nat} (hb : b < dn) (hA : Ag (64 * dn) dg rd) : ∀ {k i : Nat} {F : Nat → Nat}, i + k ≤ 5 → (∀ j w, j < i → w < 4 → F (j * 4 + w) = fd rd b j w) →
    (hrfL dn dg b k i i F).1 = ihL rd b k i ∧ (ihL rd b k i = true → (hrfL dn dg b k i i F).2.1 = i + k ∧ (∀ j w, j < i + k → w < 4 → (hrfL dn dg b k i i F).2.2 (j * 4 + w) = fd rd b j w) ∧ ∀ j, i ≤ j → j < i + k → goodF rd b j)
  | 0, i, F, _, hF => ⟨rfl, fun _ => ⟨rfl, hF, fun j h1 h2 => by omega⟩⟩
  | k + 1, i, F, hk, hF => by
    have en : ∀ w, w < 4 → num dn dg b 2 (8 + 2 * (i * 4 + w)) = fd rd b i w := fun w hw => by
      rw [num_at hb (by omega), nm1_ag hA (by omega)]
      rfl
    have ec : (2 ≤ fd rd b i 1 ∧ 1 ≤ fd rd b i 2 ∧ (fd rd b i 3 + 2) / 3 = fd rd b i 2 ∧ hov i F (fd rd b i 1) (fd rd b i 2) i 0 = false) ↔ goodF rd b i := by
      unfold goodF
      rw [hov_iff]
      have eh : ∀ g, g < i → hfl i F g 1 = fd rd b g 1 ∧ hfl i F g 2 = fd rd b g 2 := fun g hg => by
        unfold hfl
        rw [if_pos (by omega), if_pos (by omega)]
        exact ⟨hF g 1 hg (by decide), hF g 2 hg (by decide)⟩
      constructor
      · rintro ⟨h1, h2, h3, h4⟩
        refine ⟨h1, h2, h3, fun g hg => ?_⟩
        have z := h4 g (by omega) (by omega)
        rw [(eh g hg).1, (eh g hg).2] at z
        exact z
      · rintro ⟨h1, h2, h3, h4⟩
        refine ⟨h1, h2, h3, fun g _ hg => ?_⟩
        have hg : g < i := by omega
        rw [(eh g hg).1, (eh g hg).2]
        exact h4 g hg
    rw [hrfL, ihL, en 0 (by decide), en 1 (by decide), en 2 (by decide), en 3 (by decide)]
    by_cases c : goodF rd b i
    · rw [if_pos (ec.mpr c), if_pos (ifl_iff.mpr c)]
      have ih := hrfL_spec hb hA (k := k) (i := i + 1) (F := hap i F (fd rd b i 0) (fd rd b i 1) (fd rd b i 2) (fd rd b i 3)) (by omega) (fun j w hj hw => by
        by_cases e : j = i
        · rw [e]
          exact hap_w (g := fun w => fd rd b i w) hw
        · rw [hap_out (by omega)]
          exact hF j w (by omega) hw)
      refine ⟨ih.1, fun q => ?_⟩
      obtain ⟨h1, h2, h3⟩ := ih.2 q
      refine ⟨by omega, fun j w hj hw => h2 j w (by omega) hw, fun j q1 q2 => ?_⟩
      rcases Nat.eq_or_lt_of_le q1 with e | e
      · subst e; exact c
      · exact h3 j (by omega) (by omega)
    · rw [if_neg (fun q => c (ec.mp q)), if_neg (fun q => c (ifl_iff.mp q))]
      exact ⟨rfl, fun q => by cases q⟩
theorem ihd_dec {rd : Nat → Nat} {y : Nat} : ihd rd y = true ↔ (ihC rd y ∧ ihL rd y (rd (64 * y + 1)) 0 = true) := by
  unfold ihd
  by_cases c : ihC rd y
  · rw [if_pos c]
    exact ⟨fun q => ⟨c, q⟩, fun q => q.2⟩
  · rw [if_neg c]
    exact ⟨fun q => (by cases q), fun q => absurd q.1 c⟩
theorem hrd_yes {dn b : Nat} {dg rd : Nat → Nat} {F : Nat → Nat} (hb : b < dn) (hA : Ag (64 * dn) dg rd) (h : ihd rd b = true) :
    ∃ F', hrd dn dg b F = (rd (64 * b + 1), nm1 rd 6 (64 * b + 2), nm1 rd 8 (64 * b + 48), F') ∧ (∀ j w, j < rd (64 * b + 1) → w < 4 → F' (j * 4 + w) = fd rd b j w) ∧ (∀ j, j < rd (64 * b + 1) → goodF rd b j) ∧ ihC rd b := by
  obtain ⟨hc, hl⟩ := ihd_dec.mp h
  obtain ⟨c1, c2, c3, c4, c5, c6, c7, c8⟩ := id hc
  have e0 : bv dn dg b 0 = rd (64 * b) := by rw [bv_at hb (by decide)]; exact hA _ (by omega)
  have e1 : bv dn dg b 1 = rd (64 * b + 1) := by rw [bv_at hb (by decide)]; exact hA _ (by omega)
  have e2 : num dn dg b 6 2 = nm1 rd 6 (64 * b + 2) := by rw [num_at hb (by omega), nm1_ag hA (by omega)]
  have e3 : num dn dg b 8 48 = nm1 rd 8 (64 * b + 48) := by rw [num_at hb (by omega), nm1_ag hA (by omega)]
  have e4 : whole dn dg b = wh1 rd b := by rw [whole_at hb, wh1_ag hA (by omega)]
  have sp := hrfL_spec hb hA (k := rd (64 * b + 1)) (i := 0) (F := F) (by omega) (fun j w hj _ => absurd hj (Nat.not_lt_zero _))
  have s2 := sp.2 hl
  have hf : hrf dn dg b F = hrfL dn dg b (rd (64 * b + 1)) 0 0 F := by rw [hrf, e1, if_pos c3]
  have hk : hrk dn dg b = true := by
    unfold hrk
    rw [e2, e3]
    exact decide_eq_true ⟨c4, c5, c7, c8, c6⟩
  refine ⟨(hrfL dn dg b (rd (64 * b + 1)) 0 0 F).2.2, ?_, fun j w hj hw => s2.2.1 j w (by omega) hw, fun j hj => s2.2.2 j (by omega) (by omega), hc⟩
  rw [hrd, e4, e0, if_pos ⟨c1, c2⟩, if_pos hk, hf, sp.1, if_pos hl, s2.1, e2, e3, Nat.zero_add]
theorem hrd_no {dn b : Nat} {dg rd : Nat → Nat} {F : Nat → Nat} (hb : b < dn) (hA : Ag (64 * dn) dg rd) (h : ihd rd b = false) : ∃ F', hrd dn dg b F = (0, 0, 1, F') := by
  have e0 : bv dn dg b 0 = rd (64 * b) := by rw [bv_at hb (by decide)]; exact hA _ (by omega)
  have e1 : bv dn dg b 1 = rd (64 * b + 1) := by rw [bv_at hb (by decide)]; exact hA _ (by omega)
  have e2 : num dn dg b 6 2 = nm1 rd 6 (64 * b + 2) := by rw [num_at hb (by omega), nm1_ag hA (by omega)]
  have e3 : num dn dg b 8 48 = nm1 rd 8 (64 * b + 48) := by rw [num_at hb (by omega), nm1_ag hA (by omega)]
  have e4 : whole dn dg b = wh1 rd b := by rw [whole_at hb, wh1_ag hA (by omega)]
  unfold hrd
  rw [e4, e0]
  by_cases d1 : wh1 rd b = true ∧ rd (64 * b) = 3
  · rw [if_pos d1]
    by_cases d2 : hrk dn dg b = true
    · rw [if_pos d2]
      have d2 := of_decide_eq_true d2
      rw [e2, e3] at d2
      by_cases d3 : rd (64 * b + 1) ≤ 5
      · have hf : hrf dn dg b F = hrfL dn dg b (rd (64 * b + 1)) 0 0 F := by rw [hrf, e1, if_pos d3]
        have sp := hrfL_spec hb hA (k := rd (64 * b + 1)) (i := 0) (F := F) (by omega) (fun j w hj _ => absurd hj (Nat.not_lt_zero _))
        have hl : ¬ ihL rd b (rd (64 * b + 1)) 0 = true := fun q => by
          have z := ihd_dec.mpr ⟨⟨d1.1, d1.2, d3, d2.1, d2.2.1, d2.2.2.2.2, d2.2.2.1, d2.2.2.2.1⟩, q⟩
          rw [h] at z
          cases z
        rw [hf, sp.1, if_neg hl]
        exact ⟨_, rfl⟩
      · have hf : hrf dn dg b F = (false, 0, F) := by rw [hrf, e1, if_neg d3]
        rw [hf]
        exact ⟨F, rfl⟩
    · rw [if_neg d2]
      exact ⟨F, rfl⟩
  · rw [if_neg d1]
    exact ⟨F, rfl⟩
theorem rf1_spec {rd : Nat → Nat} {x : Nat} : ∀ {k i : Nat} {Z : FS} (j : Nat), (rf1 rd x k i Z).1 j = (if i ≤ j ∧ j < i + k then nm1 rd 2 (x + 8 + 8 * j) else Z.1 j) ∧ (rf1 rd x k i Z).2.1 j = (if i ≤ j ∧ j < i + k then nm1 rd 2 (x + 10 + 8 * j) else Z.2.1 j) ∧ (rf1 rd x k i Z).2.2.1 j = (if i ≤ j ∧ j < i + k then nm1 rd 2 (x + 12 + 8 * j) else Z.2.2.1 j) ∧ (rf1 rd x k i Z).2.2.2.1 j = (if i ≤ j ∧ j < i + k then nm1 rd 2 (x + 14 + 8 * j) else Z.2.2.2.1 j)
  | 0, i, Z, j => by
    rw [rf1, if_neg (by omega), if_neg (by omega), if_neg (by omega), if_neg (by omega)]
    exact ⟨rfl, rfl, rfl, rfl⟩
  | k + 1, i, Z, j => by
    have ih := rf1_spec (rd := rd) (x := x) (k := k) (i := i + 1) (Z := rfS rd x i Z) j
    rw [rf1, ih.1, ih.2.1, ih.2.2.1, ih.2.2.2]
    show (if _ then _ else va_up Z.1 i _ j) = _ ∧ (if _ then _ else va_up Z.2.1 i _ j) = _ ∧ (if _ then _ else va_up Z.2.2.1 i _ j) = _ ∧ (if _ then _ else va_up Z.2.2.2.1 i _ j) = _
    by_cases e : j = i
    · have c1 : ¬ (i + 1 ≤ j ∧ j < i + 1 + k) := by omega
      have c2 : i ≤ j ∧ j < i + (k + 1) := by omega
      rw [if_neg c1, if_neg c1, if_neg c1, if_neg c1, if_pos c2, if_pos c2, if_pos c2, if_pos c2, e, va_up_self, va_up_self, va_up_self, va_up_self]
      exact ⟨rfl, rfl, rfl, rfl⟩
    · rw [va_up_ne _ _ e, va_up_ne _ _ e, va_up_ne _ _ e, va_up_ne _ _ e]
      by_cases c : i + 1 ≤ j ∧ j < i + 1 + k
      · have c2 : i ≤ j ∧ j < i + (k + 1) := by omega
        rw [if_pos c, if_pos c, if_pos c, if_pos c, if_pos c2, if_pos c2, if_pos c2, if_pos c2]
        exact ⟨rfl, rfl, rfl, rfl⟩
      · have c2 : ¬ (i ≤ j ∧ j < i + (k + 1)) := by omega
        rw [if_neg c, if_neg c, if_neg c, if_neg c, if_neg c2, if_neg c2, if_neg c2, if_neg c2]
        exact ⟨rfl, rfl, rfl, rfl⟩
def mxf (f : Nat → Nat) : Nat → Nat → Nat → Nat
  | 0, _, z => z
  | k + 1, i, z => mxf f k (i + 1) (max z (f i))
theorem mxf_congr {f g : Nat → Nat} : ∀ {k i z : Nat}, (∀ x, i ≤ x → x < i + k → f x = g x) → mxf f k i z = mxf g k i z
  | 0, _, _, _ => rfl
  | k + 1, i, z, h => by
    rw [mxf, mxf, h i (by omega) (by omega)]
    exact mxf_congr (fun x h1 h2 => h x (by omega) (by omega))
theorem mxf_lt {f : Nat → Nat} {c : Nat} : ∀ {k i z : Nat}, z < c → (∀ x, f x < c) → mxf f k i z < c
  | 0, _, _, h, _ => h
  | k + 1, i, z, h, hf => mxf_lt (k := k) (i := i + 1) (by have := hf i; omega) hf
theorem rf1_z {rd : Nat → Nat} {x : Nat} : ∀ {k i : Nat} {Z : FS}, (rf1 rd x k i Z).2.2.2.2 = mxf (fun j => nm1 rd 2 (x + 8 + 8 * j)) k i Z.2.2.2.2
  | 0, _, _ => rfl
  | k + 1, i, Z => by
    rw [rf1, rf1_z (k := k), mxf]
    congr 1
    show (if nm1 rd 2 (x + 8 + 8 * i) ≤ Z.2.2.2.2 then Z.2.2.2.2 else nm1 rd 2 (x + 8 + 8 * i)) = max Z.2.2.2.2 (nm1 rd 2 (x + 8 + 8 * i))
    split <;> omega
def HZ (n : Nat) (F' : Nat → Nat) (Z : FS) : Prop := ∀ i, i < n → hfl n F' i 0 = Z.1 i ∧ hfl n F' i 1 = Z.2.1 i ∧ hfl n F' i 2 = Z.2.2.1 i ∧ hfl n F' i 3 = Z.2.2.2.1 i
theorem ifb_ibM {dn n : Nat} {dg rd F' : Nat → Nat} {Z : FS} (hA : Ag (64 * dn) dg rd) (hZ : HZ n F' Z) {i p : Nat} (hi : i < n) : ifb dn dg n F' i p = ibM dn rd Z.1 Z.2.1 Z.2.2.1 Z.2.2.2.1 i p := by
  obtain ⟨h0, h1, h2, h3⟩ := hZ i hi
  have key : (ifb dn dg n F' i p = true) ↔ ibC dn rd Z.1 Z.2.1 Z.2.2.1 Z.2.2.2.1 i p := by
    unfold ifb ibC
    rw [decide_eq_true_eq, h0, h1, h2, h3]
    by_cases c : Z.2.1 i + p < dn
    · rw [whole_at c, wh1_ag hA (by omega), bv_at c (by decide), bv_at c (by decide), hA _ (by omega), hA _ (by omega), num_at c (by decide), num_at c (by decide), num_at c (by decide), nm1_ag hA (by omega), nm1_ag hA (by omega), nm1_ag hA (by omega), Nat.mul_comm p 3, Nat.add_zero]
    · exact ⟨fun q => absurd q.1 c, fun q => absurd q.1 c⟩
  rw [Bool.eq_iff_iff, key]
  exact ⟨fun q => @decide_eq_true _ (Classical.propDecidable _) q, fun q => @of_decide_eq_true _ (Classical.propDecidable _) q⟩
theorem fwI_rgI {dn n : Nat} {dg rd F' : Nat → Nat} {Z : FS} (hA : Ag (64 * dn) dg rd) (hZ : HZ n F' Z) {i : Nat} (hi : i < n) : ∀ {k p : Nat} {X : KS}, fwI dn dg n F' i k p = (rgI dn rd Z i k p X).1
  | 0, _, _ => rfl
  | k + 1, p, X => by
    rw [fwI, rgI, ifb_ibM hA hZ hi]
    split
    · exact fwI_rgI hA hZ hi (k := k)
    · rw [(hZ i hi).2.1]
theorem fwO_rgO {dn n : Nat} {dg rd F' : Nat → Nat} {Z : FS} (hA : Ag (64 * dn) dg rd) (hZ : HZ n F' Z) : ∀ {k i : Nat} {X : KS}, i + k ≤ n → fwO dn dg n F' k i = (rgO dn rd Z k i X).1
  | 0, _, _, _ => rfl
  | k + 1, i, X, h => by
    have e := fwI_rgI hA hZ (i := i) (by omega) (k := Z.2.2.1 i) (p := 0) (X := X)
    rw [fwO, rgO, (hZ i (by omega)).2.2.1, e]
    cases hr : rgI dn rd Z i (Z.2.2.1 i) 0 X with
    | mk o Y =>
      cases o with
      | none => exact fwO_rgO hA hZ (k := k) (by omega)
      | some c => rfl
theorem rgI_in {rb : Nat} {rd : Nat → Nat} {Z : FS} {f : Nat} : ∀ {k p : Nat} {X Y : KS}, rgI rb rd Z f k p X = (none, Y) → ∀ q, p ≤ q → q < p + k → ibC rb rd Z.1 Z.2.1 Z.2.2.1 Z.2.2.2.1 f q
  | 0, _, _, _, _, q, h1, h2 => by omega
  | k + 1, p, X, Y, h, q, h1, h2 => by
    rw [rgI] at h
    split at h
    · rename_i c
      rcases Nat.eq_or_lt_of_le h1 with e | e
      · subst e; exact ib_d c
      · exact rgI_in (k := k) h q (by omega) (by omega)
    · cases h
theorem rgO_in {rb : Nat} {rd : Nat → Nat} {Z : FS} : ∀ {k i : Nat} {X Y : KS}, rgO rb rd Z k i X = (none, Y) → ∀ f, i ≤ f → f < i + k → ∀ q, q < Z.2.2.1 f → ibC rb rd Z.1 Z.2.1 Z.2.2.1 Z.2.2.2.1 f q
  | 0, _, _, _, _, f, h1, h2, _, _ => by omega
  | k + 1, i, X, Y, h, f, h1, h2, q, hq => by
    rw [rgO] at h
    cases hr : rgI rb rd Z i (Z.2.2.1 i) 0 X with
    | mk o W =>
      rw [hr] at h
      cases o with
      | none =>
        rcases Nat.eq_or_lt_of_le h1 with e | e
        · subst e
          exact rgI_in hr q (by omega) (by omega)
        · exact rgO_in (k := k) h f (by omega) (by omega) q hq
      | some c => cases h
def RT (sq : Nat → Nat) (T : TS) (X : KS) : Prop := T.1 = X.1 ∧ Srt X.1 T.2.1 ∧ SameF (lsR X.1 T.2.1 T.2.2.1 T.2.2.2) (lsR X.1 X.2.1 X.2.2 sq)
theorem RT_add {sq : Nat → Nat} {T : TS} {X : KS} {k v : Int64} {q : Nat} (h : RT sq T X) (hc : X.1 < 192) (hq : sq X.1 = q) : RT sq (tI T k v q) (X.1 + 1, va_up X.2.1 X.1 k, va_up X.2.2 X.1 v) := by
  obtain ⟨h1, h2, h3⟩ := h
  have z := same_add (k := k) (v := v) (q := q) h2 h3
  have e : va_up sq X.1 q = sq := by
    funext x
    by_cases c : x = X.1
    · rw [c, va_up_self, hq]
    · rw [va_up_ne _ _ c]
  rw [e] at z
  rw [tI, if_pos (by omega), h1]
  exact ⟨rfl, z.1, z.2⟩
theorem rdR_rdS {sq : Nat → Nat} {T : TS} {X : KS} {dn b p q : Nat} {dg rd : Nat → Nat} (hA : Ag (64 * dn) dg rd) (hb : b < dn) (hp : p ≤ 2) (h : RT sq T X) (hc : X.1 < 192) (hq : sq X.1 = q) : RT sq (rdR dn dg b p q T) (rdS rd b p X) := by
  unfold rdR rdS
  rw [num_at hb (by omega), num_at hb (by omega), nm1_ag hA (by omega), nm1_ag hA (by omega), show 64 * b + (8 + p * 16) = 64 * b + 8 + 16 * p by omega, show 64 * b + (8 + p * 16 + 8) = 64 * b + 16 + 16 * p by omega]
  exact RT_add h hc hq
theorem rfI_rds {dn b : Nat} {dg rd : Nat → Nat} (hA : Ag (64 * dn) dg rd) (hb : b < dn) : ∀ {k j : Nat} {T : TS} {X : KS}, j + k ≤ 3 → RT (fun _ => 0) T X → X.1 + k ≤ 192 → RT (fun _ => 0) (rfI dn dg b k j T) (rds rd b k j X)
  | 0, _, _, _, _, h, _ => h
  | k + 1, j, T, X, hj, h, hc => by
    rw [rfI, rds]
    exact rfI_rds hA hb (k := k) (j := j + 1) (X := rdS rd b j X) (by omega) (rdR_rdS hA hb (by omega) h (by omega) rfl) (by show X.1 + 1 + k ≤ 192; omega)
theorem rlI_rds {dn b nx : Nat} {sq dg rd : Nat → Nat} (hA : Ag (64 * dn) dg rd) (hb : b < dn) : ∀ {k j : Nat} {T : TS} {X : KS}, j + k ≤ 3 → RT sq T X → X.1 + k ≤ 192 → (∀ x, x < k → sq (X.1 + x) = nx + (j + x)) → RT sq (rlI dn dg b nx k j T) (rds rd b k j X)
  | 0, _, _, _, _, h, _, _ => h
  | k + 1, j, T, X, hj, h, hc, hs => by
    rw [rlI, rds]
    exact rlI_rds hA hb (k := k) (j := j + 1) (X := rdS rd b j X) (by omega) (rdR_rdS hA hb (by omega) h (by omega) (hs 0 (by omega))) (by show X.1 + 1 + k ≤ 192; omega) (fun x hx => by
      have z := hs (x + 1) (by omega)
      show sq (X.1 + 1 + x) = nx + (j + 1 + x)
      rw [show X.1 + 1 + x = X.1 + (x + 1) by omega, z]
      omega)
theorem rfO_rgI {dn f : Nat} {dg rd : Nat → Nat} {Z : FS} (hA : Ag (64 * dn) dg rd) (hr : Z.2.2.2.1 f ≤ 3 * Z.2.2.1 f) (hr2 : 3 * Z.2.2.1 f ≤ Z.2.2.2.1 f + 2) : ∀ {k p : Nat} {T : TS} {X Y : KS}, p + k = Z.2.2.1 f → rgI dn rd Z f k p X = (none, Y) → RT (fun _ => 0) T X → X.1 + (Z.2.2.2.1 f - 3 * p) ≤ 192 →
    RT (fun _ => 0) (rfO dn dg (Z.2.1 f) (Z.2.2.2.1 f) k p T) Y ∧ Y.1 = X.1 + (Z.2.2.2.1 f - 3 * p)
  | 0, p, T, X, Y, hp, h, hT, hc => by
    rw [rgI] at h
    cases h
    exact ⟨hT, by omega⟩
  | k + 1, p, T, X, Y, hp, h, hT, hc => by
    rw [rgI] at h
    split at h
    · rename_i c
      have c := ib_d c
      obtain ⟨c1, -, -, c4, -⟩ := c
      rw [c4] at h
      have z := rfI_rds hA c1 (k := min 3 (Z.2.2.2.1 f - 3 * p)) (j := 0) (T := T) (X := X) (by omega) hT (by omega)
      have zn := rds_n (rd := rd) (y := Z.2.1 f + p) (k := min 3 (Z.2.2.2.1 f - 3 * p)) (j := 0) (X := X)
      have ih := rfO_rgI hA hr hr2 (k := k) (p := p + 1) (by omega) h z (by rw [zn]; omega)
      rw [rfO, Nat.mul_comm p 3]
      refine ⟨ih.1, ?_⟩
      rw [ih.2, zn]
      omega
    · cases h
theorem iof_succ {fF fB : Nat → Nat} {x i : Nat} : iof fF fB x (i + 1) 0 = (iof fF fB x i 0 || decide (fF i ≤ x ∧ x < fF i + fB i)) := by
  rw [Bool.eq_iff_iff, Bool.or_eq_true, iof_iff, iof_iff, decide_eq_true_eq]
  constructor
  · rintro ⟨g, h1, h2, h3⟩
    by_cases e : g = i
    · subst e; exact Or.inr h3
    · exact Or.inl ⟨g, h1, by omega, h3⟩
  · rintro (⟨g, h1, h2, h3⟩ | h)
    · exact ⟨g, h1, by omega, h3⟩
    · exact ⟨i, by omega, by omega, h⟩
theorem usM_0 {i : Nat} {fF fB lB : Nat → Nat} {x : Nat} : usM i fF fB 0 lB x = if x < 2 then 3 else if iof fF fB x i 0 = true then 2 else 0 := by
  have hq : ¬ qhol lB x 0 0 = true := by rw [qhol]; decide
  rw [usM, if_neg hq]
theorem use_file {un i : Nat} {u fF fB lB : Nat → Nat} (h : ∀ x, x < un → u x = usM i fF fB 0 lB x) (h2 : 2 ≤ fF i) : ∀ x, x < un → umk un (fF i) 2 (fB i) u 0 x = usM (i + 1) fF fB 0 lB x := fun x hx => by
  rw [umk_val, h x hx, usM_0, usM_0, iof_succ]
  by_cases c : fF i ≤ x ∧ x < fF i + fB i
  · have c2 : ¬ x < 2 := by omega
    rw [if_pos (by omega), if_neg c2, if_pos (by rw [decide_eq_true c, Bool.or_true])]
  · rw [if_neg (by omega), decide_eq_false c, Bool.or_false]
theorem opL_rgO {dn n : Nat} {dg rd F' lB : Nat → Nat} {Z : FS} (hA : Ag (64 * dn) dg rd) (hZ : HZ n F' Z) (hr : ∀ f, f < n → 2 ≤ Z.2.1 f ∧ Z.2.2.2.1 f ≤ 3 * Z.2.2.1 f ∧ 3 * Z.2.2.1 f ≤ Z.2.2.2.1 f + 2) : ∀ {k i : Nat} {S : TS × (Nat → Nat) × Nat} {X Y : KS}, i + k = n → rgO dn rd Z k i X = (none, Y) → RT (fun _ => 0) S.1 X → X.1 + ifM Z.2.2.2.1 k i 0 ≤ 192 → (∀ x, x < dn → S.2.1 x = usM i Z.2.1 Z.2.2.1 0 lB x) →
    RT (fun _ => 0) (opL dn dg dn n F' k i S).1 Y ∧ Y.1 = X.1 + ifM Z.2.2.2.1 k i 0 ∧ (∀ x, x < dn → (opL dn dg dn n F' k i S).2.1 x = usM n Z.2.1 Z.2.2.1 0 lB x) ∧ (opL dn dg dn n F' k i S).2.2 = mxf Z.1 k i S.2.2
  | 0, i, S, X, Y, hi, h, hT, hc, hu => by
    rw [rgO] at h
    cases h
    have e : i = n := by omega
    subst e
    exact ⟨hT, rfl, hu, rfl⟩
  | k + 1, i, S, X, Y, hi, h, hT, hc, hu => by
    rw [rgO] at h
    rw [ifM, ifM_acc, Nat.zero_add] at hc
    have hii : i < n := by omega
    obtain ⟨z0, z1, z2, z3⟩ := hZ i hii
    have hri := hr i hii
    cases hg : rgI dn rd Z i (Z.2.2.1 i) 0 X with
    | mk o W =>
      rw [hg] at h
      cases o with
      | some c => cases h
      | none =>
        have a := rfO_rgI hA hri.2.1 hri.2.2 (k := Z.2.2.1 i) (p := 0) (by omega) hg hT (by omega)
        have hW : W.1 = X.1 + Z.2.2.2.1 i := by rw [a.2]; omega
        have es : opS dn dg dn n F' i S = (rfO dn dg (Z.2.1 i) (Z.2.2.2.1 i) (Z.2.2.1 i) 0 S.1, umk dn (Z.2.1 i) 2 (Z.2.2.1 i) S.2.1 0, max S.2.2 (Z.1 i)) := by
          rw [opS, z0, z1, z2, z3]
        have ih := opL_rgO hA hZ hr (k := k) (i := i + 1) (S := opS dn dg dn n F' i S) (X := W) (Y := Y) (by omega) h (by rw [es]; exact a.1) (by rw [hW]; omega) (by rw [es]; exact use_file hu hri.1)
        rw [opL, ifM, ifM_acc, Nat.zero_add, mxf]
        refine ⟨ih.1, by rw [ih.2.1, hW]; omega, ih.2.2.1, ?_⟩
        rw [ih.2.2.2, es]
theorem cnt_files {rb n : Nat} {fF fB : Nat → Nat} (hf : ∀ i, i < n → 2 ≤ fF i ∧ fF i + fB i ≤ rb) (hd : ∀ i j, i < j → j < n → fF i + fB i ≤ fF j ∨ fF j + fB j ≤ fF i) : ∀ {m : Nat}, m ≤ n → cnt (fun x => iof fF fB x m 0) (rb - 2) 2 = ifM fB m 0 0
  | 0, _ => cnt_none (fun x _ _ q => by rw [iof] at q; cases q)
  | m + 1, h => by
    have ih := cnt_files hf hd (m := m) (by omega)
    have hm := hf m (by omega)
    rw [ifM_snoc, Nat.zero_add, ← ih, cnt_or (P := fun x => iof fF fB x m 0) (Q := fun x => decide (fF m ≤ x ∧ x < fF m + fB m)) (fun x _ _ => iof_succ) (fun x _ _ q1 q2 => ?_), cnt_run (by omega) (by omega)]
    obtain ⟨g, g1, g2, g3⟩ := iof_iff.mp q1
    have q2 := of_decide_eq_true q2
    rcases hd g m (by omega) (by omega) with z | z <;> omega
theorem mol_val {dn un : Nat} {dg : Nat → Nat} : ∀ {k b : Nat} {u : Nat → Nat}, b + k ≤ un → ∀ x, mol dn dg un k b u x = if (b ≤ x ∧ x < b + k) ∧ u x = 0 ∧ whole dn dg x = true ∧ bv dn dg x 0 = 1 then 4 else u x
  | 0, b, u, _, x => by
    rw [mol, if_neg (by omega)]
  | k + 1, b, u, h, x => by
    rw [mol, mol_val (k := k) (by omega)]
    have hu : uof un u b = u b := by rw [uof, if_pos (by omega)]
    rw [hu]
    by_cases e : x = b
    · subst e
      have d1 : ¬ ((x + 1 ≤ x ∧ x < x + 1 + k) ∧ (if u x = 0 ∧ whole dn dg x = true ∧ bv dn dg x 0 = 1 then umk un x 4 1 u 0 else u) x = 0 ∧ whole dn dg x = true ∧ bv dn dg x 0 = 1) := fun q => by omega
      rw [if_neg d1]
      by_cases c : u x = 0 ∧ whole dn dg x = true ∧ bv dn dg x 0 = 1
      · rw [if_pos c, if_pos ⟨by omega, c⟩, umk_val, if_pos (by omega)]
      · rw [if_neg c, if_neg (fun q => c q.2)]
    · have e2 : (if u b = 0 ∧ whole dn dg b = true ∧ bv dn dg b 0 = 1 then umk un b 4 1 u 0 else u) x = u x := by
        split
        · rw [umk_val, if_neg (by omega)]
        · rfl
      rw [e2]
      by_cases c : (b + 1 ≤ x ∧ x < b + 1 + k) ∧ u x = 0 ∧ whole dn dg x = true ∧ bv dn dg x 0 = 1
      · rw [if_pos c, if_pos ⟨by omega, c.2⟩]
      · rw [if_neg c, if_neg (fun q => c ⟨by omega, q.2⟩)]
def us4 (rd fF fB : Nat → Nat) (n rl : Nat) (lB : Nat → Nat) (x : Nat) : Nat := if usM n fF fB rl lB x = 0 ∧ ilM rd fF fB n x = true then 4 else usM n fF fB rl lB x
theorem us4_4 {rd fF fB : Nat → Nat} {n rl : Nat} {lB : Nat → Nat} {x : Nat} : us4 rd fF fB n rl lB x = 4 ↔ usM n fF fB rl lB x = 0 ∧ ilM rd fF fB n x = true := by
  unfold us4
  by_cases c : usM n fF fB rl lB x = 0 ∧ ilM rd fF fB n x = true
  · rw [if_pos c]
    exact ⟨fun _ => c, fun _ => rfl⟩
  · rw [if_neg c]
    have z : usM n fF fB rl lB x < 4 := usM_lt
    exact ⟨fun q => by omega, fun q => absurd q c⟩
theorem mol_us4 {dn n : Nat} {dg rd fF fB lB u : Nat → Nat} (hA : Ag (64 * dn) dg rd) (h2 : 2 ≤ dn) (hu : ∀ x, x < dn → u x = usM n fF fB 0 lB x) : ∀ x, x < dn → mol dn dg dn (dn - 2) 2 u x = us4 rd fF fB n 0 lB x := fun x hx => by
  rw [mol_val (by omega), hu x hx, us4]
  have e : ((2 ≤ x ∧ x < 2 + (dn - 2)) ∧ usM n fF fB 0 lB x = 0 ∧ whole dn dg x = true ∧ bv dn dg x 0 = 1) ↔ (usM n fF fB 0 lB x = 0 ∧ ilM rd fF fB n x = true) := by
    unfold ilM
    rw [decide_eq_true_eq, whole_at hx, wh1_ag hA (by omega), bv_at hx (by decide), hA _ (by omega), Nat.add_zero]
    constructor
    · rintro ⟨-, q1, q2, q3⟩
      exact ⟨q1, (usM_free q1).2.1, q2, q3⟩
    · rintro ⟨q1, -, q2, q3⟩
      have := (usM_free q1).1
      exact ⟨by omega, q1, q2, q3⟩
  by_cases c : usM n fF fB 0 lB x = 0 ∧ ilM rd fF fB n x = true
  · rw [if_pos c, if_pos (e.mpr c)]
  · rw [if_neg c, if_neg (fun q => c (e.mp q))]
def LR (rb n ex inf : Nat) (rd fF fB : Nat → Nat) (V : RS) (L : LSt) : Prop :=
  RT (sqM ex inf) V.1 (L.1, L.2.1, L.2.2.1)
  ∧ (V.2.1 = L.2.2.2.2.2.2 ∧ L.2.2.2.2.2.2 = ex + (L.1 - inf) ∧ inf ≤ L.1)
  ∧ (∀ x, x < rb → V.2.2 x = us4 rd fF fB n L.2.2.2.1 L.2.2.2.2.1 x)
  ∧ (∀ j, j < L.2.2.2.1 → (2 ≤ L.2.2.2.2.1 j ∧ L.2.2.2.2.1 j < rb ∧ iof fF fB (L.2.2.2.2.1 j) n 0 = false ∧ 1 ≤ L.2.2.2.2.2.1 j ∧ L.2.2.2.2.2.1 j ≤ 3) ∧ nm1 rd 6 (64 * L.2.2.2.2.1 j + 2) < L.2.2.2.2.2.2)
  ∧ (∀ i j, i < j → j < L.2.2.2.1 → L.2.2.2.2.1 i ≠ L.2.2.2.2.1 j)
  ∧ L.1 = inf + ifM L.2.2.2.2.2.1 L.2.2.2.1 0 0
  ∧ cnt (fun y => decide (usM n fF fB L.2.2.2.1 L.2.2.2.2.1 y = 1)) (rb - 2) 2 = L.2.2.2.1
  ∧ ((∀ j, L.2.2.2.2.1 j < 1048576) ∧ (∀ j, L.2.2.2.2.2.1 j < 1048576) ∧ (∀ j, V.1.2.2.2 j < 2 ^ 31) ∧ (∀ j, V.2.2 j < 8))
theorem nlb_fl {dn n ex inf : Nat} {dg rd fF fB : Nat → Nat} {V : RS} {L : LSt} (hA : Ag (64 * dn) dg rd) (h : LR dn n ex inf rd fF fB V L) : ∀ {k b : Nat}, 2 ≤ b → b + k = dn → nlb dn dg dn V.2.2 V.2.1 k b = fl dn rd fF fB n L.2.2.2.2.2.2 k b
  | 0, _, _, _ => rfl
  | k + 1, b, hb, hk => by
    obtain ⟨-, ⟨l2, -⟩, l3, l4, -⟩ := id h
    have hbd : b < dn := by omega
    rw [nlb, fl, nlb_fl hA h (k := k) (by omega) (by omega), uof, if_pos hbd, l3 b hbd, bv_at hbd (by decide), hA _ (by omega), num_at hbd (by decide), nm1_ag hA (by omega), l2]
    have e : (us4 rd fF fB n L.2.2.2.1 L.2.2.2.2.1 b = 4 ∧ 1 ≤ rd (64 * b + 1) ∧ rd (64 * b + 1) ≤ 3 ∧ nm1 rd 6 (64 * b + 2) = L.2.2.2.2.2.2) ↔ (ilM rd fF fB n b = true ∧ (1 ≤ rd (64 * b + 1) ∧ rd (64 * b + 1) ≤ 3) ∧ nm1 rd 6 (64 * b + 2) = L.2.2.2.2.2.2) := by
      rw [us4_4]
      constructor
      · rintro ⟨⟨-, q1⟩, q2, q3, q4⟩
        exact ⟨q1, ⟨q2, q3⟩, q4⟩
      · rintro ⟨q1, ⟨q2, q3⟩, q4⟩
        refine ⟨⟨?_, q1⟩, q2, q3, q4⟩
        have i0 := (of_decide_eq_true q1).1
        have c2 : ¬ iof fF fB b n 0 = true := by rw [i0]; decide
        have c3 : ¬ qhol L.2.2.2.2.1 b L.2.2.2.1 0 = true := fun q => by
          obtain ⟨j, -, j2, j3⟩ := qhol_iff.mp q
          have z := (l4 j (by omega)).2
          rw [j3] at z
          omega
        rw [usM, if_neg (by omega), if_neg c2, if_neg c3]
    by_cases c : ilM rd fF fB n b = true ∧ (1 ≤ rd (64 * b + 1) ∧ rd (64 * b + 1) ≤ 3) ∧ nm1 rd 6 (64 * b + 2) = L.2.2.2.2.2.2
    · rw [if_pos c, if_pos (e.mpr c)]
    · rw [if_neg c, if_neg (fun q => c (e.mp q))]
theorem LR_step {dn n ex inf y : Nat} {dg rd fF fB : Nat → Nat} {V : RS} {L : LSt} (hA : Ag (64 * dn) dg rd) (hdn : dn ≤ 64) (h : LR dn n ex inf rd fF fB V L) (hy : 2 ≤ y ∧ y < dn) (hil : ilM rd fF fB n y = true) (hr : 1 ≤ rd (64 * y + 1) ∧ rd (64 * y + 1) ≤ 3) (hx : nm1 rd 6 (64 * y + 2) = L.2.2.2.2.2.2) (hc : L.1 + 3 ≤ 192) (hn : L.2.2.2.2.2.2 < 2 ^ 30) :
    LR dn n ex inf rd fF fB (rlS dn dg dn y V) (rlT rd y L) := by
  obtain ⟨l1, ⟨l2, l2b, l2c⟩, l3, l4, l5, l6, l7, l8, l9, l10, l11⟩ := h
  have i0 := (of_decide_eq_true hil).1
  have hnq : ¬ qhol L.2.2.2.2.1 y L.2.2.2.1 0 = true := fun q => by
    obtain ⟨j, -, j2, j3⟩ := qhol_iff.mp q
    have z := (l4 j (by omega)).2
    rw [j3] at z
    omega
  have hu0 : usM n fF fB L.2.2.2.1 L.2.2.2.2.1 y = 0 := by
    have c2 : ¬ iof fF fB y n 0 = true := by rw [i0]; decide
    rw [usM, if_neg (by omega), if_neg c2, if_neg hnq]
  have hmk := fun x => usM_mark (x := x) hu0
  have eb : bv dn dg y 1 = rd (64 * y + 1) := by rw [bv_at hy.2 (by decide)]; exact hA _ (by omega)
  have zn := rds_n (rd := rd) (y := y) (k := rd (64 * y + 1)) (j := 0) (X := (L.1, L.2.1, L.2.2.1))
  have zn : (rds rd y (rd (64 * y + 1)) 0 (L.1, L.2.1, L.2.2.1)).1 = L.1 + rd (64 * y + 1) := zn
  have z1 := rlI_rds (nx := V.2.1) hA hy.2 (k := rd (64 * y + 1)) (j := 0) (by omega) l1 (by show L.1 + rd (64 * y + 1) ≤ 192; omega) (fun x hx => by
    show sqM ex inf (L.1 + x) = V.2.1 + (0 + x)
    rw [sqM, if_neg (by omega)]
    omega)
  unfold rlS rlT
  rw [eb]
  refine ⟨z1, ⟨?_, ?_, ?_⟩, fun x hx2 => ?_, fun j hj => ?_, fun i j hij hj => ?_, ?_, ?_, va_up_lt l8 (by omega), va_up_lt l9 (by omega), rlI_lt (by omega) l10 (by omega), umk_lt l11 (by decide)⟩
  · show V.2.1 + rd (64 * y + 1) = L.2.2.2.2.2.2 + rd (64 * y + 1)
    omega
  · show L.2.2.2.2.2.2 + rd (64 * y + 1) = ex + ((rds rd y (rd (64 * y + 1)) 0 (L.1, L.2.1, L.2.2.1)).1 - inf)
    rw [zn]
    omega
  · show inf ≤ (rds rd y (rd (64 * y + 1)) 0 (L.1, L.2.1, L.2.2.1)).1
    rw [zn]
    omega
  · show umk dn y 1 1 V.2.2 0 x = us4 rd fF fB n (L.2.2.2.1 + 1) (va_up L.2.2.2.2.1 L.2.2.2.1 y) x
    rw [umk_val, l3 x hx2, us4, us4, hmk]
    by_cases e : x = y
    · have c1 : y + 0 ≤ x ∧ x < y + 0 + 1 ∧ x < dn := by omega
      rw [if_pos c1, if_pos e, if_neg (fun q => by omega)]
    · have c1 : ¬ (y + 0 ≤ x ∧ x < y + 0 + 1 ∧ x < dn) := by omega
      rw [if_neg c1, if_neg e]
  · have hj : j < L.2.2.2.1 + 1 := hj
    show (2 ≤ va_up L.2.2.2.2.1 L.2.2.2.1 y j ∧ va_up L.2.2.2.2.1 L.2.2.2.1 y j < dn ∧ iof fF fB (va_up L.2.2.2.2.1 L.2.2.2.1 y j) n 0 = false ∧ 1 ≤ va_up L.2.2.2.2.2.1 L.2.2.2.1 (rd (64 * y + 1)) j ∧ va_up L.2.2.2.2.2.1 L.2.2.2.1 (rd (64 * y + 1)) j ≤ 3) ∧ nm1 rd 6 (64 * va_up L.2.2.2.2.1 L.2.2.2.1 y j + 2) < L.2.2.2.2.2.2 + rd (64 * y + 1)
    by_cases e : j = L.2.2.2.1
    · rw [e, va_up_self, va_up_self]
      exact ⟨⟨hy.1, hy.2, i0, hr.1, hr.2⟩, by omega⟩
    · rw [va_up_ne _ _ e, va_up_ne _ _ e]
      have z := l4 j (by omega)
      exact ⟨z.1, by omega⟩
  · have hj : j < L.2.2.2.1 + 1 := hj
    show va_up L.2.2.2.2.1 L.2.2.2.1 y i ≠ va_up L.2.2.2.2.1 L.2.2.2.1 y j
    rw [va_up_ne _ _ (show i ≠ L.2.2.2.1 by omega)]
    by_cases e : j = L.2.2.2.1
    · rw [e, va_up_self]
      exact fun q => hnq (qhol_iff.mpr ⟨i, by omega, by omega, q⟩)
    · rw [va_up_ne _ _ e]
      exact l5 i j hij (by omega)
  · show (rds rd y (rd (64 * y + 1)) 0 (L.1, L.2.1, L.2.2.1)).1 = inf + ifM (va_up L.2.2.2.2.2.1 L.2.2.2.1 (rd (64 * y + 1))) (L.2.2.2.1 + 1) 0 0
    rw [zn, ifM_up]
    omega
  · show cnt (fun z => decide (usM n fF fB (L.2.2.2.1 + 1) (va_up L.2.2.2.2.1 L.2.2.2.1 y) z = 1)) (dn - 2) 2 = L.2.2.2.1 + 1
    refine Eq.trans (cnt_one (P := fun z => decide (usM n fF fB L.2.2.2.1 L.2.2.2.2.1 z = 1)) (y := y) ?_ ?_ (fun x hx => ?_) (by omega) (by omega)) (by rw [l7])
    · show decide (_ = 1) = false
      rw [hu0]; decide
    · show decide (_ = 1) = true
      rw [hmk, if_pos rfl]; decide
    · show decide (_ = 1) = decide (_ = 1)
      rw [hmk, if_neg hx]
theorem replay {dn n ex inf : Nat} {dg rd fF fB : Nat → Nat} (hA : Ag (64 * dn) dg rd) (hdn : dn ≤ 64) (hd2 : 2 ≤ dn) : ∀ {k t : Nat} {V : RS} {L : LSt}, LR dn n ex inf rd fF fB V L → lgK dn rd fF fB n L.2.2.2.2.2.2 < k → lgK dn rd fF fB n L.2.2.2.2.2.2 < t → L.1 + 3 * lgK dn rd fF fB n L.2.2.2.2.2.2 ≤ 192 → L.2.2.2.2.2.2 + 3 * lgK dn rd fF fB n L.2.2.2.2.2.2 < 2 ^ 30 →
    LR dn n ex inf rd fF fB (rpl dn dg dn k V) (rlG dn rd fF fB n t L) ∧ (rlG dn rd fF fB n t L).2.2.2.2.2.2 ≤ L.2.2.2.2.2.2 + 3 * lgK dn rd fF fB n L.2.2.2.2.2.2 ∧ (rlG dn rd fF fB n t L).1 ≤ L.1 + 3 * lgK dn rd fF fB n L.2.2.2.2.2.2
  | 0, _, _, _, _, h, _, _, _ => absurd h (Nat.not_lt_zero _)
  | _ + 1, 0, _, _, _, _, h, _, _ => absurd h (Nat.not_lt_zero _)
  | k + 1, t + 1, V, L, h, hk, ht, hc, hn => by
    rw [rpl, rlG, nlb_fl hA h (k := dn - 2) (b := 2) (by omega) (by omega)]
    cases hf : fl dn rd fF fB n L.2.2.2.2.2.2 (dn - 2) 2 with
    | none => exact ⟨h, Nat.le_add_right _ _, Nat.le_add_right _ _⟩
    | some y =>
      have d := fl_d hf
      have hs := lgK_step d
      have st := LR_step hA hdn h ⟨d.1.1, by omega⟩ d.2.1 d.2.2.1 d.2.2.2 (by omega) (by omega)
      have zn := rds_n (rd := rd) (y := y) (k := rd (64 * y + 1)) (j := 0) (X := (L.1, L.2.1, L.2.2.1))
      have e1 : (rlT rd y L).1 = L.1 + rd (64 * y + 1) := zn
      have e2 : (rlT rd y L).2.2.2.2.2.2 = L.2.2.2.2.2.2 + rd (64 * y + 1) := rfl
      have d3 := d.2.2.1.2
      have ih := replay hA hdn hd2 (k := k) (t := t) st (by rw [e2]; omega) (by rw [e2]; omega) (by rw [e1, e2]; omega) (by rw [e2]; omega)
      rw [e1, e2] at ih
      have h1 := ih.2.1
      have h2 := ih.2.2
      exact ⟨ih.1, (show (rlG dn rd fF fB n t (rlT rd y L)).2.2.2.2.2.2 ≤ _ by omega), (show (rlG dn rd fF fB n t (rlT rd y L)).1 ≤ _ by omega)⟩
theorem nm1_cg {g d : Nat → Nat} : ∀ {k i : Nat}, (∀ j, i ≤ j → j < i + k → g j = d j) → nm1 g k i = nm1 d k i
  | 0, _, _ => rfl
  | k + 1, i, h => by
    rw [nm1, nm1, h i (by omega) (by omega), nm1_cg (k := k) (fun j h1 h2 => h j (by omega) (by omega))]
theorem ilM_cg {g d fF fB : Nat → Nat} {n z : Nat} (h : ∀ j, 64 * z ≤ j → j < 64 * z + 64 → g j = d j) : ilM g fF fB n z = ilM d fF fB n z := by
  have e1 : wh1 g z = wh1 d z := by
    unfold wh1 sm1
    rw [nm1_cg (d := d) (fun j h1 h2 => h j (by omega) (by omega)), fol_congr (v' := fun i => d (64 * z + i)) (fun j _ h2 => h _ (by omega) (by omega))]
  unfold ilM
  rw [e1, h (64 * z) (by omega) (by omega)]
theorem wol_rlW {dn n rl : Nat} {u rd fF fB lB : Nat → Nat} (hu : ∀ x, x < dn → u x = us4 rd fF fB n rl lB x) : ∀ {k z : Nat} {g d : Nat → Nat}, z + k = dn → Ag (64 * dn) g d → (∀ j, 64 * z ≤ j → j < 64 * dn → d j = rd j) → Ag (64 * dn) (wol dn dn u k z g) (rlW n fF fB rl lB k z d)
  | 0, _, _, _, _, h, _ => h
  | k + 1, z, g, d, hz, h, hd => by
    have hzd : z < dn := by omega
    rw [wol, rlW, uof, if_pos hzd, hu z hzd, ilM_cg (d := rd) (fun j h1 h2 => hd j h1 (by omega))]
    by_cases c : usM n fF fB rl lB z = 0 ∧ ilM rd fF fB n z = true
    · rw [if_pos (us4_4.mpr c), if_pos c, wipG_at hzd]
      exact wol_rlW hu (k := k) (by omega) (ag_wz h _) (fun j h1 h2 => by rw [wz_val, if_neg (by omega)]; exact hd j (by omega) h2)
    · rw [if_neg (fun q => c (us4_4.mp q)), if_neg c]
      exact wol_rlW hu (k := k) (by omega) h (fun j h1 h2 => hd j (by omega) h2)
theorem utn_us4 {dn n rl : Nat} {u rd fF fB lB : Nat → Nat} (hu : ∀ x, x < dn → u x = us4 rd fF fB n rl lB x) {x : Nat} (hx : x < dn) : utn 4 0 dn u 0 x = usM n fF fB rl lB x := by
  rw [utn_val, hu x hx]
  by_cases c : us4 rd fF fB n rl lB x = 4
  · rw [if_pos ⟨by omega, by omega, c⟩, (us4_4.mp c).1]
  · rw [if_neg (fun q => c q.2.2), us4, if_neg (fun q => c (us4_4.mpr q))]
theorem opL_ts {dn un ef : Nat} {dg eF : Nat → Nat} : ∀ {k i : Nat} {S : TS × (Nat → Nat) × Nat}, (∀ j, S.1.2.2.2 j < 2 ^ 31) → (∀ j, S.2.1 j < 8) → (∀ j, (opL dn dg un ef eF k i S).1.2.2.2 j < 2 ^ 31) ∧ (∀ j, (opL dn dg un ef eF k i S).2.1 j < 8)
  | 0, _, _, h, h2 => ⟨h, h2⟩
  | k + 1, i, S, h, h2 => opL_ts (k := k) (i := i + 1) (S := opS dn dg un ef eF i S) (rfO_lt h) (umk_lt h2 (by decide))
theorem open_core {dn rb n nx0 : Nat} {dg rd F' ug ts lB lR : Nat → Nat} {tk tv rk rv : Nat → Int64} {Z : FS} {Y : KS} {S0 : TS × (Nat → Nat) × Nat} {V0 : RS} {L0 : LSt} (hdr : dn = rb) (h4 : 4 ≤ rb) (hb : rb ≤ 64) (hA : Ag (64 * rb) dg rd) (hug : ∀ j, ug j < 8) (hts : ∀ j, ts j < 2 ^ 31) (hlB : ∀ j, lB j < 1048576) (hlR : ∀ j, lR j < 1048576)
    (hZ : HZ n F' Z) (hnx : 1 ≤ nx0 ∧ nx0 ≤ 1000000000) (hgF : ∀ g, g < n → 2 ≤ Z.2.1 g ∧ 1 ≤ Z.2.2.1 g ∧ (Z.2.2.2.1 g + 2) / 3 = Z.2.2.1 g) (hgN : ∀ g h, g < h → h < n → Z.2.1 g + Z.2.2.1 g ≤ Z.2.1 h ∨ Z.2.1 h + Z.2.2.1 h ≤ Z.2.1 g)
    (hY : rgO rb rd Z n 0 (0, rk, rv) = (none, Y)) (hS0 : opL dn dg dn n F' n 0 ((0, tk, tv, ts), uclr dn ug, 0) = S0) (hV0 : rpl dn dg dn dn (S0.1, nx0, mol dn dg dn (dn - 2) 2 S0.2.1) = V0) (hL0 : rlG rb rd Z.2.1 Z.2.2.1 n 64 (Y.1, Y.2.1, Y.2.2, 0, lB, lR, nx0) = L0) :
    LR rb n nx0 Y.1 rd Z.2.1 Z.2.2.1 V0 L0 ∧ Y.1 = ifM Z.2.2.2.1 n 0 0 ∧ S0.2.2 = mxf Z.1 n 0 0 ∧ (∀ i, i < n → Z.2.1 i + Z.2.2.1 i ≤ rb) ∧ cnt (fun x => iof Z.2.1 Z.2.2.1 x n 0) (rb - 2) 2 = ifM Z.2.2.1 n 0 0
    ∧ (Y.1 + 3 * lgK rb rd Z.2.1 Z.2.2.1 n nx0 ≤ 186 ∧ lgK rb rd Z.2.1 Z.2.2.1 n nx0 ≤ 62 ∧ L0.2.2.2.2.2.2 ≤ nx0 + 186 ∧ L0.1 ≤ 186)
    ∧ Ag (64 * rb) (wol dn dn V0.2.2 (dn - 2) 2 dg) (rlW n Z.2.1 Z.2.2.1 L0.2.2.2.1 L0.2.2.2.2.1 (rb - 2) 2 rd) ∧ (∀ x, x < rb → utn 4 0 dn V0.2.2 0 x = usM n Z.2.1 Z.2.2.1 L0.2.2.2.1 L0.2.2.2.2.1 x) := by
  subst hdr
  have hin : ∀ i, i < n → Z.2.1 i + Z.2.2.1 i ≤ dn := fun i hi => by
    have g := hgF i hi
    have z := (rgO_in hY i (by omega) (by omega) (Z.2.2.1 i - 1) (by omega)).1
    omega
  have hcf := cnt_files (rb := dn) (n := n) (fF := Z.2.1) (fB := Z.2.2.1) (fun i hi => ⟨(hgF i hi).1, hin i hi⟩) hgN (m := n) (Nat.le_refl _)
  have hle := ifM_le3 (f := Z.2.2.2.1) (g := Z.2.2.1) (k := n) (i := 0) (fun x _ q => by have := hgF x (by omega); omega)
  have hct := cnt_two (P := fun x => iof Z.2.1 Z.2.2.1 x n 0) (Q := lgP rd Z.2.1 Z.2.2.1 n nx0) (fun x q1 q2 => by
    unfold lgP at q2
    rw [Bool.and_eq_true] at q2
    have z := (of_decide_eq_true q2.1).1
    have q1 : iof Z.2.1 Z.2.2.1 x n 0 = true := q1
    rw [z] at q1
    cases q1) (dn - 2) 2
  rw [hcf] at hct
  have hlk : cnt (lgP rd Z.2.1 Z.2.2.1 n nx0) (dn - 2) 2 = lgK dn rd Z.2.1 Z.2.2.1 n nx0 := rfl
  rw [hlk] at hct
  have ho := opL_rgO (lB := lB) hA hZ (fun f hf => by have := hgF f hf; omega) (k := n) (i := 0) (S := ((0, tk, tv, ts), uclr dn ug, 0)) (X := (0, rk, rv)) (by omega) hY ⟨rfl, fun i j _ h => absurd h (Nat.not_lt_zero _), fun _ => rfl⟩ (by show 0 + ifM Z.2.2.2.1 n 0 0 ≤ 192; omega) (fun x hx => by
    show uclr dn ug x = _
    rw [uclr_val (by omega) hx, usM_new])
  have hob := opL_ts (dn := dn) (un := dn) (ef := n) (dg := dg) (eF := F') (k := n) (i := 0) (S := ((0, tk, tv, ts), uclr dn ug, 0)) hts (uclr_lt hug)
  rw [hS0] at ho hob
  obtain ⟨o1, o2, o3, o4⟩ := ho
  have o2 : Y.1 = ifM Z.2.2.2.1 n 0 0 := by
    have z : Y.1 = 0 + ifM Z.2.2.2.1 n 0 0 := o2
    omega
  have hi : LR dn n nx0 Y.1 rd Z.2.1 Z.2.2.1 (S0.1, nx0, mol dn dg dn (dn - 2) 2 S0.2.1) (Y.1, Y.2.1, Y.2.2, 0, lB, lR, nx0) := by
    refine ⟨⟨o1.1, o1.2.1, ?_⟩, ⟨rfl, ?_, Nat.le_refl _⟩, mol_us4 hA (by omega) o3, fun j hj => absurd hj (Nat.not_lt_zero _), fun i j _ hj => absurd hj (Nat.not_lt_zero _), rfl, ?_, hlB, hlR, hob.1, mol_lt hob.2⟩
    · have z := o1.2.2
      rw [lsR_congr (k := Y.2.1) (v := Y.2.2) (q := fun _ => 0) (k' := Y.2.1) (v' := Y.2.2) (q' := sqM nx0 Y.1) (fun i hi => ⟨rfl, rfl, by rw [sqM, if_pos hi]⟩)] at z
      exact z
    · show nx0 = nx0 + (Y.1 - Y.1)
      omega
    · refine cnt_none (fun x h1 _ q => ?_)
      have q : usM n Z.2.1 Z.2.2.1 0 lB x = 1 := of_decide_eq_true q
      rw [usM_0] at q
      split at q
      · omega
      · split at q <;> omega
  have hr := replay hA hb (by omega) (k := dn) (t := 64) hi (show lgK dn rd Z.2.1 Z.2.2.1 n nx0 < dn by omega) (show lgK dn rd Z.2.1 Z.2.2.1 n nx0 < 64 by omega) (show Y.1 + 3 * lgK dn rd Z.2.1 Z.2.2.1 n nx0 ≤ 192 by omega) (show nx0 + 3 * lgK dn rd Z.2.1 Z.2.2.1 n nx0 < 2 ^ 30 by omega)
  rw [hV0, hL0] at hr
  obtain ⟨r1, r2, r3⟩ := hr
  have r2 : L0.2.2.2.2.2.2 ≤ nx0 + 3 * lgK dn rd Z.2.1 Z.2.2.1 n nx0 := r2
  have r3 : L0.1 ≤ Y.1 + 3 * lgK dn rd Z.2.1 Z.2.2.1 n nx0 := r3
  refine ⟨r1, o2, o4, hin, hcf, ⟨by omega, by omega, by omega, by omega⟩, wol_rlW r1.2.2.1 (by omega) hA (fun _ _ _ => rfl), fun x hx => utn_us4 r1.2.2.1 hx⟩
set_option maxHeartbeats 4000000 in
theorem rel_open {k n gen nx0 h1 h2 s1 s2 pf pg px : Nat} {S : SC} {M : SM} {F' pF : Nat → Nat} {Z : FS} {Y : KS} {S0 : TS × (Nat → Nat) × Nat} {V0 : RS} {L0 : LSt} (hR : Rel k S M) (hF' : ∀ j, F' j < 1048576) (hpF : ∀ j, pF j < 1048576) (hZb : (∀ j, Z.1 j < 1048576) ∧ (∀ j, Z.2.1 j < 1048576) ∧ (∀ j, Z.2.2.1 j < 1048576) ∧ (∀ j, Z.2.2.2.1 j < 1048576))
    (hZ : HZ n F' Z) (hn5 : n ≤ 5) (hgen : gen ≤ 1000000000) (hnx : 1 ≤ nx0 ∧ nx0 ≤ 1000000000) (hgF : ∀ g, g < n → 2 ≤ Z.2.1 g ∧ 1 ≤ Z.2.2.1 g ∧ (Z.2.2.2.1 g + 2) / 3 = Z.2.2.1 g) (hgN : ∀ g h, g < h → h < n → Z.2.1 g + Z.2.2.1 g ≤ Z.2.1 h ∨ Z.2.1 h + Z.2.2.1 h ≤ Z.2.1 g)
    (hz : Z.2.2.2.2 = mxf Z.1 n 0 0) (hz2 : Z.2.2.2.2 ≤ 65536)
    (hY : rgO (m_rb M) (m_rd M) Z n 0 (0, m_rk M, m_rv M) = (none, Y)) (hS0 : opL (c_dn S) (c_dg S) (c_dn S) n F' n 0 ((0, c_tk S, c_tv S, c_ts S), uclr (c_dn S) (c_ug S), 0) = S0) (hV0 : rpl (c_dn S) (c_dg S) (c_dn S) (c_dn S) (S0.1, nx0, mol (c_dn S) (c_dg S) (c_dn S) (c_dn S - 2) 2 S0.2.1) = V0) (hL0 : rlG (m_rb M) (m_rd M) Z.2.1 Z.2.2.1 n 64 (Y.1, Y.2.1, Y.2.2, 0, m_lB M, m_lR M, nx0) = L0) :
    (0 < V0.2.1 ∧ Y.1 + 3 * lgK (m_rb M) (m_rd M) Z.2.1 Z.2.2.1 n nx0 ≤ 186 ∧ lgK (m_rb M) (m_rd M) Z.2.1 Z.2.2.1 n nx0 ≤ 62 ∧ V0.1.1 = L0.1) ∧ Rel (k + 1) ⟨h1, h2, s1, s2, true, V0.2.1, 0, V0.2.1 - 1, S0.2.2, c_dn S, wol (c_dn S) (c_dn S) V0.2.2 (c_dn S - 2) 2 (c_dg S), c_dn S, utn 4 0 (c_dn S) V0.2.2 0, 0, c_qt S, c_qg S, V0.1.1, V0.1.2.1, V0.1.2.2.1, V0.1.2.2.2, n, gen, nx0, F', pf, pg, px, pF⟩ ⟨m_rb M, rlW n Z.2.1 Z.2.2.1 L0.2.2.2.1 L0.2.2.2.2.1 (m_rb M - 2) 2 (m_rd M), 0, m_rQ M, m_rw M, m_ra M, true, L0.1, L0.2.1, L0.2.2.1, n, Z.1, Z.2.1, Z.2.2.1, Z.2.2.2.1, L0.2.2.2.1, L0.2.2.2.2.1, L0.2.2.2.2.2.1, 0, gen, L0.2.2.2.2.2.2, Z.2.2.2.2⟩ := by
  obtain ⟨⟨⟨b1, b2, b3, b4, b5, b6, b7⟩, ⟨d1, d2, d3, d4, d5, d6, d7, d8, d9⟩⟩, ⟨⟨n1, n2, n3⟩, n4, n5, n6, n7, n8⟩, hO, hC⟩ := hR
  obtain ⟨⟨⟨r1, r2, r3⟩, ⟨l2, l2b, l2c⟩, l3, l4, l5, l6, l7, l8, l9, l10, l11⟩, y1, z1, hin, hcf, ⟨k1, k2, k3, k4⟩, hag, hus⟩ := open_core (lB := m_lB M) (lR := m_lR M) n1 n2 n3 n4 b2 b5 d8 d9 hZ hnx hgF hgN hY hS0 hV0 hL0
  have r1 : V0.1.1 = L0.1 := r1
  refine ⟨⟨by omega, k1, k2, r1⟩, ⟨⟨wol_lt b1, utn_lt l11 (by decide), b3, b4, l10, hF', hpF⟩, ⟨rlW_lt d1, d2, d3, hZb.1, hZb.2.1, hZb.2.2.1, hZb.2.2.2, l8, l9⟩⟩, ⟨⟨n1, n2, n3⟩, hag, rfl, (show c_dn S ≤ 64 by omega), Nat.zero_le _, (show V0.1.1 ≤ 192 by omega)⟩, fun _ => ⟨⟨⟨l2, rfl, (show S0.2.2 = Z.2.2.2.2 by rw [hz, z1]), rfl, rfl, r1, n1⟩, (show 0 ≤ 2 ∧ n ≤ 5 ∧ L0.2.2.2.2.2.2 ≤ 1000000200 + 3 * (k + 1) ∧ gen ≤ 1000000000 + (k + 1) ∧ Z.2.2.2.2 ≤ 65536 + (k + 1) by omega), hus, hZ⟩, ⟨rfl, fun x hx => absurd hx (Nat.not_lt_zero _), fun x hx => absurd hx (Nat.not_lt_zero _), ⟨Nat.zero_le _, fun x hx => absurd hx (Nat.not_lt_zero _)⟩, ?_⟩, ⟨r2, ?_, ⟨hnx.1, ?_, ?_, ?_⟩⟩, ⟨fun i hi => ?_, hgN, fun x hx => (l4 x hx).1, l5, ?_, l7, ?_⟩⟩, fun o => absurd (show true = false from o) (by decide)⟩
  · show nI (V0.2.1 - 1) = (akM (m_rQ M) 0 L0.2.2.2.2.1 L0.2.2.2.2.2.1 L0.2.2.2.1 (lN L0.2.2.2.2.2.2 - lN 1 - lN 0)).toInt32
    rw [akM_0, lN_sub (by omega), lN_sub (by omega), lN_i, l2, Nat.sub_zero]
  · show SameF (lsR L0.1 V0.1.2.1 V0.1.2.2.1 V0.1.2.2.2) (lsR L0.1 L0.2.1 L0.2.2.1 (sqM nx0 (ifM Z.2.2.2.1 n 0 0)))
    rw [← y1]
    exact r3
  · show ifM Z.2.2.2.1 n 0 0 ≤ L0.1
    omega
  · show L0.2.2.2.2.2.2 = nx0 + (L0.1 - ifM Z.2.2.2.1 n 0 0)
    omega
  · show 0 + ifM Z.2.2.2.1 n 0 0 ≤ L0.1
    omega
  · have g := hgF i hi
    exact ⟨g.1, g.2.1, hin i hi, (show Z.2.2.2.1 i ≤ 3 * Z.2.2.1 i by omega)⟩
  · show L0.1 = ifM Z.2.2.2.1 n 0 0 + ifM L0.2.2.2.2.2.1 L0.2.2.2.1 0 0 + 0
    omega
  · show cnt (fun y => decide (usM n Z.2.1 Z.2.2.1 L0.2.2.2.1 L0.2.2.2.2.1 y = 2)) (m_rb M - 2) 2 = ifM Z.2.2.1 n 0 0
    rw [← hcf]
    refine cnt_eq (fun x q1 _ => ?_)
    rw [usM, if_neg (by omega)]
    cases iof Z.2.1 Z.2.2.1 x n 0 with
    | true => rfl
    | false =>
      rw [if_neg (by decide)]
      split <;> rfl
theorem rgI_lt {rb : Nat} {rd : Nat → Nat} {Z : FS} {f : Nat} (h1 : Z.2.1 f < 1048576) : ∀ {k p : Nat} {X : KS} {c : Nat}, p + k < 1048577 → (rgI rb rd Z f k p X).1 = some c → c < 2 ^ 31
  | 0, _, _, _, _, h => by rw [rgI] at h; cases h
  | k + 1, p, X, c, hp, h => by
    rw [rgI] at h
    split at h
    · exact rgI_lt h1 (k := k) (by omega) h
    · have e := Option.some.inj h
      omega
theorem rgO_lt {rb : Nat} {rd : Nat → Nat} {Z : FS} (h1 : ∀ j, Z.2.1 j < 1048576) (h2 : ∀ j, Z.2.2.1 j < 1048576) : ∀ {k i : Nat} {X : KS} {c : Nat}, (rgO rb rd Z k i X).1 = some c → c < 2 ^ 31
  | 0, _, _, _, h => by rw [rgO] at h; cases h
  | k + 1, i, X, c, h => by
    rw [rgO] at h
    cases hr : rgI rb rd Z i (Z.2.2.1 i) 0 X with
    | mk o Y =>
      rw [hr] at h
      cases o with
      | none => exact rgO_lt h1 h2 (k := k) h
      | some d =>
        have z := h2 i
        have e : d = c := Option.some.inj h
        rw [← e]
        exact rgI_lt (h1 i) (k := Z.2.2.1 i) (p := 0) (X := X) (by omega) (by rw [hr])
theorem head_files {rd fN fF fB fR : Nat → Nat} {b : Nat} {F' : Nat → Nat} {Z : FS} (hrd : ∀ j, rd j < 256) (h1 : ∀ j, fN j < 1048576) (h2 : ∀ j, fF j < 1048576) (h3 : ∀ j, fB j < 1048576) (h4 : ∀ j, fR j < 1048576) (h5 : rd (64 * b + 1) ≤ 5) (hf : ∀ j w, j < rd (64 * b + 1) → w < 4 → F' (j * 4 + w) = fd rd b j w) (hgd : ∀ j, j < rd (64 * b + 1) → goodF rd b j) (hZ : rf1 rd (64 * b) (rd (64 * b + 1)) 0 (fN, fF, fB, fR, 0) = Z) :
    HZ (rd (64 * b + 1)) F' Z ∧ (∀ g, g < rd (64 * b + 1) → 2 ≤ Z.2.1 g ∧ 1 ≤ Z.2.2.1 g ∧ (Z.2.2.2.1 g + 2) / 3 = Z.2.2.1 g) ∧ (∀ g h, g < h → h < rd (64 * b + 1) → Z.2.1 g + Z.2.2.1 g ≤ Z.2.1 h ∨ Z.2.1 h + Z.2.2.1 h ≤ Z.2.1 g)
    ∧ Z.2.2.2.2 = mxf Z.1 (rd (64 * b + 1)) 0 0 ∧ Z.2.2.2.2 ≤ 65536 ∧ ((∀ j, Z.1 j < 1048576) ∧ (∀ j, Z.2.1 j < 1048576) ∧ (∀ j, Z.2.2.1 j < 1048576) ∧ (∀ j, Z.2.2.2.1 j < 1048576)) ∧ ∀ i, hfl (rd (64 * b + 1)) F' i 0 < 2 ^ 18 := by
  have sp := fun j => rf1_spec (rd := rd) (x := 64 * b) (k := rd (64 * b + 1)) (i := 0) (Z := (fN, fF, fB, fR, 0)) j
  have sz := rf1_z (rd := rd) (x := 64 * b) (k := rd (64 * b + 1)) (i := 0) (Z := (fN, fF, fB, fR, 0))
  rw [hZ] at sp sz
  have lt : ∀ i, nm1 rd 2 i < 65536 := fun i => nm1_lt hrd 2 i
  have e : ∀ j, j < rd (64 * b + 1) → Z.1 j = fd rd b j 0 ∧ Z.2.1 j = fd rd b j 1 ∧ Z.2.2.1 j = fd rd b j 2 ∧ Z.2.2.2.1 j = fd rd b j 3 := fun j hj => by
    have z := sp j
    rw [if_pos (by omega), if_pos (by omega), if_pos (by omega), if_pos (by omega)] at z
    unfold fd
    refine ⟨z.1.trans ?_, z.2.1.trans ?_, z.2.2.1.trans ?_, z.2.2.2.trans ?_⟩ <;> (congr 1; omega)
  have hz : Z.2.2.2.2 = mxf Z.1 (rd (64 * b + 1)) 0 0 := by
    rw [sz]
    refine mxf_congr (fun x _ hx => ?_)
    have z := (sp x).1
    rw [if_pos (by omega)] at z
    exact z.symm
  refine ⟨fun i hi => ?_, fun g hg => ?_, fun g h hgh hh => ?_, hz, ?_, ⟨fun j => ?_, fun j => ?_, fun j => ?_, fun j => ?_⟩, fun i => ?_⟩
  · obtain ⟨e0, e1, e2, e3⟩ := e i hi
    unfold hfl
    rw [if_pos (by omega), if_pos (by omega), if_pos (by omega), if_pos (by omega), e0, e1, e2, e3]
    exact ⟨hf i 0 hi (by decide), hf i 1 hi (by decide), hf i 2 hi (by decide), hf i 3 hi (by decide)⟩
  · obtain ⟨e0, e1, e2, e3⟩ := e g hg
    rw [e1, e2, e3]
    have z := hgd g hg
    exact ⟨z.1, z.2.1, z.2.2.1⟩
  · obtain ⟨-, e1, e2, -⟩ := e g (by omega)
    obtain ⟨-, f1, f2, -⟩ := e h hh
    rw [e1, e2, f1, f2]
    have z := (hgd h hh).2.2.2 g hgh
    omega
  · have z : mxf (fun j => nm1 rd 2 (64 * b + 8 + 8 * j)) (rd (64 * b + 1)) 0 0 < 65536 := mxf_lt (by decide) (fun x => lt _)
    have z2 : Z.2.2.2.2 = mxf (fun j => nm1 rd 2 (64 * b + 8 + 8 * j)) (rd (64 * b + 1)) 0 0 := sz
    omega
  · rw [(sp j).1]
    have z := lt (64 * b + 8 + 8 * j)
    have z2 := h1 j
    split
    · omega
    · exact z2
  · rw [(sp j).2.1]
    have z := lt (64 * b + 10 + 8 * j)
    have z2 := h2 j
    split
    · omega
    · exact z2
  · rw [(sp j).2.2.1]
    have z := lt (64 * b + 12 + 8 * j)
    have z2 := h3 j
    split
    · omega
    · exact z2
  · rw [(sp j).2.2.2]
    have z := lt (64 * b + 14 + 8 * j)
    have z2 := h4 j
    split
    · omega
    · exact z2
  · unfold hfl
    split
    · rename_i c
      rw [hf i 0 c.1 (by decide)]
      have z := lt (64 * b + (8 + 2 * (i * 4 + 0)))
      unfold fd
      omega
    · decide
theorem fw_eq {dn rb n : Nat} {dg rd F' : Nat → Nat} {Z : FS} {X : KS} {Y0 : Option Nat × KS} (hd : dn = rb) (hA : Ag (64 * rb) dg rd) (hZ : HZ n F' Z) (hY : rgO rb rd Z n 0 X = Y0) : fwO dn dg n F' n 0 = Y0.1 := by
  subst hd
  rw [← hY]
  exact fwO_rgO hA hZ (by omega)
