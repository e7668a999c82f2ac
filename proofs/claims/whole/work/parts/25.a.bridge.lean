def Ag (N : Nat) (g d : Nat → Nat) : Prop := ∀ j, j < N → g j = d j
theorem bv_at {n : Nat} {g : Nat → Nat} {b i : Nat} (hb : b < n) (hi : i < 64) : bv n g b i = g (64 * b + i) := by
  rw [bv, if_pos ⟨hb, hi⟩, Nat.mul_comm]
theorem bput_at {n : Nat} {g : Nat → Nat} {b i v : Nat} (hb : b < n) (hi : i < 64) : bput n g b i v = va_up g (64 * b + i) (v % 256) := by
  rw [bput, if_pos ⟨hb, hi⟩, Nat.mul_comm]
theorem pnum_at {n b : Nat} (hb : b < n) : ∀ {k : Nat} {g : Nat → Nat} {i v : Nat}, i + k ≤ 64 → pnum n b k g i v = pn1 k g (64 * b + i) v
  | 0, _, _, _, _ => rfl
  | k + 1, g, i, v, h => by
    rw [pnum, pn1, bput_at hb (by omega), Nat.mod_mod, pnum_at hb (k := k) (by omega)]
    rfl
theorem wip_at {n b : Nat} (hb : b < n) : ∀ {k : Nat} {g : Nat → Nat} {i : Nat}, i + k ≤ 64 → wip n b k g i = wz k g (64 * b + i)
  | 0, _, _, _ => rfl
  | k + 1, g, i, h => by
    rw [wip, wz, bput_at hb (by omega), wip_at hb (k := k) (by omega)]
    rfl
theorem wipG_at {n b : Nat} (hb : b < n) {g : Nat → Nat} : wipG n b g = wz 64 g (64 * b) := wip_at hb (Nat.le_refl _)
theorem num_at {n b : Nat} (hb : b < n) {g : Nat → Nat} : ∀ {k i : Nat}, i + k ≤ 64 → num n g b k i = nm1 g k (64 * b + i)
  | 0, _, _ => rfl
  | k + 1, i, h => by
    rw [num, nm1, bv_at hb (by omega), num_at hb (k := k) (by omega)]
    rfl
theorem fol_congr {st : Int64 → Nat → Int64} {v v' : Nat → Nat} : ∀ {k i : Nat} {s : Int64}, (∀ j, i ≤ j → j < i + k → v j = v' j) → fol st v k i s = fol st v' k i s
  | 0, _, _, _ => rfl
  | k + 1, i, s, h => by
    rw [fol_s, fol_s, h i (by omega) (by omega)]
    exact fol_congr (fun j h1 h2 => h j (by omega) (by omega))
theorem smG_at {n b : Nat} (hb : b < n) {g : Nat → Nat} {d : Nat} : smG n g b d = sm1 g (64 * b) d := fol_congr (fun j _ h2 => bv_at hb (by omega))
theorem whole_at {n b : Nat} (hb : b < n) {g : Nat → Nat} : whole n g b = wh1 g b := by
  rw [whole, wh1, num_at hb (by decide), smG_at hb]
theorem ag_up {N : Nat} {g d : Nat → Nat} (h : Ag N g d) (k v : Nat) : Ag N (va_up g k v) (va_up d k v) := fun j hj => by
  unfold va_up
  split
  · rfl
  · exact h j hj
theorem nm1_ag {N : Nat} {g d : Nat → Nat} (h : Ag N g d) : ∀ {k i : Nat}, i + k ≤ N → nm1 g k i = nm1 d k i
  | 0, _, _ => rfl
  | k + 1, i, hi => by
    rw [nm1, nm1, h i (by omega), nm1_ag h (k := k) (by omega)]
theorem sm1_ag {N : Nat} {g d : Nat → Nat} (h : Ag N g d) {f x : Nat} (hf : f + 56 ≤ N) : sm1 g f x = sm1 d f x := fol_congr (fun j _ h2 => h (f + j) (by omega))
theorem wh1_ag {N : Nat} {g d : Nat → Nat} (h : Ag N g d) {b : Nat} (hf : 64 * b + 64 ≤ N) : wh1 g b = wh1 d b := by
  rw [wh1, wh1, nm1_ag h (by omega), sm1_ag h (by omega)]
theorem ag_wz {N : Nat} : ∀ {k : Nat} {g d : Nat → Nat} (_ : Ag N g d) (i : Nat), Ag N (wz k g i) (wz k d i)
  | 0, _, _, h, _ => h
  | k + 1, _, _, h, i => ag_wz (k := k) (ag_up h i 0) (i + 1)
theorem ag_pn1 {N : Nat} : ∀ {k : Nat} {g d : Nat → Nat} (_ : Ag N g d) (i v : Nat), Ag N (pn1 k g i v) (pn1 k d i v)
  | 0, _, _, h, _, _ => h
  | k + 1, _, _, h, i, v => ag_pn1 (k := k) (ag_up h i (v % 256)) (i + 1) (v / 256)
theorem ag_en1 {N : Nat} {g d : Nat → Nat} (h : Ag N g d) {a x : Nat} (ha : a + 56 ≤ N) : Ag N (en1 g a x) (en1 d a x) := by
  unfold en1
  rw [sm1_ag h ha]
  exact ag_pn1 h _ _
theorem wz_val : ∀ {k : Nat} {g : Nat → Nat} {i j : Nat}, wz k g i j = if i ≤ j ∧ j < i + k then 0 else g j
  | 0, g, i, j => by
    rw [wz, if_neg (by omega)]
  | k + 1, g, i, j => by
    rw [wz, wz_val (k := k)]
    unfold va_up
    split
    · rw [if_pos (by omega)]
    · split
      · rw [if_pos (by omega)]
      · rw [if_neg (by omega)]
theorem qsl_at {i : Nat} (hi : i < 64) {t g : Nat → Nat} : qsl i t g = en1 g (64 * i) (t i) := by
  rw [qsl, pnum_at hi (by decide), smG_at hi, en1]
theorem qap_at {n : Nat} (hn : n < 64) {g : Nat → Nat} {so pa : Nat} : qap n g so pa = pn1 1 (pn1 1 (wz 64 g (64 * n)) (64 * n + 0) so) (64 * n + 1) pa := by
  rw [qap, wipG_at hn, bput_at hn (by decide), bput_at hn (by decide)]
  rfl
theorem ren_val {n : Nat} (hn : n ≤ 64) : ∀ {k : Nat} {g : Nat → Nat} {b : Nat}, b + k ≤ n → ∀ j, ren n k g b j = if 64 * b ≤ j ∧ j < 64 * (b + k) then 0 else g j
  | 0, g, b, h, j => by
    rw [ren, if_neg (by omega)]
  | k + 1, g, b, h, j => by
    rw [ren, ren_val hn (k := k) (by omega), wipG_at (by omega), wz_val]
    split
    · rw [if_pos (by omega)]
    · split
      · rw [if_pos (by omega)]
      · rw [if_neg (by omega)]
theorem qdr_blk {dn : Nat} {t g : Nat → Nat} (hg : ∀ j, g j < 256) {i : Nat} (hi : i < 64) (ht : t i < dn) : ∀ {k j : Nat} {d : Nat → Nat}, j + k ≤ 64 → qdr dn t g k (64 * i + j) d = prI t g i k j d
  | 0, _, _, _ => rfl
  | k + 1, j, d, h => by
    have e1 : (64 * i + j) / 64 = i := by omega
    have e2 : (64 * i + j) % 64 = j := by omega
    rw [qdr, prI, e1, e2, bput_at ht (by omega), bv_at hi (by omega), Nat.mod_eq_of_lt (hg _)]
    exact qdr_blk hg hi ht (k := k) (j := j + 1) (by omega)
theorem qdr_add {dn : Nat} {t g : Nat → Nat} : ∀ {k1 k2 i : Nat} {d : Nat → Nat}, qdr dn t g (k1 + k2) i d = qdr dn t g k2 (i + k1) (qdr dn t g k1 i d)
  | 0, k2, i, d => by
    rw [Nat.zero_add]
    rfl
  | k1 + 1, k2, i, d => by
    rw [show k1 + 1 + k2 = (k1 + k2) + 1 by omega, qdr, qdr, qdr_add (k1 := k1), show i + (k1 + 1) = i + 1 + k1 by omega]
theorem qdr_prO {dn : Nat} {t g : Nat → Nat} (hg : ∀ j, g j < 256) : ∀ {k i left n : Nat} {d : Nat → Nat}, i + k ≤ 64 → (∀ x, x < i + k → t x < dn) → prO t g k i left n d = (n + min left (64 * k) / 64, qdr dn t g (min left (64 * k)) (64 * i) d)
  | 0, i, left, n, d, _, _ => by
    rw [prO, show min left (64 * 0) = 0 by omega]
    rfl
  | k + 1, i, left, n, d, hk, ht => by
    rw [prO]
    split
    · rename_i h0
      subst h0
      rw [show min 0 (64 * (k + 1)) = 0 by omega]
      rfl
    · rename_i h0
      rw [qdr_prO hg (k := k) (by omega) (fun x hx => ht x (by omega)), ← qdr_blk hg (by omega) (ht i (by omega)) (j := 0) (by omega), Nat.add_zero]
      rcases Nat.lt_or_ge left 64 with q | q
      · rw [if_neg (by omega), show min (left - min left 64) (64 * k) = 0 by omega, show min left 64 = min left (64 * (k + 1)) by omega]
        rw [show min left (64 * (k + 1)) / 64 = 0 by omega]
        rfl
      · rw [if_pos (by omega), show min left 64 = 64 by omega, show min left (64 * (k + 1)) = 64 + min (left - 64) (64 * k) by omega, qdr_add, show 64 * (i + 1) = 64 * i + 64 by omega]
        rw [show n + (64 + min (left - 64) (64 * k)) / 64 = n + 1 + min (left - 64) (64 * k) / 64 by omega]
        rfl
theorem prI_ag {N : Nat} {t t' g g' : Nat → Nat} {i : Nat} (ht : t i = t' i) : ∀ {k j : Nat} {d d' : Nat → Nat} (_ : ∀ x, x < j + k → g (64 * i + x) = g' (64 * i + x)) (_ : Ag N d d'), Ag N (prI t g i k j d) (prI t' g' i k j d')
  | 0, _, _, _, _, h => h
  | k + 1, j, d, d', hg, h => by
    rw [prI, prI, ht, hg j (by omega)]
    exact prI_ag ht (k := k) (fun x hx => hg x (by omega)) (ag_up h _ _)
theorem prO_ag {N : Nat} {t t' g g' : Nat → Nat} : ∀ {k i left n : Nat} {d d' : Nat → Nat} (_ : ∀ x, x < i + k → t x = t' x) (_ : Ag (64 * (i + k)) g g') (_ : Ag N d d'), (prO t g k i left n d).1 = (prO t' g' k i left n d').1 ∧ Ag N (prO t g k i left n d).2 (prO t' g' k i left n d').2
  | 0, _, _, _, _, _, _, _, h => ⟨rfl, h⟩
  | k + 1, i, left, n, d, d', ht, hg, h => by
    rw [prO, prO]
    split
    · exact ⟨rfl, h⟩
    · exact prO_ag (k := k) (fun x hx => ht x (by omega)) (fun x hx => hg x (by omega)) (prI_ag (ht i (by omega)) (fun x hx => hg _ (by omega)) h)
theorem drain_ag {dn qn m : Nat} {qt qg rQ rw dg rd : Nat → Nat} (hqn : qn ≤ 64) (hg : ∀ j, qg j < 256) (ht : ∀ x, x < qn → qt x < dn) (h1 : ∀ x, x < qn → qt x = rQ x) (h2 : Ag (64 * qn) qg rw) (h3 : Ag (64 * dn) dg rd) :
    (prO rQ rw qn 0 m 0 rd).1 = min m (qn * 64) / 64 ∧ Ag (64 * dn) (qdr dn qt qg (min m (qn * 64)) 0 dg) (prO rQ rw qn 0 m 0 rd).2 := by
  have e := qdr_prO (dn := dn) hg (k := qn) (i := 0) (left := m) (n := 0) (d := dg) (by omega) (fun x hx => ht x (by omega))
  have a := prO_ag (N := 64 * dn) (t := qt) (t' := rQ) (g := qg) (g' := rw) (k := qn) (i := 0) (left := m) (n := 0) (d := dg) (d' := rd) (fun x hx => h1 x (by omega)) (fun x hx => h2 x (by omega)) h3
  rw [e, Nat.mul_comm 64 qn] at a
  refine ⟨?_, a.2⟩
  rw [← a.1]
  exact Nat.zero_add _
