
theorem uof_lt {n : Nat} {u : Nat → Nat} (hu : ∀ j, u j < 8) {b : Nat} : uof n u b < 8 := by
  unfold uof
  split
  · exact hu _
  · decide
theorem umk_lt {n f v : Nat} : ∀ {k : Nat} {u : Nat → Nat} (_ : ∀ j, u j < 8) (_ : v < 8) {i : Nat}, ∀ j, umk n f v k u i j < 8
  | 0, _, hu, _, _ => hu
  | k + 1, u, hu, hv, i => by
    rw [umk]
    refine umk_lt ?_ hv
    split
    · exact va_up_lt hu hv
    · exact hu
theorem utn_lt {x y : Nat} : ∀ {k : Nat} {u : Nat → Nat} (_ : ∀ j, u j < 8) (_ : y < 8) {i : Nat}, ∀ j, utn x y k u i j < 8
  | 0, _, hu, _, _ => hu
  | k + 1, u, hu, hy, i => by
    rw [utn]
    refine utn_lt ?_ hy
    split
    · exact va_up_lt hu hy
    · exact hu
theorem uclr_lt {n : Nat} {u : Nat → Nat} (hu : ∀ j, u j < 8) : ∀ j, uclr n u j < 8 := umk_lt (umk_lt hu (by decide)) (by decide)
theorem x_lr {b w : Nat} (h : w ≤ b + 1) : nI b - nI w + nI 1 = nI (b + 1 - w) := by
  have h1 : nI (b + 1) = nI b + nI 1 := (nI_add b 1).symm
  rw [← pk_sub h, h1]
  simp only [Int32.sub_eq_add_neg, Int32.add_assoc]
  rw [Int32.add_comm (-nI w) (nI 1)]
def okU (Wf : (Nat → Nat) → va_W) (k0 k1 a0 a1 : Nat) (cI : ClassId) (n : Nat) : Prop :=
  (∀ u, (Wf u)[k0]? = some (a0, .inr (4, [.ref a1, .int (nI n)]))) ∧ (∀ u : Nat → Nat, (Wf u)[k1]? = some (a1, .inl (cI, 64, .inl (fun j => nI (u j))))) ∧ (∀ u u' : Nat → Nat, (Wf u).set k1 (a1, .inl (cI, 64, .inl (fun j => nI (u' j)))) = Wf u')
def okUn (Wf : Nat → (Nat → Nat) → va_W) (k0 k1 a0 a1 : Nat) (cI : ClassId) : Prop :=
  (∀ n u, (Wf n u)[k0]? = some (a0, .inr (4, [.ref a1, .int (nI n)]))) ∧ (∀ (n : Nat) (u : Nat → Nat), (Wf n u)[k1]? = some (a1, .inl (cI, 64, .inl (fun j => nI (u j))))) ∧ (∀ (n : Nat) (u : Nat → Nat) (n' : Nat), (Wf n u).set k0 (a0, .inr (4, [.ref a1, .int (nI n')])) = Wf n' u) ∧ (∀ (n : Nat) (u u' : Nat → Nat), (Wf n u).set k1 (a1, .inl (cI, 64, .inl (fun j => nI (u' j)))) = Wf n u')
theorem okUn_U {Wf : Nat → (Nat → Nat) → va_W} {k0 k1 a0 a1 : Nat} {cI : ClassId} (h : okUn Wf k0 k1 a0 a1 cI) (n : Nat) : okU (Wf n) k0 k1 a0 a1 cI n := ⟨fun u => h.1 n u, fun u => h.2.1 n u, fun u u' => h.2.2.2 n u u'⟩
