section MEMBER
theorem b2n {b : Bool} (h : ¬ b = true) : b = false := by cases b; rfl; exact absurd rfl h
def FRC (i : Nat) (h h' : pq_H) : Prop := (∀ P k, (P ≠ 63 ∨ (k ≠ 2 ∧ k ≠ 3)) → (P ≠ 64 ∨ k ≠ i) → rI h' P k = rI h P k) ∧ ∀ P k, rR h' P k = rR h P k
def FRM (i : Nat) (h h' : pq_H) : Prop := (∀ P k, (P ≠ 0 ∨ k ≠ 12) → (P ≠ 10 ∨ k ≠ i) → rI h' P k = rI h P k) ∧ ∀ P k, rJ h' P k = rJ h P k
theorem fits_ok {h : pq_H} {d lim x : Nat} (hl : lim ≤ 6) (hd : d ≤ 6) (hx : x ≤ 6) (dC : rI h 63 3 = nI d) (fC : (rI h 63 4 = -1 ∧ lim = 6) ∨ rI h 63 4 = nI lim) : f_X2_fits (nI x) h = decide (d + x ≤ lim) := by
  unfold f_X2_fits f_X2_fits_j23
  rw [dC, nI_add]
  have fin : ∀ l : Nat, l ≤ 6 → (if nI l < nI (d + x) then false else true) = decide (d + x ≤ l) := by
    intro l hl
    by_cases z : d + x ≤ l
    · rw [if_neg (nI_nlt z (by omega)), decide_eq_true z]
    · rw [if_pos (nI_lt (by omega) (by omega)), decide_eq_false z]
  rcases fC with ⟨a, b⟩ | a
  · rw [a, if_pos rfl, b]
    exact fin 6 (by omega)
  · rw [a, if_neg (fun z => ch_no (k := 1) (c := lim) (by omega) (by omega) (by omega) z.symm)]
    exact fin lim hl
def PW (m : Nat) (L : Nat → Int32) (i p d lim : Nat) (hC hM : pq_H) (a b : Bool × pq_H) : Prop := a.1 = b.1 ∧ ∃ p', p ≤ p' ∧ p' ≤ m ∧ rI a.2 63 2 = nI p' ∧ rI b.2 0 12 = nI p' ∧ FRC i hC a.2 ∧ FRM i hM b.2 ∧ (a.1 = true → ∃ e, d + e ≤ lim ∧ (e = 0 ↔ p' = p) ∧ rI a.2 63 3 = nI (d + e) ∧ rI a.2 64 i = nI e ∧ rI b.2 10 i = nI e)
end MEMBER
