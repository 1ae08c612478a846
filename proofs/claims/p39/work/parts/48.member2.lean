section MEMBER2
theorem lp_genE {σ S β : Type} {z : σ} {f : σ → σ} {R : Option β → Prop} (app : σ → S → Option β) (I : Nat → S → Prop) (n : Nat) (hs : ∀ i s w, i < n → I i s → ∃ s', app (f w) s = app w s' ∧ I (i + 1) s') (he : ∀ s w, I n s → R (app (f w) s)) (N a : Nat) (s : S) (ha : a ≤ n) (hN : n < a + N) (hI : I a s) : R (app (lp z f N) s) := by
  induction N generalizing a s with
  | zero => omega
  | succ N ih =>
    rw [lp_s]
    by_cases c : a = n
    · subst c; exact he s _ hI
    · obtain ⟨s', e1, e2⟩ := hs a s (lp z f N) (by omega) hI
      rw [e1]
      exact ih (a + 1) s' (by omega) (by omega) e2
def dgv (L : Nat → Int32) (p : Nat) : Nat := (L p).toNatClampNeg - 48
def dvl (L : Nat → Int32) (p : Nat) : Nat → Nat
  | 0 => 0
  | j + 1 => dvl L p j * 10 + dgv L (p + j)
theorem dvl_s (L : Nat → Int32) (p j : Nat) : dvl L p (j + 1) = dvl L p j * 10 + dgv L (p + j) := rfl
theorem dg_step {v d : Nat} : nI v * 10 + nI (48 + d) - 48 = nI (v * 10 + d) ∧ (10 : Int32) * nI v + nI (48 + d) - 48 = nI (v * 10 + d) := by
  have a : nI v * 10 + nI (48 + d) - 48 = nI (v * 10 + d) := by
    rw [show (10 : Int32) = nI 10 from rfl, pk_mul, nI_add, show (48 : Int32) = nI 48 from rfl, pk_sub (by omega)]
    congr 1
    omega
  refine ⟨a, ?_⟩
  rw [Int32.mul_comm, a]
def F63 (h h' : pq_H) : Prop := (∀ P k, (P ≠ 63 ∨ k ≠ 2) → rI h' P k = rI h P k) ∧ ∀ P k, rR h' P k = rR h P k
def F12 (h h' : pq_H) : Prop := (∀ P k, (P ≠ 0 ∨ k ≠ 12) → rI h' P k = rI h P k) ∧ ∀ P k, rJ h' P k = rJ h P k
theorem F63.wI {h h' : pq_H} (f : F63 h h') (v : Int32) : F63 h (wI h' 63 2 v) := ⟨fun P k e => by rw [rI_ne (by omega)]; exact f.1 P k e, f.2⟩
theorem F12.wI {h h' : pq_H} (f : F12 h h') (v : Int32) : F12 h (wI h' 0 12 v) := ⟨fun P k e => by rw [rI_ne (by omega)]; exact f.1 P k e, f.2⟩
theorem F63.rf (h : pq_H) : F63 h h := ⟨fun _ _ _ => rfl, fun _ _ => rfl⟩
theorem F12.rf (h : pq_H) : F12 h h := ⟨fun _ _ _ => rfl, fun _ _ => rfl⟩
end MEMBER2
