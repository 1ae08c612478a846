section INV
/-- what the class's scratch leaves as it was -/
def frC (h h' : pq_H) : Prop := (∀ p, (p < 59 ∨ p = 61 ∨ p = 62 ∨ (65 ≤ p ∧ p ≤ 69) ∨ 73 < p) → ∀ k, rI h' p k = rI h p k) ∧ ∀ k, rR h' 72 k = rR h 72 k
theorem frC.rf (h : pq_H) : frC h h := ⟨fun _ _ _ => rfl, fun _ => rfl⟩
theorem frC.tr {a b c : pq_H} (h1 : frC a b) (h2 : frC b c) : frC a c := ⟨fun p hp k => (h2.1 p hp k).trans (h1.1 p hp k), fun k => (h2.2 k).trans (h1.2 k)⟩
theorem frC.wI (h : pq_H) (p k : Nat) (v : Int32) (hp : ¬ (p < 59 ∨ p = 61 ∨ p = 62 ∨ (65 ≤ p ∧ p ≤ 69) ∨ 73 < p)) : frC h (wI h p k v) := ⟨fun q hq j => by rw [rI_wI, if_neg (by omega)], fun j => rfl⟩
theorem frC.wJ (h : pq_H) (p k : Nat) (v : Int64) : frC h (wJ h p k v) := ⟨fun q hq j => rfl, fun j => rfl⟩
theorem frC.wR (h : pq_H) (p k : Nat) (v : Option Nat) (hp : p ≠ 72) : frC h (wR h p k v) := ⟨fun q hq j => rfl, fun j => by rw [rR_wR, if_neg (fun z => hp z.1.symm)]⟩
theorem FormC.fr {h h' : pq_H} {p : Nat} {F : pF} (hF : FormC h p F) (h1 : ∀ k, rI h' p k = rI h p k) (h2 : ∀ k, rI h' (p + 12) k = rI h (p + 12) k) : FormC h' p F := ⟨(h1 1).trans hF.1, (h1 2).trans hF.2.1, (h1 3).trans hF.2.2.1, fun t ht => (h2 t).trans (hF.2.2.2 t ht)⟩
theorem FormC.frC {h h' : pq_H} {p : Nat} {F : pF} (hF : FormC h p F) (hp : p < 12) (hf : frC h h') : FormC h' p F := hF.fr (hf.1 p (by omega)) (hf.1 (p + 12) (by omega))
def FormK (h : pq_H) (f : Nat) (F : pF) : Prop := rI h 22 (1 + 3 * f) = nI F.1 ∧ rI h 22 (2 + 3 * f) = nI F.2.1 ∧ rI h 22 (3 + 3 * f) = nI F.2.2.1 ∧ ∀ t, t < 28 → rI h 22 (19 + (28 * f + t)) = F.2.2.2 t
def UE (n : Nat) (hC hM : pq_H) (j k : Nat) : Prop := ∃ f, f < n ∧ rI hC 75 j = nI f ∧ ((∃ t, t < 28 ∧ rI hC 76 j = nI t ∧ rI hM 6 k = nI (28 * f + t) ∧ rI hM 7 k = rI hC 77 j ∧ bdI (rI hC 77 j)) ∨ (rI hC 76 j = -1 ∧ ∃ a b, a ≤ 5 ∧ b ≤ 9 ∧ rI hC 77 j = nI a ∧ rI hC 78 j = nI b ∧ rI hM 6 k = -1 - nI f ∧ rI hM 7 k = nI (10 * a + b)))
def Perm (hC : pq_H) : Prop := ∃ σ : Nat → Nat, (∀ t, t < 28 → rR hC 72 t = some (24 + σ t) ∧ σ t < 28) ∧ ∀ t t', t < 28 → t' < 28 → σ t = σ t' → t = t'
theorem Perm.fr {hC hC' : pq_H} (i : Perm hC) (c1 : ∀ k, rR hC' 72 k = rR hC 72 k) : Perm hC' := by
  obtain ⟨s, a, b⟩ := i
  exact ⟨s, fun t ht => by rw [c1]; exact a t ht, b⟩
end INV
