section OPS1
variable {hC hM : pq_H}
theorem rI_same (h : pq_H) (p k : Nat) (v : Int32) : rI (wI h p k v) p k = v := if_pos ⟨rfl, rfl⟩
theorem rI_ne {h : pq_H} {p k q j : Nat} {v : Int32} (hn : q ≠ p ∨ j ≠ k) : rI (wI h p k v) q j = rI h q j := if_neg (by omega)
theorem rJ_same (h : pq_H) (p k : Nat) (v : Int64) : rJ (wJ h p k v) p k = v := if_pos ⟨rfl, rfl⟩
theorem rJ_ne {h : pq_H} {p k q j : Nat} {v : Int64} (hn : q ≠ p ∨ j ≠ k) : rJ (wJ h p k v) q j = rJ h q j := if_neg (by omega)
theorem rR_same (h : pq_H) (p k : Nat) (v : Option Nat) : rR (wR h p k v) p k = v := if_pos ⟨rfl, rfl⟩
theorem rR_ne {h : pq_H} {p k q j : Nat} {v : Option Nat} (hn : q ≠ p ∨ j ≠ k) : rR (wR h p k v) q j = rR h q j := if_neg (by omega)
theorem bd2_id {α : Type} (x : Option (α × pq_H)) : (bd2 x fun r h => some (r, h)) = x := by
  cases x <;> rfl
theorem bind_id {α : Type} (x : Option α) : (x.bind fun r => some r) = x := by
  cases x <;> rfl
end OPS1
