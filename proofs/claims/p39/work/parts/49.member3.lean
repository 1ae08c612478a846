section MEMBER3
theorem lp_4 {σ : Type} (z : σ) (f : σ → σ) : lp z f 1000 = f (f (f (f (lp z f 996)))) := rfl
def FR2 (n : Nat) (h h' : pq_H) : Prop := (∀ P k, P ≠ 63 → P ≠ 64 → P ≠ n + 12 → rI h' P k = rI h P k) ∧ ∀ P k, rR h' P k = rR h P k
def FM2 (h h' : pq_H) : Prop := ∀ P k, (P ≠ 0 ∨ k ≠ 12) → P ≠ 10 → rI h' P k = rI h P k
def sgn (neg : Bool) (v : Nat) : Int32 := if neg = true then -nI v else nI v
def MB (n m p : Nat) (neg : Bool) (hC hM : pq_H) (a : Bool × pq_H) (b : Int32 × pq_H) : Prop :=
  FR2 n hC a.2 ∧ FM2 hM b.2 ∧ ∃ p', p ≤ p' ∧ p' ≤ m ∧ rI a.2 63 2 = nI p' ∧ rI b.2 0 12 = nI p' ∧ ((a.1 = false ∧ b.1 = -9) ∨ (a.1 = true ∧ p < p' ∧ ∃ D t v, b.1 = nI D ∧ D ≤ 6 ∧ (rI hC 63 4 = -1 ∨ rI hC 63 4 = nI D) ∧ rI a.2 63 4 = nI D ∧ t < tri (D + 1) ∧ v ≤ 999 ∧ rI a.2 (n + 12) t = rI hC (n + 12) t + sgn neg v ∧ (∀ k, k ≠ t → rI a.2 (n + 12) k = rI hC (n + 12) k) ∧ rJ b.2 8 t = rJ hM 8 t + (sgn neg v).toInt64 ∧ ∀ k, k ≠ t → rJ b.2 8 k = rJ hM 8 k))
theorem ok2_bd2 {α β γ δ : Type} {x : Option (α × pq_H)} {y : Option (γ × pq_H)} {f : α → pq_H → Option β} {g : γ → pq_H → Option δ} {P : α × pq_H → γ × pq_H → Prop} {Q : β → δ → Prop} (h : ok2 x y P) (k : ∀ a h1 b h2, P (a, h1) (b, h2) → ok2 (f a h1) (g b h2) Q) : ok2 (bd2 x f) (bd2 y g) Q := by
  obtain ⟨⟨a, h1⟩, ⟨b, h2⟩, e1, e2, p⟩ := h
  subst e1 e2
  exact k a h1 b h2 p
end MEMBER3
