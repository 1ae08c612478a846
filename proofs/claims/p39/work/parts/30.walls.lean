section WALLS
variable {hC hM : pq_H}
def allB (p : Nat → Bool) : Nat → Bool
  | 0 => true
  | n + 1 => allB p n && p n
theorem allB_s (p : Nat → Bool) (n : Nat) : allB p (n + 1) = (allB p n && p n) := rfl
theorem allB_f {p : Nat → Bool} {i n : Nat} (h : i < n) (hp : p i = false) : allB p n = false := by
  induction n with
  | zero => omega
  | succ n ih =>
    rw [allB_s]
    by_cases e : i = n
    · subst e; rw [hp, Bool.and_false]
    · rw [ih (by omega), Bool.false_and]
theorem allB_t {p : Nat → Bool} {n : Nat} (h : allB p n = true) {i : Nat} (hi : i < n) : p i = true := by
  cases e : p i with
  | true => rfl
  | false => rw [allB_f hi e] at h; cases h
def LST (hC hM : pq_H) (l s : Nat) : Prop := l < 3 ∧ s ≤ 40 ∧ rI hC 81 l = nI s ∧ rI hM 20 l = nI s ∧ ∀ i, i < s → rI hM 21 (40 * l + i) = rI hC (52 + l) i
theorem far11 (h : pq_H) : f_X10_refuseFar (-11) h = some (4000000000000000011, h) := by
  have e : (4000000000000000000 : Int64) - (-11 : Int32).toInt64 = 4000000000000000011 := by decide +kernel
  unfold f_X10_refuseFar f_X10_refuse
  rw [if_neg (by decide), if_pos (by decide), bd2_some, e]
theorem neg_pos {x : Int32} (h : ¬ x < 0) : 0 ≤ x := Int32.not_lt.mp h
def wlV (hC : pq_H) (l d i : Nat) : Int64 := (f_X4_wall (nI l) (nI d) (nI i) hC).getD 0
def clrW (hC : pq_H) (l : Nat) (p : Int32) (d : Nat) : Bool := allB (fun i => !f_X10_fails (wlV hC l d i) p) (d + 1)
/-- the first degree by which the walls are clear, from d0 on -/
def fstD (g : Nat → Bool) (d0 : Nat) (r : Int32) : Prop := (∃ d, d0 ≤ d ∧ d ≤ 16 ∧ g d = true ∧ (∀ j, d0 ≤ j → j < d → g j = false) ∧ r = nI d) ∨ ((∀ d, d0 ≤ d → d ≤ 16 → g d = false) ∧ r = -9)
theorem fstD_eq {g : Nat → Bool} {d0 : Nat} {r r' : Int32} (h : fstD g d0 r) (h' : fstD g d0 r') : r = r' := by
  rcases h with ⟨d, a1, a2, a3, a4, a5⟩ | ⟨a1, a2⟩ <;> rcases h' with ⟨e, b1, b2, b3, b4, b5⟩ | ⟨b1, b2⟩
  · rcases Nat.lt_trichotomy d e with z | z | z
    · rw [b4 d a1 z] at a3; cases a3
    · subst z; rw [a5, b5]
    · rw [a4 e b1 z] at b3; cases b3
  · rw [b1 d a1 a2] at a3; cases a3
  · rw [a1 e b1 b2] at b3; cases b3
  · rw [a2, b2]
end WALLS
