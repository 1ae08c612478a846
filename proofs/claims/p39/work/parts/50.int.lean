section INTR
def bZ (A : Nat → Nat → Int) (y z : Int) (s : Nat) : Nat → Int
  | 0 => 0
  | k + 1 => bZ A y z s k * y + A s k * z ^ k
def hZ (A : Nat → Nat → Int) (x y z : Int) : Nat → Int
  | 0 => 0
  | s + 1 => hZ A x y z s * x + bZ A y z s (s + 1)
def rzZ (g D : Nat) (A : Nat → Nat → Int) (s k : Nat) : Int := ((if g % 2 = 1 ∧ s ≤ D then A s k else 0) + (if g / 2 % 2 = 1 ∧ k < s then A (s - 1) k else 0)) + (if g / 4 % 2 = 1 ∧ 0 < k then A (s - 1) (k - 1) else 0)
def rnZ (g D : Nat) (A : Nat → Nat → Int) : Nat → Nat → Nat → Int
  | 0 => A
  | n + 1 => rzZ g (D + n) (rnZ g D A n)
theorem bZ_s (A : Nat → Nat → Int) (y z : Int) (s k : Nat) : bZ A y z s (k + 1) = bZ A y z s k * y + A s k * z ^ k := rfl
theorem hZ_s (A : Nat → Nat → Int) (x y z : Int) (s : Nat) : hZ A x y z (s + 1) = hZ A x y z s * x + bZ A y z s (s + 1) := rfl
theorem bZ_congr {A B : Nat → Nat → Int} {y z : Int} {s : Nat} : ∀ n, (∀ k, k < n → A s k = B s k) → bZ A y z s n = bZ B y z s n
  | 0, _ => rfl
  | n + 1, h => by rw [bZ_s, bZ_s, bZ_congr n (fun k hk => h k (by omega)), h n (by omega)]
theorem hZ_congr {A B : Nat → Nat → Int} {x y z : Int} : ∀ n, (∀ s k, s < n → k ≤ s → A s k = B s k) → hZ A x y z n = hZ B x y z n
  | 0, _ => rfl
  | n + 1, h => by rw [hZ_s, hZ_s, hZ_congr n (fun s k a b => h s k (by omega) b), bZ_congr (n + 1) (fun k hk => h n k (by omega) (by omega))]
theorem bZ_0 {A : Nat → Nat → Int} {y z : Int} {s : Nat} : ∀ n, (∀ k, k < n → A s k = 0) → bZ A y z s n = 0
  | 0, _ => rfl
  | n + 1, h => by rw [bZ_s, bZ_0 n (fun k hk => h k (by omega)), h n (by omega)]; grind
/-- a row of a form times the sum, over the powers of one first letter -/
theorem bZ_rz (g D : Nat) (A : Nat → Nat → Int) (y z : Int) (s : Nat) : ∀ k, k ≤ s + 1 → bZ (rzZ g D A) y z (s + 1) k = (if g % 2 = 1 ∧ s + 1 ≤ D then bZ A y z (s + 1) k else 0) + (if g / 2 % 2 = 1 then bZ A y z s k else 0) + (if g / 4 % 2 = 1 then z * bZ A y z s (k - 1) else 0)
  | 0, _ => by
    simp only [bZ]
    split <;> split <;> split <;> simp [bZ]
  | 1, h => by
    rw [bZ_s, bZ_rz g D A y z s 0 (by omega)]
    simp only [rzZ, bZ_s, bZ]
    rw [if_neg (show ¬ (g / 4 % 2 = 1 ∧ 0 < 0) by omega)]
    by_cases c1 : g % 2 = 1 ∧ s + 1 ≤ D <;> by_cases c2 : g / 2 % 2 = 1 <;> by_cases c3 : g / 4 % 2 = 1 <;> simp [c1, c2, c3, bZ]
  | k + 2, h => by
    rw [bZ_s, bZ_rz g D A y z s (k + 1) (by omega)]
    have e1 : bZ A y z (s + 1) (k + 2) = bZ A y z (s + 1) (k + 1) * y + A (s + 1) (k + 1) * z ^ (k + 1) := rfl
    have e2 : bZ A y z s (k + 2) = bZ A y z s (k + 1) * y + A s (k + 1) * z ^ (k + 1) := rfl
    have e3 : bZ A y z s (k + 1) = bZ A y z s k * y + A s k * z ^ k := rfl
    have e4 : z ^ (k + 1) = z ^ k * z := Int.pow_succ z k
    have c4 : (g / 2 % 2 = 1 ∧ k + 1 < s + 1) ↔ g / 2 % 2 = 1 := ⟨fun q => q.1, fun q => ⟨q, by omega⟩⟩
    have c5 : (g / 4 % 2 = 1 ∧ 0 < k + 1) ↔ g / 4 % 2 = 1 := ⟨fun q => q.1, fun q => ⟨q, by omega⟩⟩
    simp only [rzZ, Nat.add_sub_cancel, show k + 2 - 1 = k + 1 from rfl, e1, e2, c4, c5]
    by_cases c1 : g % 2 = 1 ∧ s + 1 ≤ D <;> by_cases c2 : g / 2 % 2 = 1 <;> by_cases c3 : g / 4 % 2 = 1 <;> simp only [c1, c2, c3, if_true, if_false] <;> grind
theorem bZ_rzF (g D : Nat) (A : Nat → Nat → Int) (y z : Int) (s : Nat) : bZ (rzZ g D A) y z (s + 1) (s + 2) = (if g % 2 = 1 ∧ s + 1 ≤ D then bZ A y z (s + 1) (s + 2) else 0) + (if g / 2 % 2 = 1 then y * bZ A y z s (s + 1) else 0) + (if g / 4 % 2 = 1 then z * bZ A y z s (s + 1) else 0) := by
  rw [bZ_s, bZ_rz g D A y z s (s + 1) (by omega)]
  have e1 : bZ A y z (s + 1) (s + 2) = bZ A y z (s + 1) (s + 1) * y + A (s + 1) (s + 1) * z ^ (s + 1) := rfl
  have e3 : bZ A y z s (s + 1) = bZ A y z s s * y + A s s * z ^ s := rfl
  have e4 : z ^ (s + 1) = z ^ s * z := Int.pow_succ z s
  have c4 : (g / 2 % 2 = 1 ∧ s + 1 < s + 1) ↔ False := ⟨fun q => absurd q.2 (by omega), fun q => q.elim⟩
  have c5 : (g / 4 % 2 = 1 ∧ 0 < s + 1) ↔ g / 4 % 2 = 1 := ⟨fun q => q.1, fun q => ⟨q, by omega⟩⟩
  simp only [rzZ, Nat.add_sub_cancel, e1, c4, c5, if_false]
  by_cases c1 : g % 2 = 1 ∧ s + 1 ≤ D <;> by_cases c2 : g / 2 % 2 = 1 <;> by_cases c3 : g / 4 % 2 = 1 <;> simp only [c1, c2, c3, if_true, if_false] <;> grind
/-- a point that stands on a side -/
def onZ (g : Nat) (x y z : Int) : Prop := (g % 2 = 1 ∨ x = 0) ∧ (g / 2 % 2 = 1 ∨ y = 0) ∧ (g / 4 % 2 = 1 ∨ z = 0)
theorem bZ_rzS {g D : Nat} {A : Nat → Nat → Int} {x y z : Int} (h : onZ g x y z) (s : Nat) : bZ (rzZ g D A) y z (s + 1) (s + 2) = (if g % 2 = 1 ∧ s + 1 ≤ D then bZ A y z (s + 1) (s + 2) else 0) + (y + z) * bZ A y z s (s + 1) := by
  rw [bZ_rzF]
  obtain ⟨-, h2, h3⟩ := h
  have a2 : (if g / 2 % 2 = 1 then y * bZ A y z s (s + 1) else 0) = y * bZ A y z s (s + 1) := by
    rcases h2 with q | q
    · rw [if_pos q]
    · subst q; split <;> simp
  have a3 : (if g / 4 % 2 = 1 then z * bZ A y z s (s + 1) else 0) = z * bZ A y z s (s + 1) := by
    rcases h3 with q | q
    · rw [if_pos q]
    · rw [q]; split <;> simp
  rw [a2, a3]
  grind
theorem hZ_rzP {g D : Nat} {A : Nat → Nat → Int} {x y z : Int} (h : onZ g x y z) : ∀ s, s ≤ D → hZ (rzZ g D A) x y z (s + 1) = (if g % 2 = 1 then hZ A x y z (s + 1) else 0) + (y + z) * hZ A x y z s
  | 0, _ => by
    simp only [hZ, bZ, rzZ]
    by_cases c : g % 2 = 1 <;> simp [c]
  | s + 1, hs => by
    rw [hZ_s, hZ_rzP h s (by omega), bZ_rzS h s]
    have e1 : hZ A x y z (s + 1 + 1) = hZ A x y z (s + 1) * x + bZ A y z (s + 1) (s + 2) := rfl
    have e2 : hZ A x y z (s + 1) = hZ A x y z s * x + bZ A y z s (s + 1) := rfl
    by_cases c : g % 2 = 1
    · simp only [c, true_and, if_pos (show s + 1 ≤ D from hs), if_true, e1]
      grind
    · simp only [c, false_and, if_false]
      grind
theorem hZ_rz {g D : Nat} {A : Nat → Nat → Int} {x y z : Int} (h : onZ g x y z) : hZ (rzZ g D A) x y z (D + 2) = hZ A x y z (D + 1) * (x + y + z) := by
  rw [hZ_s, hZ_rzP h D (Nat.le_refl _), bZ_rzS h D, if_neg (show ¬ (g % 2 = 1 ∧ D + 1 ≤ D) by omega)]
  have e2 : hZ A x y z (D + 1) = hZ A x y z D * x + bZ A y z D (D + 1) := rfl
  by_cases c : g % 2 = 1
  · rw [if_pos c]; grind
  · have : x = 0 := h.1.resolve_left c
    rw [if_neg c]; grind
theorem hZ_rn {g D : Nat} {A : Nat → Nat → Int} {x y z : Int} (h : onZ g x y z) : ∀ n, hZ (rnZ g D A n) x y z (D + n + 1) = hZ A x y z (D + 1) * (x + y + z) ^ n
  | 0 => by simp [rnZ]
  | n + 1 => by
    have e := hZ_rz (D := D + n) (A := rnZ g D A n) h
    rw [hZ_rn h n] at e
    show hZ (rzZ g (D + n) (rnZ g D A n)) x y z (D + n + 2) = _
    rw [e, Int.pow_succ, Int.mul_assoc]
/-- nothing off the side -/
def offZ (g d : Nat) (A : Nat → Nat → Int) : Prop := ∀ s k, s ≤ d → k ≤ s → (¬ (g % 2 = 1 ∨ d = s) ∨ ¬ (g / 2 % 2 = 1 ∨ s = k) ∨ ¬ (g / 4 % 2 = 1 ∨ k = 0)) → A s k = 0
def nonZ (d : Nat) (A : Nat → Nat → Int) : Prop := ∀ s k, s ≤ d → k ≤ s → 0 ≤ A s k
def posZ (g d : Nat) (A : Nat → Nat → Int) : Prop := ∀ s k, s ≤ d → k ≤ s → ((g % 2 = 1 ∨ d = s) ∧ (g / 2 % 2 = 1 ∨ s = k) ∧ (g / 4 % 2 = 1 ∨ k = 0)) → 0 < A s k
theorem offZ_rz {g D : Nat} {A : Nat → Nat → Int} (h : offZ g D A) : offZ g (D + 1) (rzZ g D A) := by
  intro s k hs hk hn
  have z1 : (if g % 2 = 1 ∧ s ≤ D then A s k else 0) = 0 := by
    split
    · rename_i c; exact h s k c.2 hk (by omega)
    · rfl
  have z2 : (if g / 2 % 2 = 1 ∧ k < s then A (s - 1) k else 0) = 0 := by
    split
    · rename_i c; exact h (s - 1) k (by omega) (by omega) (by omega)
    · rfl
  have z3 : (if g / 4 % 2 = 1 ∧ 0 < k then A (s - 1) (k - 1) else 0) = 0 := by
    split
    · rename_i c; exact h (s - 1) (k - 1) (by omega) (by omega) (by omega)
    · rfl
  unfold rzZ
  rw [z1, z2, z3]; rfl
theorem offZ_rn {g D : Nat} {A : Nat → Nat → Int} (h : offZ g D A) : ∀ n, offZ g (D + n) (rnZ g D A n)
  | 0 => h
  | n + 1 => offZ_rz (offZ_rn h n)
theorem nonZ_rz {g D : Nat} {A : Nat → Nat → Int} (h : nonZ D A) : nonZ (D + 1) (rzZ g D A) := by
  intro s k hs hk
  have z1 : 0 ≤ (if g % 2 = 1 ∧ s ≤ D then A s k else 0) := by
    split
    · rename_i c; exact h s k c.2 hk
    · decide
  have z2 : 0 ≤ (if g / 2 % 2 = 1 ∧ k < s then A (s - 1) k else 0) := by
    split
    · rename_i c; exact h (s - 1) k (by omega) (by omega)
    · decide
  have z3 : 0 ≤ (if g / 4 % 2 = 1 ∧ 0 < k then A (s - 1) (k - 1) else 0) := by
    split
    · rename_i c; exact h (s - 1) (k - 1) (by omega) (by omega)
    · decide
  unfold rzZ
  omega
theorem posZ_rz {g D : Nat} {A : Nat → Nat → Int} (h0 : nonZ D A) (h : posZ g D A) : posZ g (D + 1) (rzZ g D A) := by
  intro s k hs hk hn
  have z1 : 0 ≤ (if g % 2 = 1 ∧ s ≤ D then A s k else 0) ∧ ((g % 2 = 1 ∧ s ≤ D) → 0 < (if g % 2 = 1 ∧ s ≤ D then A s k else 0)) := by
    split
    · rename_i c
      have := h s k c.2 hk (by omega)
      exact ⟨by omega, fun _ => this⟩
    · exact ⟨by decide, fun c => absurd c (by assumption)⟩
  have z2 : 0 ≤ (if g / 2 % 2 = 1 ∧ k < s then A (s - 1) k else 0) ∧ ((g / 2 % 2 = 1 ∧ k < s) → 0 < (if g / 2 % 2 = 1 ∧ k < s then A (s - 1) k else 0)) := by
    split
    · rename_i c
      have := h (s - 1) k (by omega) (by omega) (by omega)
      exact ⟨by omega, fun _ => this⟩
    · exact ⟨by decide, fun c => absurd c (by assumption)⟩
  have z3 : 0 ≤ (if g / 4 % 2 = 1 ∧ 0 < k then A (s - 1) (k - 1) else 0) ∧ ((g / 4 % 2 = 1 ∧ 0 < k) → 0 < (if g / 4 % 2 = 1 ∧ 0 < k then A (s - 1) (k - 1) else 0)) := by
    split
    · rename_i c
      have := h (s - 1) (k - 1) (by omega) (by omega) (by omega)
      exact ⟨by omega, fun _ => this⟩
    · exact ⟨by decide, fun c => absurd c (by assumption)⟩
  unfold rzZ
  by_cases c1 : g % 2 = 1 ∧ s ≤ D
  · have := z1.2 c1; omega
  · by_cases c2 : g / 2 % 2 = 1 ∧ k < s
    · have := z2.2 c2; omega
    · have := z3.2 (by omega); omega
theorem nonZ_on {g d : Nat} {A : Nat → Nat → Int} (ho : offZ g d A) (h : ∀ s k, s ≤ d → k ≤ s → ((g % 2 = 1 ∨ d = s) ∧ (g / 2 % 2 = 1 ∨ s = k) ∧ (g / 4 % 2 = 1 ∨ k = 0)) → 0 ≤ A s k) : nonZ d A := fun s k hs hk => by
  by_cases c : (g % 2 = 1 ∨ d = s) ∧ (g / 2 % 2 = 1 ∨ s = k) ∧ (g / 4 % 2 = 1 ∨ k = 0)
  · exact h s k hs hk c
  · rw [ho s k hs hk (by omega)]; decide
theorem bZ_nn {A : Nat → Nat → Int} {y z : Int} {s : Nat} (hy : 0 ≤ y) (hz : 0 ≤ z) : ∀ n, (∀ k, k < n → 0 ≤ A s k) → 0 ≤ bZ A y z s n
  | 0, _ => by simp [bZ]
  | n + 1, h => by
    rw [bZ_s]
    have h1 := Int.mul_nonneg (bZ_nn hy hz n (fun k hk => h k (by omega))) hy
    have h2 := Int.mul_nonneg (h n (by omega)) (Int.pow_nonneg (m := n) hz)
    omega
theorem hZ_nn {A : Nat → Nat → Int} {x y z : Int} (hx : 0 ≤ x) (hy : 0 ≤ y) (hz : 0 ≤ z) : ∀ n, (∀ s k, s < n → k ≤ s → 0 ≤ A s k) → 0 ≤ hZ A x y z n
  | 0, _ => by simp [hZ]
  | n + 1, h => by
    rw [hZ_s]
    have h1 := Int.mul_nonneg (hZ_nn hx hy hz n (fun s k a b => h s k (by omega) b)) hx
    have h2 := bZ_nn (A := A) (s := n) hy hz (n + 1) (fun k hk => h n k (by omega) (by omega))
    omega
theorem bZ_py {A : Nat → Nat → Int} {y z : Int} {s : Nat} (hy : 1 ≤ y) (hz : 0 ≤ z) (h0 : 0 < A s 0) : ∀ n, (∀ k, k < n + 1 → 0 ≤ A s k) → 0 < bZ A y z s (n + 1)
  | 0, _ => by simp [bZ]; exact h0
  | n + 1, h => by
    rw [bZ_s]
    have h1 := Int.mul_pos (bZ_py hy hz h0 n (fun k hk => h k (by omega))) (show 0 < y by omega)
    have h2 := Int.mul_nonneg (h (n + 1) (by omega)) (Int.pow_nonneg (m := n + 1) hz)
    omega
theorem hZ_px {A : Nat → Nat → Int} {x y z : Int} (hx : 1 ≤ x) (hy : 0 ≤ y) (hz : 0 ≤ z) (h0 : 0 < A 0 0) : ∀ n, (∀ s k, s < n + 1 → k ≤ s → 0 ≤ A s k) → 0 < hZ A x y z (n + 1)
  | 0, _ => by simp [hZ, bZ]; exact h0
  | n + 1, h => by
    rw [hZ_s]
    have h1 := Int.mul_pos (hZ_px hx hy hz h0 n (fun s k a b => h s k (by omega) b)) (show 0 < x by omega)
    have h2 := bZ_nn (A := A) (s := n + 1) hy hz (n + 1 + 1) (fun k hk => h (n + 1) k (by omega) (by omega))
    omega
theorem hZ_pos {g d : Nat} {A : Nat → Nat → Int} {x y z : Int} (hx : 0 ≤ x) (hy : 0 ≤ y) (hz : 0 ≤ z) (hs : 1 ≤ x + y + z) (ho : onZ g x y z) (h0 : nonZ d A) (h : posZ g d A) : 0 < hZ A x y z (d + 1) := by
  have hn := hZ_nn (A := A) hx hy hz d (fun s k a b => h0 s k (by omega) b)
  have hm := Int.mul_nonneg hn hx
  by_cases c1 : 1 ≤ x
  · have g1 : g % 2 = 1 := ho.1.resolve_right (by omega)
    exact hZ_px c1 hy hz (h 0 0 (by omega) (by omega) ⟨Or.inl g1, Or.inr rfl, Or.inr rfl⟩) d (fun s k a b => h0 s k (by omega) b)
  · by_cases c2 : 1 ≤ y
    · have g1 : g / 2 % 2 = 1 := ho.2.1.resolve_right (by omega)
      have := bZ_py (A := A) (s := d) c2 hz (h d 0 (by omega) (by omega) ⟨Or.inr rfl, Or.inl g1, Or.inr rfl⟩) d (fun k hk => h0 d k (by omega) (by omega))
      rw [hZ_s]; omega
    · have c3 : 1 ≤ z := by omega
      have g1 : g / 4 % 2 = 1 := ho.2.2.resolve_right (by omega)
      have h3 := h d d (by omega) (by omega) ⟨Or.inr rfl, Or.inr rfl, Or.inl g1⟩
      have h4 := Int.mul_pos h3 (Int.pow_pos (m := d) (show 0 < z by omega))
      have h5 := Int.mul_nonneg (bZ_nn (A := A) (s := d) hy hz d (fun k hk => h0 d k (by omega) (by omega))) hy
      rw [hZ_s, bZ_s]; omega
/-- a form clear at a lift has no point at which it fails -/
theorem val_nn {g D n : Nat} {A : Nat → Nat → Int} {x y z : Int} (hx : 0 ≤ x) (hy : 0 ≤ y) (hz : 0 ≤ z) (hs : 1 ≤ x + y + z) (ho : onZ g x y z) (h : nonZ (D + n) (rnZ g D A n)) : 0 ≤ hZ A x y z (D + 1) := by
  have h1 := hZ_nn (A := rnZ g D A n) hx hy hz (D + n + 1) (fun s k a b => h s k (by omega) b)
  rw [hZ_rn ho n] at h1
  have h2 := Int.pow_pos (m := n) (show 0 < x + y + z by omega)
  exact Int.not_lt.mp fun q => by
    have := Int.mul_neg_of_neg_of_pos q h2
    omega
theorem val_pos {g D n : Nat} {A : Nat → Nat → Int} {x y z : Int} (hx : 0 ≤ x) (hy : 0 ≤ y) (hz : 0 ≤ z) (hs : 1 ≤ x + y + z) (ho : onZ g x y z) (h0 : nonZ (D + n) (rnZ g D A n)) (h : posZ g (D + n) (rnZ g D A n)) : 0 < hZ A x y z (D + 1) := by
  have h1 := hZ_pos hx hy hz hs ho h0 h
  rw [hZ_rn ho n] at h1
  have h2 := Int.pow_pos (m := n) (show 0 < x + y + z by omega)
  exact Int.not_le.mp fun q => by
    have := Int.mul_nonpos_of_nonpos_of_nonneg q (Int.le_of_lt h2)
    omega
end INTR
