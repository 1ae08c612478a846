section LIN
/-- sums of few integers -/
def sK : Nat → (Nat → Int) → Int
  | 0, _ => 0
  | k + 1, g => sK k g + g k
theorem sK_s (k : Nat) (g : Nat → Int) : sK (k + 1) g = sK k g + g k := rfl
theorem sK_congr {k : Nat} {g h : Nat → Int} (e : ∀ i, i < k → g i = h i) : sK k g = sK k h := by
  induction k with
  | zero => rfl
  | succ k ih => rw [sK_s, sK_s, ih (fun i hi => e i (by omega)), e k (by omega)]
theorem sK_zero {k : Nat} {g : Nat → Int} (e : ∀ i, i < k → g i = 0) : sK k g = 0 := by
  induction k with
  | zero => rfl
  | succ k ih => rw [sK_s, ih (fun i hi => e i (by omega)), e k (by omega)]; rfl
theorem sK_pick {k t : Nat} {g : Nat → Int} (ht : t < k) (e : ∀ i, i < k → i ≠ t → g i = 0) : sK k g = g t := by
  induction k with
  | zero => omega
  | succ k ih =>
    rw [sK_s]
    by_cases z : t = k
    · subst z
      rw [sK_zero (fun i hi => e i (by omega) (by omega)), Int.zero_add]
    · rw [ih (by omega) (fun i hi h => e i (by omega) h), e k (by omega) (by omega), Int.add_zero]
theorem sK_mul (k : Nat) (g : Nat → Int) (z : Int) : sK k (fun i => g i * z) = sK k g * z := by
  induction k with
  | zero => show (0 : Int) = 0 * z; rw [Int.zero_mul]
  | succ k ih => rw [sK_s, sK_s, ih, Int.add_mul]
def s4 (g : Nat → Int) : Int := g 0 + g 1 + g 2 + g 3
theorem s4_pick {g : Nat → Int} {p : Nat} {v : Int} (hp : p < 4) : s4 (fun c => g c * (if c = p then v else 0)) = g p * v := by
  unfold s4
  have : p = 0 ∨ p = 1 ∨ p = 2 ∨ p = 3 := by omega
  rcases this with rfl | rfl | rfl | rfl <;> simp
theorem s4_add (g X Y : Nat → Int) : s4 (fun c => g c * (X c + Y c)) = s4 (fun c => g c * X c) + s4 (fun c => g c * Y c) := by
  unfold s4
  simp only [Int.mul_add]
  omega
theorem s4_nil (g : Nat → Int) : s4 (fun c => g c * 0) = 0 := by
  unfold s4
  simp
def Vec (k : Nat) (pc : Nat → Nat) (x : Nat → Int) (z : Int) (c : Nat) : Nat → Int := fun c' => sK k (fun i => if c' = pc i then x i else 0) + (if c' = c then z else 0)
theorem s4_vec {k c : Nat} {pc : Nat → Nat} {x : Nat → Int} {z : Int} (g : Nat → Int) (hp : ∀ i, i < k → pc i < 4) (hc : c < 4) : s4 (fun c' => g c' * Vec k pc x z c c') = sK k (fun i => g (pc i) * x i) + g c * z := by
  unfold Vec
  rw [s4_add, s4_pick hc]
  congr 1
  induction k with
  | zero => exact s4_nil g
  | succ k ih =>
    have : (fun c' => g c' * sK (k + 1) fun i => if c' = pc i then x i else 0) = fun c' => g c' * (sK k (fun i => if c' = pc i then x i else 0) + (if c' = pc k then x k else 0)) := rfl
    rw [this, s4_add, s4_pick (hp k (by omega)), ih (fun i hi => hp i (by omega)), sK_s]
/-- rows that tell the same relations of columns -/
def REQ (R : Nat) (A E : Nat → Nat → Int) : Prop := ∀ X : Nat → Int, (∀ t, t < R → s4 (fun c => A t c * X c) = 0) ↔ (∀ t, t < R → s4 (fun c => E t c * X c) = 0)
theorem REQ.rf (R : Nat) (A : Nat → Nat → Int) : REQ R A A := fun X => Iff.rfl
theorem REQ.tr {R : Nat} {A B C : Nat → Nat → Int} (h1 : REQ R A B) (h2 : REQ R B C) : REQ R A C := fun X => (h1 X).trans (h2 X)
def SW (E : Nat → Nat → Int) (l t0 : Nat) : Nat → Nat → Int := fun t c => if t = l then E t0 c else if t = t0 then E l c else E t c
def EL (E : Nat → Nat → Int) (l c : Nat) : Nat → Nat → Int := fun t c' => if t = l ∨ E t c = 0 then E t c' else E t c' * E l c - E l c' * E t c
theorem REQ_sw {R l t0 : Nat} (E : Nat → Nat → Int) (hl : l < R) (ht : t0 < R) : REQ R E (SW E l t0) := by
  intro X
  constructor
  · intro h t hR
    unfold SW
    by_cases z : t = l
    · simp only [if_pos z]; exact h t0 ht
    · simp only [if_neg z]
      by_cases y : t = t0
      · simp only [if_pos y]; exact h l hl
      · simp only [if_neg y]; exact h t hR
  · intro h t hR
    by_cases z : t = l
    · by_cases q : l = t0
      · have a := h l hl
        unfold SW at a
        simp only [if_true] at a
        rw [z, q]; exact a
      · have a := h t0 ht
        unfold SW at a
        simp only [if_neg (show ¬ t0 = l from fun w => q w.symm), if_true] at a
        rw [z]; exact a
    · by_cases y : t = t0
      · have a := h l hl
        unfold SW at a
        simp only [if_true] at a
        rw [y]; exact a
      · have a := h t hR
        unfold SW at a
        simp only [if_neg z, if_neg y] at a
        exact a
theorem s4_el (f g X : Nat → Int) (p m : Int) : s4 (fun c => (f c * p - g c * m) * X c) = s4 (fun c => f c * X c) * p - s4 (fun c => g c * X c) * m := by
  unfold s4
  grind
theorem REQ_el {R l c : Nat} (E : Nat → Nat → Int) (hl : l < R) (h0 : E l c ≠ 0) : REQ R E (EL E l c) := by
  intro X
  constructor
  · intro h t hR
    unfold EL
    by_cases z : t = l ∨ E t c = 0
    · simp only [if_pos z]; exact h t hR
    · simp only [if_neg z]
      rw [s4_el, h t hR, h l hl]
      simp
  · intro h t hR
    have hl2 := h l hl
    unfold EL at hl2
    simp only [true_or, if_true] at hl2
    have a := h t hR
    unfold EL at a
    by_cases z : t = l ∨ E t c = 0
    · simp only [if_pos z] at a; exact a
    · simp only [if_neg z] at a
      rw [s4_el, hl2, Int.zero_mul, Int.sub_zero] at a
      rcases Int.mul_eq_zero.mp a with b | b
      · exact b
      · exact absurd b h0
/-- columns that are led: column pc i by row i -/
def PIV (R k : Nat) (pc : Nat → Nat) (E : Nat → Nat → Int) : Prop := ∀ i, i < k → i < R ∧ E i (pc i) ≠ 0 ∧ ∀ t, t < R → t ≠ i → E t (pc i) = 0
theorem PIV_step {R l t0 c : Nat} {pc : Nat → Nat} {E : Nat → Nat → Int} (h : PIV R l pc E) (h1 : l ≤ t0) (h2 : t0 < R) (h0 : E t0 c ≠ 0) : PIV R (l + 1) (fun i => if i = l then c else pc i) (EL (SW E l t0) l c) := by
  have q0 : SW E l t0 l c = E t0 c := by unfold SW; rw [if_pos rfl]
  intro i hi
  refine ⟨by omega, ?_⟩
  by_cases z : i = l
  · subst z
    simp only [if_true]
    refine ⟨?_, fun t ht hn => ?_⟩
    · unfold EL
      rw [if_pos (Or.inl rfl), q0]
      exact h0
    · unfold EL
      by_cases y : t = i ∨ SW E i t0 t c = 0
      · rw [if_pos y]
        rcases y with y | y
        · exact absurd y hn
        · exact y
      · rw [if_neg y, Int.mul_comm, Int.sub_self]
  · simp only [if_neg z]
    obtain ⟨a1, a2, a3⟩ := h i (by omega)
    have sw : ∀ t, t < R → t ≠ i → SW E l t0 t (pc i) = 0 := fun t ht hn => by
      unfold SW
      by_cases y : t = l
      · rw [if_pos y]; exact a3 t0 h2 (by omega)
      · rw [if_neg y]
        by_cases w : t = t0
        · rw [if_pos w]; exact a3 l (by omega) (by omega)
        · rw [if_neg w]; exact a3 t ht hn
    have swi : SW E l t0 i (pc i) = E i (pc i) := by
      unfold SW
      rw [if_neg z, if_neg (by omega)]
    refine ⟨?_, fun t ht hn => ?_⟩
    · unfold EL
      by_cases y : i = l ∨ SW E l t0 i c = 0
      · rw [if_pos y, swi]; exact a2
      · rw [if_neg y, swi, sw l (by omega) (fun w => z w.symm), Int.zero_mul, Int.sub_zero, q0]
        exact fun w => by
          rcases Int.mul_eq_zero.mp w with b | b
          · exact a2 b
          · exact h0 b
    · unfold EL
      by_cases y : t = l ∨ SW E l t0 t c = 0
      · rw [if_pos y]; exact sw t ht hn
      · rw [if_neg y, sw t ht hn, sw l (by omega) (fun w => z w.symm), Int.zero_mul, Int.zero_mul]
        rfl
def BDE (R : Nat) (E : Nat → Nat → Int) (B : Int) : Prop := ∀ t c, t < R → -B ≤ E t c ∧ E t c ≤ B
theorem BDE_sw {R l t0 : Nat} {E : Nat → Nat → Int} {B : Int} (h : BDE R E B) (hl : l < R) (ht : t0 < R) : BDE R (SW E l t0) B := by
  intro t c hR
  unfold SW
  split
  · exact h t0 c ht
  · split
    · exact h l c hl
    · exact h t c hR
theorem mul_bd {x y B : Int} (hx : -B ≤ x ∧ x ≤ B) (hy : -B ≤ y ∧ y ≤ B) : -(B * B) ≤ x * y ∧ x * y ≤ B * B := by
  have a : x.natAbs * y.natAbs ≤ B.natAbs * B.natAbs := Nat.mul_le_mul (by omega) (by omega)
  have b : (x * y).natAbs = x.natAbs * y.natAbs := Int.natAbs_mul x y
  have c : (B * B).natAbs = B.natAbs * B.natAbs := Int.natAbs_mul B B
  have d : 0 ≤ B * B := Int.mul_nonneg (by omega) (by omega)
  omega
theorem BDE_el {R l c : Nat} {E : Nat → Nat → Int} {B : Int} (h : BDE R E B) (hl : l < R) (hB : 1 ≤ B) : BDE R (EL E l c) (2 * B * B) := by
  intro t c' hR
  have a := mul_bd (h t c' hR) (h l c hl)
  have b := mul_bd (h l c' hl) (h t c hR)
  have d := h t c' hR
  have e : B ≤ B * B := by
    have := Int.mul_le_mul_of_nonneg_left hB (show (0 : Int) ≤ B by omega)
    omega
  have f : 2 * B * B = B * B + B * B := by rw [Int.mul_assoc]; omega
  unfold EL
  split
  · omega
  · omega
end LIN
