section DEPS
def DEP (R k : Nat) (U : Nat → Nat → Int) (w : Nat → Int) : Prop := ∃ (x : Nat → Int) (z : Int), z ≠ 0 ∧ ∀ t, t < R → sK k (fun i => U i t * x i) + w t * z = 0
def prd (p : Nat → Int) : Nat → Int
  | 0 => 1
  | k + 1 => prd p k * p k
def prO (p : Nat → Int) (i : Nat) : Nat → Int
  | 0 => 1
  | k + 1 => if i = k then prd p k else prO p i k * p k
theorem prO_ok {p : Nat → Int} {i k : Nat} (h : i < k) : p i * prO p i k = prd p k := by
  induction k with
  | zero => omega
  | succ k ih =>
    show p i * (if i = k then prd p k else prO p i k * p k) = prd p k * p k
    by_cases z : i = k
    · subst z
      rw [if_pos rfl, Int.mul_comm]
    · rw [if_neg z, ← ih (by omega), Int.mul_assoc]
theorem prd_ne {p : Nat → Int} {k : Nat} (h : ∀ i, i < k → p i ≠ 0) : prd p k ≠ 0 := by
  induction k with
  | zero => show (1 : Int) ≠ 0; decide
  | succ k ih =>
    show prd p k * p k ≠ 0
    intro z
    rcases Int.mul_eq_zero.mp z with b | b
    · exact ih (fun i hi => h i (by omega)) b
    · exact h k (by omega) b
/-- a column depends on the led ones where it is nothing below their rows -/
theorem dep_piv {R k c : Nat} {pc : Nat → Nat} {A E : Nat → Nat → Int} (hP : PIV R k pc E) (hp : ∀ i, i < k → pc i < 4) (hc : c < 4) (hR : REQ R A E) : (∀ t, t < R → k ≤ t → E t c = 0) ↔ DEP R k (fun i t => A t (pc i)) (fun t => A t c) := by
  constructor
  · intro h
    refine ⟨fun i => -(E i c * prO (fun i => E i (pc i)) i k), prd (fun i => E i (pc i)) k, prd_ne (fun i hi => (hP i hi).2.1), fun t ht => ?_⟩
    have key := (hR (Vec k pc (fun i => -(E i c * prO (fun i => E i (pc i)) i k)) (prd (fun i => E i (pc i)) k) c)).mpr (fun t ht => by
      rw [s4_vec (E t) hp hc]
      by_cases y : t < k
      · rw [sK_pick (t := t) y (fun i hi hn => by rw [(hP i hi).2.2 t ht (fun w => hn w.symm), Int.zero_mul])]
        have : E t (pc t) * prO (fun i => E i (pc i)) t k = prd (fun i => E i (pc i)) k := prO_ok (p := fun i => E i (pc i)) y
        rw [← this]
        grind
      · rw [sK_zero (fun i hi => by rw [(hP i hi).2.2 t ht (by omega), Int.zero_mul]), h t ht (by omega), Int.zero_mul]
        rfl) t ht
    rw [s4_vec (A t) hp hc] at key
    exact key
  · intro ⟨x, z, hz, h⟩ t ht hk
    have key := (hR (Vec k pc x z c)).mp (fun t ht => by
      rw [s4_vec (A t) hp hc]
      exact h t ht) t ht
    rw [s4_vec (E t) hp hc, sK_zero (fun i hi => by rw [(hP i hi).2.2 t ht (by omega), Int.zero_mul]), Int.zero_add] at key
    rcases Int.mul_eq_zero.mp key with b | b
    · exact b
    · exact absurd b hz
/-- what the led rows tell of any relation -/
theorem piv_row {R k c : Nat} {pc : Nat → Nat} {A E : Nat → Nat → Int} (hP : PIV R k pc E) (hp : ∀ i, i < k → pc i < 4) (hc : c < 4) (hR : REQ R A E) {x : Nat → Int} {z : Int} (h : ∀ t, t < R → sK k (fun i => A t (pc i) * x i) + A t c * z = 0) {i : Nat} (hi : i < k) : E i (pc i) * x i + E i c * z = 0 := by
  have key := (hR (Vec k pc x z c)).mp (fun t ht => by
    rw [s4_vec (A t) hp hc]
    exact h t ht) i (hP i hi).1
  rw [s4_vec (E i) hp hc, sK_pick (t := i) hi (fun j hj hn => by rw [(hP j hj).2.2 i (hP i hi).1 (fun w => hn w.symm), Int.zero_mul])] at key
  exact key
/-- minors -/
def m2 (u v : Nat → Int) (a b : Nat) : Int := u a * v b - u b * v a
def m3 (u v w : Nat → Int) (a b c : Nat) : Int := u a * m2 v w b c - v a * m2 u w b c + w a * m2 u v b c
def mK (k : Nat) (U : Nat → Nat → Int) (a b c : Nat) : Int := if k = 0 then 1 else if k = 1 then U 0 a else if k = 2 then m2 (U 0) (U 1) a b else m3 (U 0) (U 1) (U 2) a b c
def pux (k : Nat) (w : Nat → Int) (U : Nat → Nat → Int) : Nat → Nat → Int := fun i => if i = k then w else U i
def FOUND (k : Nat) (U : Nat → Nat → Int) : Prop := ∃ a b c, a < 28 ∧ b < (if k ≤ 1 then 1 else a) ∧ c < (if k ≤ 2 then 1 else b) ∧ mK k U a b c ≠ 0
theorem mK0 (U : Nat → Nat → Int) (a b c : Nat) : mK 0 U a b c = 1 := rfl
theorem mK1 (U : Nat → Nat → Int) (a b c : Nat) : mK 1 U a b c = U 0 a := rfl
theorem mK2 (U : Nat → Nat → Int) (a b c : Nat) : mK 2 U a b c = m2 (U 0) (U 1) a b := rfl
theorem mK3 (U : Nat → Nat → Int) (a b c : Nat) : mK 3 U a b c = m3 (U 0) (U 1) (U 2) a b c := rfl
theorem sK1 (g : Nat → Int) : sK 1 g = g 0 := Int.zero_add _
theorem sK2 (g : Nat → Int) : sK 2 g = g 0 + g 1 := by
  rw [sK_s, sK1]
theorem sK3 (g : Nat → Int) : sK 3 g = g 0 + g 1 + g 2 := by
  rw [sK_s, sK2]
theorem m2_all {u v : Nat → Int} (h : ∀ a b, a < 28 → b < a → m2 u v a b = 0) : ∀ a b, a < 28 → b < 28 → m2 u v a b = 0 := by
  intro a b ha hb
  rcases Nat.lt_trichotomy a b with g | g | g
  · have := h b a hb g
    unfold m2 at *
    grind
  · subst g
    unfold m2
    grind
  · exact h a b ha g
theorem m3_all {u v w : Nat → Int} (h : ∀ a b c, a < 28 → b < a → c < b → m3 u v w a b c = 0) : ∀ a b c, a < 28 → b < 28 → c < 28 → m3 u v w a b c = 0 := by
  -- in order
  have h2 : ∀ a b c, a < 28 → b < a → c < 28 → m3 u v w a b c = 0 := by
    intro a b c ha hb hc
    rcases Nat.lt_trichotomy c b with g | g | g
    · exact h a b c ha hb g
    · subst g
      unfold m3 m2
      grind
    · rcases Nat.lt_trichotomy c a with q | q | q
      · have := h a c b ha q g
        unfold m3 m2 at *
        grind
      · subst q
        unfold m3 m2
        grind
      · have := h c a b hc q hb
        unfold m3 m2 at *
        grind
  intro a b c ha hb hc
  rcases Nat.lt_trichotomy b a with g | g | g
  · exact h2 a b c ha g hc
  · subst g
    unfold m3 m2
    grind
  · have := h2 b a c hb g hc
    unfold m3 m2 at *
    grind
theorem mul0 {x y : Int} (h : x * y = 0) (hy : y ≠ 0) : x = 0 := by
  rcases Int.mul_eq_zero.mp h with b | b
  · exact b
  · exact absurd b hy
theorem new_dep {k : Nat} {U : Nat → Nat → Int} {w : Nat → Int} (hk : k ≤ 2) (hF : FOUND k U) : FOUND (k + 1) (pux k w U) ↔ ¬ DEP 28 k U w := by
  have : k = 0 ∨ k = 1 ∨ k = 2 := by omega
  rcases this with rfl | rfl | rfl
  · constructor
    · intro ⟨a, b, c, h1, h2, h3, h4⟩ ⟨x, z, hz, h⟩
      have e := h a h1
      have h4 : w a ≠ 0 := h4
      have e : (0 : Int) + w a * z = 0 := e
      rw [Int.zero_add] at e
      exact h4 (mul0 e hz)
    · intro h
      by_cases q : ∃ a, a < 28 ∧ w a ≠ 0
      · obtain ⟨a, h1, h2⟩ := q
        exact ⟨a, 0, 0, h1, Nat.one_pos, Nat.one_pos, h2⟩
      · exact absurd ⟨fun _ => 0, 1, by decide, fun t ht => by
          have : w t = 0 := by
            by_cases y : w t = 0
            · exact y
            · exact absurd ⟨t, ht, y⟩ q
          rw [this]
          rfl⟩ h
  · obtain ⟨a0, b0, c0, f1, f2, f3, f4⟩ := hF
    have f4 : U 0 a0 ≠ 0 := f4
    constructor
    · intro ⟨a, b, c, h1, h2, h3, h4⟩ ⟨x, z, hz, h⟩
      have h2 : b < a := h2
      have h4 : m2 (U 0) w a b ≠ 0 := h4
      have ea := h a h1
      have eb := h b (by omega)
      simp only [sK1] at ea eb
      refine h4 (mul0 (y := z) ?_ hz)
      unfold m2
      grind
    · intro h
      by_cases q : ∃ a b, a < 28 ∧ b < a ∧ m2 (U 0) w a b ≠ 0
      · obtain ⟨a, b, h1, h2, h3⟩ := q
        exact ⟨a, b, 0, h1, h2, Nat.one_pos, h3⟩
      · have all := m2_all (u := U 0) (v := w) (fun a b h1 h2 => by
          by_cases y : m2 (U 0) w a b = 0
          · exact y
          · exact absurd ⟨a, b, h1, h2, y⟩ q)
        refine absurd ⟨fun _ => -w a0, U 0 a0, f4, fun t ht => ?_⟩ h
        have := all a0 t f1 ht
        simp only [sK1]
        unfold m2 at this
        grind
  · obtain ⟨a0, b0, c0, f1, f2, f3, f4⟩ := hF
    have f2 : b0 < a0 := f2
    have f4 : m2 (U 0) (U 1) a0 b0 ≠ 0 := f4
    constructor
    · intro ⟨a, b, c, h1, h2, h3, h4⟩ ⟨x, z, hz, h⟩
      have h2 : b < a := h2
      have h3 : c < b := h3
      have h4 : m3 (U 0) (U 1) w a b c ≠ 0 := h4
      have ea := h a h1
      have eb := h b (by omega)
      have ec := h c (by omega)
      simp only [sK2] at ea eb ec
      refine h4 (mul0 (y := z) ?_ hz)
      unfold m3 m2
      grind
    · intro h
      by_cases q : ∃ a b c, a < 28 ∧ b < a ∧ c < b ∧ m3 (U 0) (U 1) w a b c ≠ 0
      · obtain ⟨a, b, c, h1, h2, h3, h4⟩ := q
        exact ⟨a, b, c, h1, h2, h3, h4⟩
      · have all := m3_all (u := U 0) (v := U 1) (w := w) (fun a b c h1 h2 h3 => by
          by_cases y : m3 (U 0) (U 1) w a b c = 0
          · exact y
          · exact absurd ⟨a, b, c, h1, h2, h3, y⟩ q)
        refine absurd ⟨fun i => if i = 0 then m2 (U 1) w a0 b0 else -m2 (U 0) w a0 b0, m2 (U 0) (U 1) a0 b0, f4, fun t ht => ?_⟩ h
        have := all a0 b0 t f1 (by omega) ht
        simp only [sK2]
        unfold m3 at this
        unfold m2 at *
        simp only [if_true, if_neg (show ¬ (1 : Nat) = 0 by decide)]
        grind
theorem cr0 (p q r s A B C pb qb rb sb pc qc rc sc x y z v : Int) : (s * (qb * rc - qc * rb) - q * (sb * rc - sc * rb) + r * (sb * qc - sc * qb)) * v + (p * (qb * rc - qc * rb) - q * (pb * rc - pc * rb) + r * (pb * qc - pc * qb)) * x = (p * x + q * y + r * z + s * v) * (qb * rc - qc * rb) - (pb * x + qb * y + rb * z + sb * v) * (q * rc - r * qc) + (pc * x + qc * y + rc * z + sc * v) * (q * rb - r * qb) := by grind
theorem cr1 (p q r s A B C pb qb rb sb pc qc rc sc x y z v : Int) : (p * (sb * rc - sc * rb) - s * (pb * rc - pc * rb) + r * (pb * sc - pc * sb)) * v + (p * (qb * rc - qc * rb) - q * (pb * rc - pc * rb) + r * (pb * qc - pc * qb)) * y = (pb * x + qb * y + rb * z + sb * v) * (p * rc - r * pc) - (p * x + q * y + r * z + s * v) * (pb * rc - pc * rb) - (pc * x + qc * y + rc * z + sc * v) * (p * rb - r * pb) := by grind
theorem cr2 (p q r s A B C pb qb rb sb pc qc rc sc x y z v : Int) : (p * (qb * sc - qc * sb) - q * (pb * sc - pc * sb) + s * (pb * qc - pc * qb)) * v + (p * (qb * rc - qc * rb) - q * (pb * rc - pc * rb) + r * (pb * qc - pc * qb)) * z = (p * x + q * y + r * z + s * v) * (pb * qc - pc * qb) - (pb * x + qb * y + rb * z + sb * v) * (p * qc - q * pc) + (pc * x + qc * y + rc * z + sc * v) * (p * qb - q * pb) := by grind
theorem cr4 (n0 n1 n2 n a b c w z : Int) : (n0 * a + n1 * b + n2 * c - n * w) * z = a * (n0 * z) + b * (n1 * z) + c * (n2 * z) - n * (w * z) := by grind
theorem cr5 (n x0 x1 x2 a b c w z : Int) : a * -(n * x0) + b * -(n * x1) + c * -(n * x2) - n * (w * z) = -n * (a * x0 + b * x1 + c * x2 + w * z) := by grind
theorem cr3 (u v r w : Nat → Int) (a b c t : Nat) (x y z s : Int) (ea : u a * x + v a * y + r a * z + w a * s = 0) (eb : u b * x + v b * y + r b * z + w b * s = 0) (ec : u c * x + v c * y + r c * z + w c * s = 0) (et : u t * x + v t * y + r t * z + w t * s = 0) : (m3 w v r a b c * u t + m3 u w r a b c * v t + m3 u v w a b c * r t - m3 u v r a b c * w t) * s = 0 := by
  have e0 : m3 w v r a b c * s + m3 u v r a b c * x = 0 := by
    have := cr0 (u a) (v a) (r a) (w a) 0 0 0 (u b) (v b) (r b) (w b) (u c) (v c) (r c) (w c) x y z s
    rw [ea, eb, ec] at this
    unfold m3 m2
    rw [this]
    simp
  have e1 : m3 u w r a b c * s + m3 u v r a b c * y = 0 := by
    have := cr1 (u a) (v a) (r a) (w a) 0 0 0 (u b) (v b) (r b) (w b) (u c) (v c) (r c) (w c) x y z s
    rw [ea, eb, ec] at this
    unfold m3 m2
    rw [this]
    simp
  have e2 : m3 u v w a b c * s + m3 u v r a b c * z = 0 := by
    have := cr2 (u a) (v a) (r a) (w a) 0 0 0 (u b) (v b) (r b) (w b) (u c) (v c) (r c) (w c) x y z s
    rw [ea, eb, ec] at this
    unfold m3 m2
    rw [this]
    simp
  rw [cr4, show m3 w v r a b c * s = -(m3 u v r a b c * x) by omega, show m3 u w r a b c * s = -(m3 u v r a b c * y) by omega, show m3 u v w a b c * s = -(m3 u v r a b c * z) by omega, cr5, et, Int.mul_zero]
theorem made_dep {k a b c : Nat} {U : Nat → Nat → Int} {w : Nat → Int} (hk : k ≤ 3) (ha : a < 28) (hb : b < 28) (hc : c < 28) (hD : mK k U a b c ≠ 0) : (∀ t, t < 28 → sK k (fun i => mK k (pux i w U) a b c * U i t) = mK k U a b c * w t) ↔ DEP 28 k U w := by
  constructor
  · intro h
    refine ⟨fun i => mK k (pux i w U) a b c, -mK k U a b c, by omega, fun t ht => ?_⟩
    have e := h t ht
    rw [sK_congr (h := fun i => mK k (pux i w U) a b c * U i t) (fun i hi => Int.mul_comm _ _), e]
    grind
  · intro ⟨x, z, hz, h⟩ t ht
    have et := h t ht
    have ea := h a ha
    have eb := h b hb
    have ec := h c hc
    have : k = 0 ∨ k = 1 ∨ k = 2 ∨ k = 3 := by omega
    rcases this with rfl | rfl | rfl | rfl
    · have et : (0 : Int) + w t * z = 0 := et
      rw [Int.zero_add] at et
      show (0 : Int) = 1 * w t
      rw [mul0 et hz]
      rfl
    · simp only [sK1] at et ea
      rw [sK1]
      simp only [mK1] at hD ⊢
      have p0 : pux 0 w U 0 = w := if_pos rfl
      rw [p0]
      have g : (w a * U 0 t - U 0 a * w t) * z = 0 := by grind
      have := mul0 g hz
      omega
    · simp only [sK2] at et ea eb
      rw [sK2]
      simp only [mK2] at hD ⊢
      have p00 : pux 0 w U 0 = w := if_pos rfl
      have p01 : pux 0 w U 1 = U 1 := if_neg (by decide)
      have p10 : pux 1 w U 0 = U 0 := if_neg (by decide)
      have p11 : pux 1 w U 1 = w := if_pos rfl
      rw [p00, p01, p10, p11]
      have g : (m2 w (U 1) a b * U 0 t + m2 (U 0) w a b * U 1 t - m2 (U 0) (U 1) a b * w t) * z = 0 := by
        unfold m2
        grind
      have := mul0 g hz
      omega
    · simp only [sK3] at et ea eb ec
      rw [sK3]
      simp only [mK3] at hD ⊢
      have p00 : pux 0 w U 0 = w := if_pos rfl
      have p01 : pux 0 w U 1 = U 1 := if_neg (by decide)
      have p02 : pux 0 w U 2 = U 2 := if_neg (by decide)
      have p10 : pux 1 w U 0 = U 0 := if_neg (by decide)
      have p11 : pux 1 w U 1 = w := if_pos rfl
      have p12 : pux 1 w U 2 = U 2 := if_neg (by decide)
      have p20 : pux 2 w U 0 = U 0 := if_neg (by decide)
      have p21 : pux 2 w U 1 = U 1 := if_neg (by decide)
      have p22 : pux 2 w U 2 = w := if_pos rfl
      rw [p00, p01, p02, p10, p11, p12, p20, p21, p22]
      have g : (m3 w (U 1) (U 2) a b c * U 0 t + m3 (U 0) w (U 2) a b c * U 1 t + m3 (U 0) (U 1) w a b c * U 2 t - m3 (U 0) (U 1) (U 2) a b c * w t) * z = 0 := by
        rw [cr3 (U 0) (U 1) (U 2) w a b c t (x 0) (x 1) (x 2) z ea eb ec et]
      have := mul0 g hz
      omega
end DEPS
