section FORM
/-- a form: kind, figure, degree, told numbers -/
abbrev pF : Type := Nat × Nat × Nat × (Nat → Int32)
def FormC (h : pq_H) (p : Nat) (F : pF) : Prop := rI h p 1 = nI F.1 ∧ rI h p 2 = nI F.2.1 ∧ rI h p 3 = nI F.2.2.1 ∧ ∀ t, t < 28 → rI h (p + 12) t = F.2.2.2 t
def bdI (x : Int32) : Prop := -1000000 ≤ x.toInt ∧ x.toInt ≤ 1000000
def okF (F : pF) : Prop := F.1 ≤ 5 ∧ F.2.1 ≤ 9 ∧ F.2.2.1 ≤ 6 ∧ ∀ t, t < 28 → bdI (F.2.2.2 t)
/-- the coefficient at powers i, j, k -/
def hasV (F : pF) (i j k : Nat) : Int32 :=
  if F.1 = 1 then F.2.2.2 (tri (k + i) + i)
  else if F.1 = 2 then (if i % 2 = 0 then F.2.2.2 (tri (j + k) + k) else 0)
  else if F.1 = 3 then F.2.2.2 (tri (j + k) + k) - nI F.2.1
  else if F.1 = 4 then F.2.2.2 (tri (i + j) + j)
  else if F.1 = 5 then (if k = 0 then (if i % 2 = 0 then F.2.2.2 (tri (j + k) + k) else 0) else 0)
  else F.2.2.2 (tri (j + k) + k)
/-- the coefficient at term tri s + k -/
def cfV (F : pF) (s k : Nat) : Int32 := hasV F (F.2.2.1 - s) (s - k) k
theorem i0 : (0 : Int32) = nI 0 := rfl
theorem i1 : (1 : Int32) = nI 1 := rfl
theorem i2 : (2 : Int32) = nI 2 := rfl
theorem i3 : (3 : Int32) = nI 3 := rfl
theorem i4 : (4 : Int32) = nI 4 := rfl
theorem i5 : (5 : Int32) = nI 5 := rfl
theorem i6 : (6 : Int32) = nI 6 := rfl
theorem rem2 {i : Nat} (h : i < 1000) : nI i - nI i / 2 * 2 = nI (i % 2) := pk_rem (d := 2) (by omega) (by decide) (by decide)
theorem tri_28 {a k : Nat} (h : a ≤ 6) (hk : k ≤ a) : tri a + k < 28 := by
  have := tri6 h
  omega
theorem cl_nI {i : Nat} (h : i < 100000) : (nI i).toNatClampNeg = i := nI_clamp (by omega)
theorem ieq {a b : Nat} (ha : a < 100000) (hb : b < 100000) : nI a = nI b ↔ a = b := nI_eq (by omega) (by omega)
theorem ile {a b : Nat} (ha : a < 2000000000) (hb : b < 2000000000) : nI a ≤ nI b ↔ a ≤ b := nI_leI (by omega) (by omega)
theorem ilt {a b : Nat} (ha : a < 2000000000) (hb : b < 2000000000) : nI a < nI b ↔ a < b := nI_ltI (by omega) (by omega)
theorem has_ok {h : pq_H} {p i j k : Nat} {F : pF} (hF : FormC h p F) (hk : okF F) (hs : i + j + k ≤ 6) : f_X1_has p (nI i) (nI j) (nI k) h = some (hasV F i j k) := by
  obtain ⟨kd, fg, d, T⟩ := F
  obtain ⟨h1, h2, h3, h4⟩ := hF
  obtain ⟨b1, b2, b3, b4⟩ := hk
  simp only at h1 h2 h3 h4 b1 b2 b3 b4
  have q1 : tri (k + i) + i < 28 := tri_28 (by omega) (by omega)
  have q2 : tri (j + k) + k < 28 := tri_28 (by omega) (by omega)
  have q3 : tri (i + j) + j < 28 := tri_28 (by omega) (by omega)
  have g1 := h4 _ q1
  have g2 := h4 _ q2
  have g3 := h4 _ q3
  unfold f_X1_has hasV
  rw [h1, h2, termOf_nI (by omega), termOf_nI (by omega), termOf_nI (by omega), inbN q1 (by decide), inbN q2 (by decide), inbN q3 (by decide), nI_clamp (by omega), nI_clamp (by omega), nI_clamp (by omega), g1, g2, g3, rem2 (by omega)]
  simp only [gd_t]
  have e : ∀ n, n < 100 → ((nI kd = nI n) ↔ kd = n) := fun n hn => nI_eq (by omega) (by omega)
  have e1 : (nI (i % 2) = 0) ↔ i % 2 = 0 := nI_eq (b := 0) (by omega) (by decide)
  have e2 : (nI k = 0) ↔ k = 0 := nI_eq (b := 0) (by omega) (by decide)
  simp only [i1, i2, i3, i4, i5, e 1 (by decide), e 2 (by decide), e 3 (by decide), e 4 (by decide), e 5 (by decide), e1, e2]
  split
  · rfl
  split
  · split <;> rfl
  split
  · rfl
  split
  · rfl
  split
  · split
    · split <;> rfl
    · rfl
  · rfl
theorem at_ok {h : pq_H} {p s k : Nat} {F : pF} (hF : FormC h p F) (hk : okF F) (hs : s ≤ F.2.2.1) (hks : k ≤ s) : f_X1_at p (nI (tri s + k)) h = some (cfV F s k) := by
  have h3 := hF.2.2.1
  have hd := hk.2.2.1
  unfold f_X1_at
  rw [behindA_nI s (by omega) k (by omega), Option.bind_some, h3, termOf_nI0 (by omega), pk_sub (by omega), pk_sub (by omega), show tri s + k - tri s = k by omega, pk_sub hks, has_ok hF hk (by omega)]
  rfl
theorem toInt_sub9 {x : Int32} {g : Nat} (hx : bdI x) (hg : g ≤ 9) : -1000009 ≤ (x - nI g).toInt ∧ (x - nI g).toInt ≤ 1000000 := by
  obtain ⟨a, b⟩ := hx
  rw [Int32.toInt_sub, nI_toInt (by omega)]
  rw [Int.bmod_eq_of_le (by omega) (by omega)]
  omega
/-- coefficients are small -/
theorem cfV_b {F : pF} (hk : okF F) {s k : Nat} (hs : s ≤ F.2.2.1) (hks : k ≤ s) : -1000009 ≤ (cfV F s k).toInt ∧ (cfV F s k).toInt ≤ 1000000 := by
  obtain ⟨kd, fg, d, T⟩ := F
  obtain ⟨b1, b2, b3, b4⟩ := hk
  simp only at b1 b2 b3 b4 hs
  have q1 := b4 (tri (k + (d - s)) + (d - s)) (tri_28 (by omega) (by omega))
  have q2 := b4 (tri (s - k + k) + k) (tri_28 (by omega) (by omega))
  have q3 := b4 (tri (d - s + (s - k)) + (s - k)) (tri_28 (by omega) (by omega))
  have z : (0 : Int32).toInt = 0 := rfl
  have q4 := toInt_sub9 q2 b2
  unfold bdI at q1 q2 q3
  unfold cfV hasV
  simp only
  split
  · omega
  split
  · split
    · omega
    · rw [z]; omega
  split
  · exact q4
  split
  · omega
  split
  · split
    · split
      · omega
      · rw [z]; omega
    · rw [z]; omega
  · omega
end FORM
