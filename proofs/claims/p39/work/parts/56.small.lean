section SMALL
variable {F F' : pF} {D : Nat}
/-- small coefficients -/
def smB (B : Int) (F : pF) : Prop := ∀ t, t < tri (F.2.2.1 + 1) → -B ≤ (cfT F t).toInt ∧ (cfT F t).toInt ≤ B
theorem rg_ofInt {v : Int} (h : -1000000 ≤ v ∧ v ≤ 1000000) : rgJ (Int64.ofInt v) = true := by
  refine rg_of ?_
  rw [Int64.toInt_ofInt_of_le (by omega) (by omega)]
  exact h
theorem sum_r (hdd : F'.2.2.1 = F.2.2.1) (h : smB 60 F) (h' : smB 60 F') : ∀ t, t < tri (F.2.2.1 + 1) → rgJ (Wt (fun s k => (cfV F s k).toInt64 + (cfV F' s k).toInt64) t) = true := fun t ht => by
  have a := h t ht
  have b := h' t (by rw [hdd]; exact ht)
  show rgJ ((cfT F t).toInt64 + (cfT F' t).toInt64) = true
  rw [i64_32, i64_32, ← Int64.ofInt_add]
  exact rg_ofInt (by omega)
theorem sum_sm (hdd : F'.2.2.1 = F.2.2.1) (h : smB 60 F) (h' : smB 60 F') : smB 120 (newF F.2.2.1 (Wt (fun s k => (cfV F s k).toInt64 + (cfV F' s k).toInt64))) := fun t ht => by
  have ht : t < tri (F.2.2.1 + 1) := ht
  have a := h t ht
  have b := h' t (by rw [hdd]; exact ht)
  have r := sum_r hdd h h' t ht
  have e := congrArg Int64.toInt (rg_32 r)
  rw [Int32.toInt_toInt64] at e
  rw [cfT_new ht, e]
  show -120 ≤ ((cfT F t).toInt64 + (cfT F' t).toInt64).toInt ∧ ((cfT F t).toInt64 + (cfT F' t).toInt64).toInt ≤ 120
  rw [i64_32, i64_32, ← Int64.ofInt_add, Int64.toInt_ofInt_of_le (by omega) (by omega)]
  omega
theorem neg_r (h : smB 120 F) : ∀ t, t < tri (F.2.2.1 + 1) → rgJ (Wt (fun s k => -(cfV F s k).toInt64) t) = true := fun t ht => by
  have a := h t ht
  show rgJ (-(cfT F t).toInt64) = true
  rw [i64_32, ← Int64.ofInt_neg]
  exact rg_ofInt (by omega)
theorem aZ_7 {s k : Nat} (hk : k ≤ s) : aZ F 7 s k = (cfT F (tri s + k)).toInt := by
  unfold aZ cfT
  rw [if_pos (on7 _ _ _), skT_eq hk]
theorem lift_r (h : smB 60 F) : ∀ t, t < tri (F.2.2.1 + 1 + 1) → rgJ (Wt (rzN 7 F.2.2.1 (wr0 F 7) 1) t) = true := fun t ht => by
  obtain ⟨s, k, hs, hk, rfl⟩ := tri_exD ht
  have b : ∀ s' k', s' ≤ F.2.2.1 → k' ≤ s' → -60 ≤ aZ F 7 s' k' ∧ aZ F 7 s' k' ≤ 60 := fun s' k' a c => by
    rw [aZ_7 c]
    exact h _ (tri_lt (by omega) c)
  rw [Wt_eq hk]
  show rgJ (rz 7 F.2.2.1 (wr0 F 7) s k) = true
  rw [rz_Z (wr0_Z F 7)]
  refine rg_ofInt ?_
  have x1 : -60 ≤ (if 7 % 2 = 1 ∧ s ≤ F.2.2.1 then aZ F 7 s k else 0) ∧ (if 7 % 2 = 1 ∧ s ≤ F.2.2.1 then aZ F 7 s k else 0) ≤ 60 := by
    split
    · rename_i c; exact b s k c.2 hk
    · decide
  have x2 : -60 ≤ (if 7 / 2 % 2 = 1 ∧ k < s then aZ F 7 (s - 1) k else 0) ∧ (if 7 / 2 % 2 = 1 ∧ k < s then aZ F 7 (s - 1) k else 0) ≤ 60 := by
    split
    · rename_i c; exact b (s - 1) k (by omega) (by omega)
    · decide
  have x3 : -60 ≤ (if 7 / 4 % 2 = 1 ∧ 0 < k then aZ F 7 (s - 1) (k - 1) else 0) ∧ (if 7 / 4 % 2 = 1 ∧ 0 < k then aZ F 7 (s - 1) (k - 1) else 0) ≤ 60 := by
    split
    · rename_i c; exact b (s - 1) (k - 1) (by omega) (by omega)
    · decide
  unfold rzZ
  omega
theorem mul_60 {a b : Int} (ha : -60 ≤ a ∧ a ≤ 60) (hb : -60 ≤ b ∧ b ≤ 60) : -3600 ≤ a * b ∧ a * b ≤ 3600 := by
  by_cases c : 0 ≤ b
  · have := mul_ab (P := 60) (b := a) (y := b) (c := 60) (by decide) ha ⟨c, hb.2⟩
    omega
  · have := mul_ab (P := 60) (b := a) (y := -b) (c := 60) (by decide) ha ⟨by omega, by omega⟩
    rw [Int.mul_neg] at this
    omega
def bnd (B : Nat) (v : Int64) : Prop := -(B : Int) ≤ v.toInt ∧ v.toInt ≤ B
theorem bnd_up {B : Nat} {v : Int64} {x y : Int32} (hB : B ≤ 1000000000) (h : bnd B v) (hx : -60 ≤ x.toInt ∧ x.toInt ≤ 60) (hy : -60 ≤ y.toInt ∧ y.toInt ≤ 60) : bnd (B + 3600) (v + x.toInt64 * y.toInt64) := by
  have m := mul_60 hx hy
  unfold bnd at h ⊢
  rw [i64_32, i64_32, ← Int64.ofInt_toInt v, ← Int64.ofInt_mul, ← Int64.ofInt_add, Int64.toInt_ofInt_of_le (by omega) (by omega)]
  omega
theorem pin_b {s1 k1 B : Nat} {c : Int32} {R : Nat → Int64} (h' : smB 60 F') (hc : -60 ≤ c.toInt ∧ c.toInt ≤ 60) (hR : ∀ t, bnd B (R t)) : ∀ b, b ≤ tri (F'.2.2.1 + 1) → B + 3600 * b ≤ 1000000000 → ∀ t, bnd (B + 3600 * b) (pin F' c.toInt64 s1 k1 R b t)
  | 0, _, _, t => hR t
  | b + 1, hb, hB, t => by
    have ih := pin_b h' hc hR b (by omega) (by omega) (s1 := s1) (k1 := k1) t
    rw [pin_s]
    split
    · have := bnd_up (by omega) ih hc (h' b (by omega))
      rw [show B + 3600 * (b + 1) = B + 3600 * b + 3600 by omega]
      exact this
    · unfold bnd at ih ⊢
      omega
theorem pout_b (h : smB 60 F) (h' : smB 60 F') (hd' : tri (F'.2.2.1 + 1) ≤ 10) : ∀ a, a ≤ tri (F.2.2.1 + 1) → a ≤ 10 → ∀ t, bnd (36000 * a) (pout F F' a t)
  | 0, _, _, t => by show bnd 0 (0 : Int64); exact ⟨by decide, by decide⟩
  | a + 1, ha, h10, t => by
    have ih := pout_b h h' hd' a (by omega) (by omega)
    have := pin_b (s1 := (skT a).1) (k1 := (skT a).2) h' (h a (by omega)) ih (tri (F'.2.2.1 + 1)) (Nat.le_refl _) (by omega) t
    rw [pout_s]
    unfold bnd at this ⊢
    omega
theorem prod_r (h : smB 60 F) (h' : smB 60 F') (hd : F.2.2.1 ≤ 3) (hd' : F'.2.2.1 ≤ 3) (t : Nat) : rgJ (pout F F' (tri (F.2.2.1 + 1)) t) = true := by
  have e : ∀ d, d ≤ 3 → tri (d + 1) ≤ 10 := fun d h => tri_mono (show d + 1 ≤ 4 by omega)
  have := pout_b h h' (e _ hd') _ (Nat.le_refl _) (e _ hd) t
  have := e _ hd
  unfold bnd at *
  exact rg_of (by omega)
theorem rz_congr {g d : Nat} {W V : Nat → Nat → Int64} (h : ∀ s k, s ≤ d → k ≤ s → W s k = V s k) {s k : Nat} (hs : s ≤ d + 1) (hk : k ≤ s) : rz g d W s k = rz g d V s k := by
  have x1 : (if g % 2 = 1 ∧ s ≤ d then W s k else 0) = if g % 2 = 1 ∧ s ≤ d then V s k else 0 := by
    split
    · rename_i c; exact h s k c.2 hk
    · rfl
  have x2 : (if g / 2 % 2 = 1 ∧ k < s then W (s - 1) k else 0) = if g / 2 % 2 = 1 ∧ k < s then V (s - 1) k else 0 := by
    split
    · rename_i c; exact h (s - 1) k (by omega) (by omega)
    · rfl
  have x3 : (if g / 4 % 2 = 1 ∧ 0 < k then W (s - 1) (k - 1) else 0) = if g / 4 % 2 = 1 ∧ 0 < k then V (s - 1) (k - 1) else 0 := by
    split
    · rename_i c; exact h (s - 1) (k - 1) (by omega) (by omega)
    · rfl
  unfold rz
  rw [x1, x2, x3]
/-- what is lifted once, lifted on -/
def liF (F : pF) : pF := newF (F.2.2.1 + 1) (Wt (rzN 7 F.2.2.1 (wr0 F 7) 1))
theorem rzN_li (h : smB 60 F) : ∀ n s k, s ≤ F.2.2.1 + 1 + n → k ≤ s → rzN 7 (F.2.2.1 + 1) (wr0 (liF F) 7) n s k = rzN 7 F.2.2.1 (wr0 F 7) (n + 1) s k
  | 0, s, k, hs, hk => by
    show wr0 (liF F) 7 s k = _
    unfold liF
    rw [wr0_new (lift_r h) hs hk, Wt_eq hk]
  | n + 1, s, k, hs, hk => by
    rw [rzN_s, rzN_s, show F.2.2.1 + (n + 1) = F.2.2.1 + 1 + n by omega]
    exact rz_congr (fun s' k' a b => rzN_li h n s' k' a b) (by omega) hk
theorem clZ_li (h : smB 60 F) {q n : Nat} (hn : n ≤ 12) : clZ (liF F) 7 q n ↔ clZ F 7 q (n + 1) := by
  have e : ∀ s k, s ≤ F.2.2.1 + 1 + n → k ≤ s → rnZ 7 (liF F).2.2.1 (aZ (liF F) 7) n s k = rnZ 7 F.2.2.1 (aZ F 7) (n + 1) s k := fun s k hs hk => by
    rw [← rzN_int (by omega), ← rzN_int (by omega)]
    exact congrArg Int64.toInt (rzN_li h n s k hs hk)
  unfold clZ
  constructor
  · intro c s k hs hk ho
    have := c s k (show s ≤ F.2.2.1 + 1 + n by omega) hk (on7 _ _ _)
    rw [e s k (by omega) hk] at this
    exact this
  · intro c s k hs hk ho
    have hs : s ≤ F.2.2.1 + 1 + n := hs
    rw [e s k hs hk]
    exact c s k (by omega) hk (on7 _ _ _)
end SMALL
