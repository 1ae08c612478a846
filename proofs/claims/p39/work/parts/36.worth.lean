section WORTH
variable {hC hM : pq_H}
def pw (x : Int64) : Nat → Int64
  | 0 => 1
  | n + 1 => pw x n * x
theorem pw_s (x : Int64) (n : Nat) : pw x (n + 1) = pw x n * x := rfl
def bh (W : Nat → Nat → Int64) (Y Z : Int64) (s : Nat) : Nat → Int64
  | 0 => 0
  | k + 1 => bh W Y Z s k * Y + W s k * pw Z k
def ah (W : Nat → Nat → Int64) (X Y Z : Int64) : Nat → Int64
  | 0 => 0
  | s + 1 => ah W X Y Z s * X + bh W Y Z s (s + 1)
theorem bh_s (W : Nat → Nat → Int64) (Y Z : Int64) (s k : Nat) : bh W Y Z s (k + 1) = bh W Y Z s k * Y + W s k * pw Z k := rfl
theorem ah_s (W : Nat → Nat → Int64) (X Y Z : Int64) (s : Nat) : ah W X Y Z (s + 1) = ah W X Y Z s * X + bh W Y Z s (s + 1) := rfl
theorem worth_ok {h : pq_H} {D : Nat} {W : Nat → Nat → Int64} (hD : D ≤ 18) (hW : WC h D W) (x y z : Int32) : f_X9_worth x y z h = some (ah W x.toInt64 y.toInt64 z.toInt64 (D + 1)) := by
  refine ok_eq ?_
  unfold f_X9_worth
  refine lp_gen (fun (w : Int64 → Int32 → Int32 → Option Int64) (s : Int64 × Int32 × Int32) => w s.1 s.2.1 s.2.2) (fun i s => s.1 = ah W x.toInt64 y.toInt64 z.toInt64 i ∧ s.2.1 = nI (tri i) ∧ s.2.2 = nI i) (D + 1) ?_ ?_ 1000 0 (0, 0, 0) (by omega) (by omega) ⟨rfl, rfl, rfl⟩
  · intro i s w hi hI hw
    obtain ⟨a, t, b⟩ := s
    obtain ⟨e1, e2, e3⟩ := hI
    simp only at e1 e2 e3
    subst e1 e2 e3
    show ok (f_X9_worth_l9 x y z h w (ah W x.toInt64 y.toInt64 z.toInt64 i) (nI (tri i)) (nI i)) _
    have hb := tri18 (show i ≤ 18 by omega)
    unfold f_X9_worth_l9
    rw [hW.1, if_neg (nI_nlt (by omega) (by omega))]
    refine lp_gen (fun (w : Int32 → Int64 → Int64 → Int32 → Option Int64) (s : Int32 × Int64 × Int64 × Int32) => w s.1 s.2.1 s.2.2.1 s.2.2.2) (fun k s => s.1 = nI (tri i + k) ∧ s.2.1 = bh W y.toInt64 z.toInt64 i k ∧ s.2.2.1 = pw z.toInt64 k ∧ s.2.2.2 = nI k) (i + 1) ?_ ?_ 1000 0 (nI (tri i), 0, 1, 0) (by omega) (by omega) ⟨rfl, rfl, rfl, rfl⟩
    · intro k s w2 hk hI hw2
      obtain ⟨a1, a2, a3, a4⟩ := s
      obtain ⟨e1, e2, e3, e4⟩ := hI
      simp only at e1 e2 e3 e4
      subst e1 e2 e3 e4
      show ok (f_X9_worth_l27 x y z h w (ah W x.toInt64 y.toInt64 z.toInt64 i) (nI i) w2 (nI (tri i + k)) (bh W y.toInt64 z.toInt64 i k) (pw z.toInt64 k) (nI k)) _
      unfold f_X9_worth_l27
      rw [if_neg (nI_nlt (by omega) (by omega)), inbN (show tri i + k < 190 by omega) (by decide), gd_t, nI_clamp (by omega), hW.2 i k (by omega) (by omega), nI_1, nI_1]
      exact hw2 (_, _, _, _) ⟨rfl, rfl, rfl, rfl⟩
    · intro s w2 hI
      obtain ⟨a1, a2, a3, a4⟩ := s
      obtain ⟨e1, e2, e3, e4⟩ := hI
      simp only at e1 e2 e3 e4
      subst e1 e2 e3 e4
      show ok (f_X9_worth_l27 x y z h w (ah W x.toInt64 y.toInt64 z.toInt64 i) (nI i) w2 (nI (tri i + (i + 1))) (bh W y.toInt64 z.toInt64 i (i + 1)) (pw z.toInt64 (i + 1)) (nI (i + 1))) _
      unfold f_X9_worth_l27 f_X9_worth_j68
      rw [if_pos (nI_lt (by omega) (by omega)), nI_1, ← tri_succ]
      exact hw (_, _, _) ⟨rfl, rfl, rfl⟩
  · intro s w hI
    obtain ⟨a, t, b⟩ := s
    obtain ⟨e1, e2, e3⟩ := hI
    simp only at e1 e2 e3
    subst e1 e2 e3
    show ok (f_X9_worth_l9 x y z h w (ah W x.toInt64 y.toInt64 z.toInt64 (D + 1)) (nI (tri (D + 1))) (nI (D + 1))) _
    unfold f_X9_worth_l9
    rw [hW.1, if_pos (nI_lt (by omega) (by omega))]
    exact ok_some rfl
def smT (f : Nat → Int64) : Nat → Int64
  | 0 => 0
  | n + 1 => smT f n + f n
theorem smT_s (f : Nat → Int64) (n : Nat) : smT f (n + 1) = smT f n + f n := rfl
def vtW (W : Nat → Nat → Int64) (D : Nat) (X Y Z : Int64) (t : Nat) : Int64 := ((W (skT t).1 (skT t).2 * pw X (D - (skT t).1)) * pw Y ((skT t).1 - (skT t).2)) * pw Z (skT t).2
theorem smT_congr {f f' : Nat → Int64} {n : Nat} (h : ∀ t, t < n → f t = f' t) : smT f n = smT f' n := by
  induction n with
  | zero => rfl
  | succ n ih => rw [smT_s, smT_s, ih (fun t ht => h t (by omega)), h n (by omega)]
theorem horner1 (W : Nat → Nat → Int64) (D : Nat) (X Y Z : Int64) (s : Nat) (hs : s ≤ D) (a : smT (vtW W D X Y Z) (tri s) = ah W X Y Z s * pw X (D + 1 - s)) (k : Nat) (hk : k ≤ s) : smT (vtW W D X Y Z) (tri s + k) = ah W X Y Z s * pw X (D + 1 - s) + bh W Y Z s k * pw Y (s + 1 - k) * pw X (D - s) := by
  induction k with
  | zero =>
    rw [Nat.add_zero, a]
    show _ = _ + 0 * pw Y (s + 1) * pw X (D - s)
    rw [Int64.zero_mul, Int64.zero_mul, Int64.add_zero]
  | succ k ih =>
    rw [← Nat.add_assoc, smT_s, ih (by omega), bh_s]
    unfold vtW
    rw [skT_eq (show k ≤ s by omega), show s + 1 - k = s - k + 1 by omega, show s + 1 - (k + 1) = s - k by omega, pw_s]
    grind
theorem horner (W : Nat → Nat → Int64) (D : Nat) (X Y Z : Int64) : ∀ s, s ≤ D + 1 → smT (vtW W D X Y Z) (tri s) = ah W X Y Z s * pw X (D + 1 - s) := by
  intro s
  induction s with
  | zero =>
    intro _
    show (0 : Int64) = 0 * _
    rw [Int64.zero_mul]
  | succ s ih =>
    intro hs
    have a := ih (by omega)
    have b := horner1 W D X Y Z s (by omega) a s (Nat.le_refl _)
    rw [tri_succ, ← Nat.add_assoc, smT_s, b, ah_s, bh_s]
    unfold vtW
    rw [skT_eq (Nat.le_refl _), Nat.sub_self, show s + 1 - s = 1 by omega, show D + 1 - s = D - s + 1 by omega, show D + 1 - (s + 1) = D - s by omega, pw_s]
    show _ + _ * _ * (1 : Int64) * _ = _
    rw [show pw Y 1 = 1 * Y from rfl]
    grind
theorem worth_sum (W : Nat → Nat → Int64) (D : Nat) (X Y Z : Int64) : ah W X Y Z (D + 1) = smT (vtW W D X Y Z) (tri (D + 1)) := by
  rw [horner W D X Y Z (D + 1) (Nat.le_refl _), Nat.sub_self]
  show _ = _ * (1 : Int64)
  rw [Int64.mul_one]
def cfW (F : pF) (s k : Nat) : Int64 := (cfV F s k).toInt64
def valF (F : pF) (x y z : Int32) : Int64 := smT (vtW (cfW F) F.2.2.1 x.toInt64 y.toInt64 z.toInt64) (tri (F.2.2.1 + 1))
theorem vt_on {F : pF} {X Y Z : Int64} {g : Nat} (hz : (g % 2 = 1 ∨ X = 0) ∧ (g / 2 % 2 = 1 ∨ Y = 0) ∧ (g / 4 % 2 = 1 ∨ Z = 0)) {t : Nat} (ht : t < tri (F.2.2.1 + 1)) : vtW (wr0 F g) F.2.2.1 X Y Z t = vtW (cfW F) F.2.2.1 X Y Z t := by
  obtain ⟨s, k, hs, hk, e⟩ := tri_exD ht
  unfold vtW
  rw [e, skT_eq hk]
  simp only
  unfold wr0 cfW
  by_cases o : onS g F.2.2.1 s k = true
  · rw [if_pos o]
  · rw [if_neg o]
    have p0 : ∀ n, 0 < n → pw (0 : Int64) n = 0 := fun n hn => by
      obtain ⟨m, rfl⟩ := Nat.exists_eq_add_of_le' (show 1 ≤ n from hn)
      rw [pw_s, Int64.mul_zero]
    have q := fun w => o (onS_iff.mpr w)
    have no : (X = 0 ∧ 0 < F.2.2.1 - s) ∨ (Y = 0 ∧ 0 < s - k) ∨ (Z = 0 ∧ 0 < k) := by
      by_cases q1 : g % 2 = 1 ∨ F.2.2.1 = s
      · by_cases q2 : g / 2 % 2 = 1 ∨ s = k
        · by_cases q3 : g / 4 % 2 = 1 ∨ k = 0
          · exact (q ⟨q1, q2, q3⟩).elim
          · exact Or.inr (Or.inr ⟨hz.2.2.resolve_left (fun e => q3 (Or.inl e)), by omega⟩)
        · exact Or.inr (Or.inl ⟨hz.2.1.resolve_left (fun e => q2 (Or.inl e)), by omega⟩)
      · exact Or.inl ⟨hz.1.resolve_left (fun e => q1 (Or.inl e)), by omega⟩
    rcases no with ⟨rfl, b⟩ | ⟨rfl, b⟩ | ⟨rfl, b⟩
    · rw [p0 _ b]; simp
    · rw [p0 _ b]; simp
    · rw [p0 _ b]; simp
theorem worth_val {F : pF} {g : Nat} {x y z : Int32} (hz : (g % 2 = 1 ∨ x = 0) ∧ (g / 2 % 2 = 1 ∨ y = 0) ∧ (g / 4 % 2 = 1 ∨ z = 0)) : ah (wr0 F g) x.toInt64 y.toInt64 z.toInt64 (F.2.2.1 + 1) = valF F x y z := by
  rw [worth_sum]
  unfold valF
  refine smT_congr (fun t ht => vt_on ⟨hz.1.imp id ?_, hz.2.1.imp id ?_, hz.2.2.imp id ?_⟩ ht)
  · intro e; subst e; rfl
  · intro e; subst e; rfl
  · intro e; subst e; rfl
end WORTH
