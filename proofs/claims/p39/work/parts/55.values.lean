section VALUES
variable {F F' : pF} {D : Nat} {X Y Z : Int64}
def mo (X Y Z : Int64) (D t : Nat) : Int64 := pw X (D - (skT t).1) * pw Y ((skT t).1 - (skT t).2) * pw Z (skT t).2
def La (X Y Z : Int64) (D : Nat) (R : Nat → Int64) : Int64 := smT (fun t => R t * mo X Y Z D t) (tri (D + 1))
theorem La_congr {R R' : Nat → Int64} (h : ∀ t, t < tri (D + 1) → R t = R' t) : La X Y Z D R = La X Y Z D R' := smT_congr (fun t ht => by rw [h t ht])
theorem valF_La (F : pF) (x y z : Int32) : valF F x y z = La x.toInt64 y.toInt64 z.toInt64 F.2.2.1 (fun t => (cfT F t).toInt64) := by
  unfold valF La
  refine smT_congr (fun t _ => ?_)
  unfold vtW mo cfW cfT
  rw [Int64.mul_assoc, Int64.mul_assoc, Int64.mul_assoc]
theorem rg_32 {v : Int64} (h : rgJ v = true) : v.toInt32.toInt64 = v := by
  obtain ⟨a, b⟩ := rgJ_iff.mp h
  have a := Int64.le_iff_toInt_le.mp (Int64.not_lt.mp a)
  have b := Int64.le_iff_toInt_le.mp b
  rw [show (-1000000 : Int64).toInt = -1000000 by decide] at a
  rw [show (1000000 : Int64).toInt = 1000000 by decide] at b
  refine Int64.toInt_inj.mp ?_
  rw [Int32.toInt_toInt64, Int64.toInt_toInt32, Int.bmod_eq_of_le (by omega) (by omega)]
theorem rg_of {v : Int64} (h : -1000000 ≤ v.toInt ∧ v.toInt ≤ 1000000) : rgJ v = true := by
  refine rgJ_iff.mpr ⟨Int64.not_lt.mpr (Int64.le_iff_toInt_le.mpr ?_), Int64.le_iff_toInt_le.mpr ?_⟩
  · rw [show (-1000000 : Int64).toInt = -1000000 by decide]; exact h.1
  · rw [show (1000000 : Int64).toInt = 1000000 by decide]; exact h.2
theorem cfT_new {T : Nat → Int64} {t : Nat} (ht : t < tri (D + 1)) : cfT (newF D T) t = (T t).toInt32 := by
  obtain ⟨s, k, hs, hk, rfl⟩ := tri_exD ht
  have e : cfT (newF D T) (tri s + k) = cfV (newF D T) s k := by
    unfold cfT
    rw [skT_eq hk]
  rw [e]
  show (if tri (s - k + k) + k < tri (D + 1) then (T (tri (s - k + k) + k)).toInt32 else 0) = _
  rw [show s - k + k = s by omega, if_pos ht]
theorem val_new {T : Nat → Int64} (h : ∀ t, t < tri (D + 1) → rgJ (T t) = true) (x y z : Int32) : valF (newF D T) x y z = La x.toInt64 y.toInt64 z.toInt64 D T := by
  rw [valF_La]
  refine La_congr (fun t ht => ?_)
  have ht : t < tri (D + 1) := ht
  rw [cfT_new ht, rg_32 (h t ht)]
theorem smT_add (f g : Nat → Int64) : ∀ n, smT (fun t => f t + g t) n = smT f n + smT g n
  | 0 => rfl
  | n + 1 => by rw [smT_s, smT_s, smT_s, smT_add f g n]; grind
theorem smT_neg (f : Nat → Int64) : ∀ n, smT (fun t => -f t) n = -smT f n
  | 0 => by show (0 : Int64) = -0; decide
  | n + 1 => by rw [smT_s, smT_s, smT_neg f n]; grind
theorem La_add (R R' : Nat → Int64) : La X Y Z D (fun t => R t + R' t) = La X Y Z D R + La X Y Z D R' := by
  unfold La
  rw [← smT_add]
  exact smT_congr (fun t _ => by grind)
theorem La_neg (R : Nat → Int64) : La X Y Z D (fun t => -R t) = -La X Y Z D R := by
  unfold La
  rw [← smT_neg]
  exact smT_congr (fun t _ => by grind)
theorem smT_up {f g : Nat → Int64} {t0 : Nat} {d : Int64} (h : ∀ t, g t = if t = t0 then f t + d else f t) : ∀ n, smT g n = if t0 < n then smT f n + d else smT f n
  | 0 => rfl
  | n + 1 => by
    rw [smT_s, smT_s, smT_up h n, h n]
    by_cases c : n = t0
    · subst c
      rw [if_neg (by omega), if_pos rfl, if_pos (by omega)]
      grind
    · rw [if_neg c]
      by_cases c2 : t0 < n
      · rw [if_pos c2, if_pos (by omega)]; grind
      · rw [if_neg c2, if_neg (by omega)]
theorem La_up {R R' : Nat → Int64} {t0 : Nat} {c : Int64} (h : ∀ t, R' t = if t = t0 then R t + c else R t) (h0 : t0 < tri (D + 1)) : La X Y Z D R' = La X Y Z D R + c * mo X Y Z D t0 := by
  have e := smT_up (f := fun t => R t * mo X Y Z D t) (g := fun t => R' t * mo X Y Z D t) (t0 := t0) (d := c * mo X Y Z D t0) (fun t => by
    show R' t * mo X Y Z D t = _
    rw [h t]
    by_cases z : t = t0
    · subst z; rw [if_pos rfl, if_pos rfl]; grind
    · rw [if_neg z, if_neg z]) (tri (D + 1))
  rw [if_pos h0] at e
  exact e
theorem pw_add (x : Int64) (a : Nat) : ∀ b, pw x (a + b) = pw x a * pw x b
  | 0 => by simp [pw]
  | b + 1 => by rw [show a + (b + 1) = a + b + 1 by omega, pw_s, pw_s, pw_add x a b, Int64.mul_assoc]
theorem mo_mul {D1 D2 s1 k1 s2 k2 : Nat} (h1 : s1 ≤ D1) (g1 : k1 ≤ s1) (h2 : s2 ≤ D2) (g2 : k2 ≤ s2) : mo X Y Z (D1 + D2) (tri (s1 + s2) + (k1 + k2)) = mo X Y Z D1 (tri s1 + k1) * mo X Y Z D2 (tri s2 + k2) := by
  unfold mo
  rw [skT_eq (show k1 + k2 ≤ s1 + s2 by omega), skT_eq g1, skT_eq g2]
  simp only
  rw [show D1 + D2 - (s1 + s2) = (D1 - s1) + (D2 - s2) by omega, show s1 + s2 - (k1 + k2) = (s1 - k1) + (s2 - k2) by omega, pw_add, pw_add, pw_add]
  grind
theorem La_pin {D1 s1 k1 : Nat} {c : Int64} {R : Nat → Int64} (h1 : s1 ≤ D1) (g1 : k1 ≤ s1) : ∀ b, b ≤ tri (F'.2.2.1 + 1) → La X Y Z (D1 + F'.2.2.1) (pin F' c s1 k1 R b) = La X Y Z (D1 + F'.2.2.1) R + c * mo X Y Z D1 (tri s1 + k1) * smT (fun t => (cfT F' t).toInt64 * mo X Y Z F'.2.2.1 t) b
  | 0, _ => by simp [pin, smT]
  | b + 1, hb => by
    obtain ⟨s, k, hs, hk, e⟩ := tri_exD (show b < tri (F'.2.2.1 + 1) by omega)
    have e2 : skT b = (s, k) := by rw [e, skT_eq hk]
    have u := La_up (X := X) (Y := Y) (Z := Z) (D := D1 + F'.2.2.1) (R := pin F' c s1 k1 R b) (R' := pin F' c s1 k1 R (b + 1)) (t0 := tri (s1 + s) + (k1 + k)) (c := c * (cfT F' b).toInt64) (fun t => by
      rw [pin_s, e2]) (tri_lt (by omega) (by omega))
    rw [u, La_pin h1 g1 b (by omega), smT_s, mo_mul h1 g1 hs hk, ← e]
    grind
theorem La_pout : ∀ a, a ≤ tri (F.2.2.1 + 1) → La X Y Z (F.2.2.1 + F'.2.2.1) (pout F F' a) = smT (fun t => (cfT F t).toInt64 * mo X Y Z F.2.2.1 t) a * La X Y Z F'.2.2.1 (fun t => (cfT F' t).toInt64)
  | 0, _ => by
    have z : ∀ n, smT (fun t => (0 : Int64) * mo X Y Z (F.2.2.1 + F'.2.2.1) t) n = 0 := fun n => by
      induction n with
      | zero => rfl
      | succ n ih => rw [smT_s, ih]; grind
    show smT (fun t => (0 : Int64) * mo X Y Z (F.2.2.1 + F'.2.2.1) t) _ = 0 * _
    rw [z, Int64.zero_mul]
  | a + 1, ha => by
    obtain ⟨s, k, hs, hk, e⟩ := tri_exD (show a < tri (F.2.2.1 + 1) by omega)
    have e2 : skT a = (s, k) := by rw [e, skT_eq hk]
    rw [pout_s, e2, La_pin hs hk _ (Nat.le_refl _), La_pout a (by omega), smT_s, ← e]
    show _ + _ * La X Y Z F'.2.2.1 (fun t => (cfT F' t).toInt64) = _
    grind
/-- values of forms made of others -/
theorem val_sum (hdd : F'.2.2.1 = F.2.2.1) (hr : ∀ t, t < tri (F.2.2.1 + 1) → rgJ (Wt (fun s k => (cfV F s k).toInt64 + (cfV F' s k).toInt64) t) = true) (x y z : Int32) : valF (newF F.2.2.1 (Wt (fun s k => (cfV F s k).toInt64 + (cfV F' s k).toInt64))) x y z = valF F x y z + valF F' x y z := by
  rw [val_new hr, valF_La F, valF_La F', hdd, ← La_add]
  rfl
theorem val_neg (hr : ∀ t, t < tri (F.2.2.1 + 1) → rgJ (Wt (fun s k => -(cfV F s k).toInt64) t) = true) (x y z : Int32) : valF (newF F.2.2.1 (Wt (fun s k => -(cfV F s k).toInt64))) x y z = -valF F x y z := by
  rw [val_new hr, valF_La F, ← La_neg]
  rfl
theorem val_prod (hr : ∀ t, t < tri (F.2.2.1 + F'.2.2.1 + 1) → rgJ (pout F F' (tri (F.2.2.1 + 1)) t) = true) (x y z : Int32) : valF (newF (F.2.2.1 + F'.2.2.1) (pout F F' (tri (F.2.2.1 + 1)))) x y z = valF F x y z * valF F' x y z := by
  rw [val_new hr, La_pout _ (Nat.le_refl _), valF_La F, valF_La F']
  rfl
theorem ah_congr {A B : Nat → Nat → Int64} {X Y Z : Int64} : ∀ n, (∀ s k, s < n → k ≤ s → A s k = B s k) → ah A X Y Z n = ah B X Y Z n
  | 0, _ => rfl
  | n + 1, h => by
    have hb : ∀ m, m ≤ n + 1 → bh A Y Z n m = bh B Y Z n m := fun m => by
      induction m with
      | zero => exact fun _ => rfl
      | succ m ih => exact fun hm => by rw [bh_s, bh_s, ih (by omega), h n m (by omega) (by omega)]
    rw [ah_s, ah_s, ah_congr n (fun s k a b => h s k (by omega) b), hb _ (Nat.le_refl _)]
theorem wr0_new {T : Nat → Int64} (hr : ∀ t, t < tri (D + 1) → rgJ (T t) = true) {s k : Nat} (hs : s ≤ D) (hk : k ≤ s) : wr0 (newF D T) 7 s k = T (tri s + k) := by
  have ht := tri_lt (show s < D + 1 by omega) hk
  have e : cfT (newF D T) (tri s + k) = cfV (newF D T) s k := by
    unfold cfT
    rw [skT_eq hk]
  rw [wr7, ← e, cfT_new ht, rg_32 (hr _ ht)]
theorem on7Z (x y z : Int) : onZ 7 x y z := ⟨Or.inl rfl, Or.inl rfl, Or.inl rfl⟩
theorem val_lift {x y z : Nat} (hx : x < 1000) (hy : y < 1000) (hz : z < 1000) (hr : ∀ t, t < tri (F.2.2.1 + 1 + 1) → rgJ (Wt (rzN 7 F.2.2.1 (wr0 F 7) 1) t) = true) : valF (newF (F.2.2.1 + 1) (Wt (rzN 7 F.2.2.1 (wr0 F 7) 1))) (nI x) (nI y) (nI z) = valF F (nI x) (nI y) (nI z) * (nI x + nI y + nI z).toInt64 := by
  have w7 : ∀ G : pF, ah (wr0 G 7) (nI x).toInt64 (nI y).toInt64 (nI z).toInt64 (G.2.2.1 + 1) = valF G (nI x) (nI y) (nI z) := fun G => worth_val ⟨Or.inl rfl, Or.inl rfl, Or.inl rfl⟩
  rw [← w7]
  have e1 : ah (wr0 (newF (F.2.2.1 + 1) (Wt (rzN 7 F.2.2.1 (wr0 F 7) 1))) 7) (nI x).toInt64 (nI y).toInt64 (nI z).toInt64 (F.2.2.1 + 1 + 1) = ah (rz 7 F.2.2.1 (wr0 F 7)) (nI x).toInt64 (nI y).toInt64 (nI z).toInt64 (F.2.2.1 + 1 + 1) := ah_congr _ (fun s k a b => by
    rw [wr0_new hr (by omega) b, Wt_eq b]
    rfl)
  show ah _ _ _ _ (F.2.2.1 + 1 + 1) = _
  rw [e1, ah_Z (rz_Z (wr0_Z F 7)) (nI_64 (show x < 1000000 by omega)) (nI_64 (show y < 1000000 by omega)) (nI_64 (show z < 1000000 by omega)), hZ_rz (on7Z _ _ _), Int64.ofInt_mul, val_Z (g := 7) (show x < 1000000 by omega) (show y < 1000000 by omega) (show z < 1000000 by omega) (on7Z _ _ _), nI_add, nI_add, nI_64 (show x + y + z < 1000000 by omega)]
  congr 2
end VALUES
