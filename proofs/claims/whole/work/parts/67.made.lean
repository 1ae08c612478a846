section MADE
variable {hC hM : pq_H}
def RW (h : pq_H) (a b c : Nat) : Prop := a < 28 ∧ b < 28 ∧ c < 28 ∧ rI h 0 32 = nI a ∧ rI h 0 33 = nI b ∧ rI h 0 34 = nI c
theorem minor0_ok {h : pq_H} {k a b c : Nat} (hk : k ≤ 3) (e : rI h 0 31 = nI k) (r : RW h a b c) : f_X11_minor (rI h 0 31) 0 1 2 h = some (Int64.ofInt (mK k (SL h) a b c)) := by
  obtain ⟨r1, r2, r3, r4, r5, r6⟩ := r
  rw [e, show (0 : Int32) = nI 0 from rfl, show (1 : Int32) = nI 1 from rfl, show (2 : Int32) = nI 2 from rfl, minor_ok hk (by omega) (by omega) (by omega) r4 r5 r6 r1 r2 r3, mK_congr hk (fun i hi => SU_id (by omega))]
theorem upOf_ok {h : pq_H} {k i a b c : Nat} (hk : k ≤ 3) (hi : i < k) (e : rI h 0 31 = nI k) (r : RW h a b c) : f_X11_upOf (nI i) h = some (Int64.ofInt (mK k (pux i (SL h 3) (SL h)) a b c)) := by
  obtain ⟨r1, r2, r3, r4, r5, r6⟩ := r
  have sb : ∀ j, s3 i j < 4 ∨ 4 ≤ j := fun j => by unfold s3; split <;> omega
  have e1 : f_X11_upOf (nI i) h = f_X11_minor (nI k) (nI (s3 i 0)) (nI (s3 i 1)) (nI (s3 i 2)) h := by
    unfold f_X11_upOf f_X11_upOf_j14 f_X11_upOf_j24 f_X11_upOf_j34
    rw [e]
    simp only [bind_id]
    have a : i = 0 ∨ i = 1 ∨ i = 2 := by omega
    rcases a with rfl | rfl | rfl
    · rw [if_pos (show nI 0 = 0 from rfl), if_neg (show ¬ nI 0 = 1 by decide), if_neg (show ¬ nI 0 = 2 by decide), show s3 0 0 = 3 from rfl, show s3 0 1 = 1 from rfl, show s3 0 2 = 2 from rfl]
      rfl
    · rw [if_neg (show ¬ nI 1 = 0 by decide), if_pos (show nI 1 = 1 from rfl), if_neg (show ¬ nI 1 = 2 by decide), show s3 1 0 = 0 from rfl, show s3 1 1 = 3 from rfl, show s3 1 2 = 2 from rfl]
      rfl
    · rw [if_neg (show ¬ nI 2 = 0 by decide), if_neg (show ¬ nI 2 = 1 by decide), if_pos (show nI 2 = 2 from rfl), show s3 2 0 = 0 from rfl, show s3 2 1 = 1 from rfl, show s3 2 2 = 3 from rfl]
      rfl
  rw [e1, minor_ok hk (by have := sb 0; omega) (by have := sb 1; omega) (by have := sb 2; omega) r4 r5 r6 r1 r2 r3, mK_congr hk (fun j hj => SU_pux (by omega) (by omega))]
theorem sK_b {k : Nat} {g : Nat → Int} {B : Int} (hk : k ≤ 3) (hB : 0 ≤ B) (h : ∀ i, i < k → -B ≤ g i ∧ g i ≤ B) : -(3 * B) ≤ sK k g ∧ sK k g ≤ 3 * B := by
  have : k = 0 ∨ k = 1 ∨ k = 2 ∨ k = 3 := by omega
  rcases this with rfl | rfl | rfl | rfl
  · show -(3 * B) ≤ 0 ∧ 0 ≤ 3 * B
    omega
  · rw [sK1]
    have := h 0 (by omega)
    omega
  · rw [sK2]
    have := h 0 (by omega)
    have := h 1 (by omega)
    omega
  · rw [sK3]
    have := h 0 (by omega)
    have := h 1 (by omega)
    have := h 2 (by omega)
    omega
def MD (h : pq_H) (k a b c t : Nat) : Prop := sK k (fun i => mK k (pux i (SL h 3) (SL h)) a b c * SL h i t) = mK k (SL h) a b c * SL h 3 t
theorem oEq {x y : Int} (hx : -9223372036854775808 ≤ x ∧ x ≤ 9223372036854775807) (hy : -9223372036854775808 ≤ y ∧ y ≤ 9223372036854775807) : (Int64.ofInt x = Int64.ofInt y) ↔ x = y := by
  rw [← Int64.toInt_inj, oT hx, oT hy]
theorem isMade_ok {h : pq_H} {k a b c : Nat} (hk : k ≤ 3) (e : rI h 0 31 = nI k) (r : RW h a b c) (hB : ∀ i, i < k → ∀ t, t < 28 → -99 ≤ SL h i t ∧ SL h i t ≤ 99) (hB3 : ∀ t, t < 28 → -99 ≤ SL h 3 t ∧ SL h 3 t ≤ 99) : ok (f_X11_isMade h) (fun x => (x = true ∧ ∀ t, t < 28 → MD h k a b c t) ∨ (x = false ∧ ∃ t, t < 28 ∧ ¬ MD h k a b c t)) := by
  obtain ⟨r1, r2, r3, r4, r5, r6⟩ := id r
  unfold f_X11_isMade
  rw [minor0_ok hk e r, Option.bind_some]
  have bU : ∀ i, i < k → -5821794 ≤ mK k (pux i (SL h 3) (SL h)) a b c ∧ mK k (pux i (SL h 3) (SL h)) a b c ≤ 5821794 := fun i hi => mK_b hk r1 r2 r3 (fun j hj t ht => by
    unfold pux
    by_cases z : j = i
    · rw [if_pos z]; exact hB3 t ht
    · rw [if_neg z]; exact hB j hj t ht)
  have bD : -5821794 ≤ mK k (SL h) a b c ∧ mK k (SL h) a b c ≤ 5821794 := mK_b hk r1 r2 r3 hB
  refine lp_gen (fun (w : Bool → Int32 → Option Bool) (s : Bool × Int32) => w s.1 s.2) (fun t s => s.2 = nI t ∧ ((s.1 = true ∧ ∀ u, u < t → MD h k a b c u) ∨ (s.1 = false ∧ ∃ u, u < 28 ∧ ¬ MD h k a b c u))) 28 ?_ ?_ 1000 0 (true, 0) (by omega) (by omega) ⟨rfl, Or.inl ⟨rfl, fun u hu => by omega⟩⟩
  · intro t s w ht ⟨g1, g2⟩ hw
    obtain ⟨v3, v4⟩ := s
    simp only at g1 g2
    subst g1
    show ok (f_X11_isMade_l17 h (Int64.ofInt (mK k (SL h) a b c)) w v3 (nI t)) _
    unfold f_X11_isMade_l17
    rw [if_neg (show ¬ (28 : Int32) ≤ nI t from nI_ge (b := 28) ht (by omega))]
    rcases g2 with ⟨rfl, g2⟩ | ⟨rfl, g2⟩
    · rw [if_pos rfl]
      refine lp_gen (fun (w : Int64 → Int32 → Option Bool) (s : Int64 × Int32) => w s.1 s.2) (fun i s => s.2 = nI i ∧ s.1 = Int64.ofInt (sK i (fun i => mK k (pux i (SL h 3) (SL h)) a b c * SL h i t))) k ?_ ?_ 1000 0 (0, 0) (by omega) (by omega) ⟨rfl, rfl⟩
      · intro i s w2 hi ⟨k1, k2⟩ hw2
        obtain ⟨v5, v7⟩ := s
        simp only at k1 k2
        subst k1 k2
        show ok (f_X11_isMade_l34 (Int64.ofInt (mK k (SL h) a b c)) h w (nI t) w2 (Int64.ofInt (sK i (fun i => mK k (pux i (SL h 3) (SL h)) a b c * SL h i t))) (nI i)) _
        unfold f_X11_isMade_l34
        rw [e, if_neg (nI_ge hi (by omega)), upOf_ok hk hi e r, Option.bind_some, atM_ok (show i < 4 by omega) ht, Option.bind_some, nI_1]
        refine hw2 (_, _) ⟨rfl, ?_⟩
        show Int64.ofInt _ + Int64.ofInt _ * Int64.ofInt _ = _
        rw [← oM, ← oA]
        rfl
      · intro s w2 ⟨k1, k2⟩
        obtain ⟨v5, v7⟩ := s
        simp only at k1 k2
        subst k1 k2
        show ok (f_X11_isMade_l34 (Int64.ofInt (mK k (SL h) a b c)) h w (nI t) w2 (Int64.ofInt (sK k (fun i => mK k (pux i (SL h 3) (SL h)) a b c * SL h i t))) (nI k)) _
        unfold f_X11_isMade_l34 f_X11_isMade_j69 f_X11_isMade_j89
        rw [e, if_pos (le_nIn (Nat.le_refl _) (by omega)), show (3 : Int32) = nI 3 from rfl, atM_ok (show 3 < 4 by omega) ht, Option.bind_some, ← oM, nI_1]
        have b1 := sK_b (k := k) (g := fun i => mK k (pux i (SL h 3) (SL h)) a b c * SL h i t) (B := 5821794 * 99) hk (by decide) (fun i hi => mul_b2 (bU i hi) (hB i hi t ht))
        have b2 := mul_b2 bD (hB3 t ht)
        by_cases z : MD h k a b c t
        · rw [if_pos ((oEq (by omega) (by omega)).mpr z)]
          refine hw (_, _) ⟨rfl, Or.inl ⟨rfl, fun u hu => ?_⟩⟩
          by_cases y : u = t
          · subst y; exact z
          · exact g2 u (by omega)
        · rw [if_neg (fun y => z ((oEq (by omega) (by omega)).mp y))]
          exact hw (_, _) ⟨rfl, Or.inr ⟨rfl, t, ht, z⟩⟩
    · rw [if_neg (by decide)]
      exact ok_some (Or.inr ⟨rfl, g2⟩)
  · intro s w ⟨g1, g2⟩
    obtain ⟨v3, v4⟩ := s
    simp only at g1 g2
    subst g1
    show ok (f_X11_isMade_l17 h (Int64.ofInt (mK k (SL h) a b c)) w v3 (nI 28)) _
    unfold f_X11_isMade_l17
    rw [if_pos (show (28 : Int32) ≤ nI 28 from le_nIn (Nat.le_refl _) (by omega))]
    rcases g2 with ⟨rfl, g2⟩ | ⟨rfl, g2⟩
    · exact ok_some (Or.inl ⟨rfl, g2⟩)
    · exact ok_some (Or.inr ⟨rfl, g2⟩)
theorem dep_ext {R k : Nat} {U : Nat → Nat → Int} {w : Nat → Int} (hR : R ≤ 28) (hU : ∀ i, i < k → ∀ t, R ≤ t → U i t = 0) (hw : ∀ t, R ≤ t → w t = 0) : DEP R k U w ↔ DEP 28 k U w := by
  constructor
  · intro ⟨x, z, hz, e⟩
    refine ⟨x, z, hz, fun t ht => ?_⟩
    by_cases y : t < R
    · exact e t y
    · rw [sK_zero (fun i hi => by rw [hU i hi t (by omega), Int.zero_mul]), hw t (by omega), Int.zero_mul]
      rfl
  · intro ⟨x, z, hz, e⟩
    exact ⟨x, z, hz, fun t ht => e t (by omega)⟩
theorem GRE_ext {R c k : Nat} {A : Nat → Nat → Int} {pc : Nat → Nat} (hR : R ≤ 28) (hA : ∀ t c, R ≤ t → A t c = 0) (h : GRE R A c k pc) : GRE 28 A c k pc := by
  induction c generalizing k with
  | zero => exact h
  | succ c ih =>
    rcases h with ⟨d, g⟩ | ⟨j, ej, q, d, g⟩
    · exact Or.inl ⟨(dep_ext hR (fun i _ t ht => hA t _ ht) (fun t ht => hA t _ ht)).mp d, ih g⟩
    · exact Or.inr ⟨j, ej, q, fun y => d ((dep_ext hR (fun i _ t ht => hA t _ ht) (fun t ht => hA t _ ht)).mpr y), ih g⟩
theorem InvG_mk {n m : Nat} {hC hM hC' hM' : pq_H} (i : InvG n m hC hM) (c1 : ∀ P k, P ≠ 71 → P ≠ 73 → rI hC' P k = rI hC P k) (pm : Perm hC') (hm : frM hM hM') : InvG n m hC' hM' := by
  obtain ⟨i1, i2, i3, i4, i5, i6, i7⟩ := i
  exact ⟨i1.fr (fun p hp k => c1 p k (by omega) (by omega)) (c1 56 _ (by omega) (by omega)) (fun p h1 h2 => hm.1 p (by omega)) hm.2.1, i2.fr (fun p h1 h2 k => c1 p k (by omega) (by omega)) (hm.1 6 (by omega)) (hm.1 7 (by omega)) hm.2.2.1, i3.fr (fun k => c1 62 k (by omega) (by omega)) (c1 61 _ (by omega) (by omega)) (hm.1 9 (by omega)) hm.2.2.2.1, i4.fr (fun k => c1 82 k (by omega) (by omega)) (hm.1 1 (by omega)), i5.fr (fun p h1 h2 k => c1 p k (by omega) (by omega)) (fun k => c1 81 k (by omega) (by omega)) (hm.1 20 (by omega)) (hm.1 21 (by omega)), i6.fr (fun p hp k => c1 p k (by omega) (by omega)) (c1 56 _ (by omega) (by omega)) (hm.1 22 (by omega)) hm.2.2.2.2.1, pm⟩
theorem FL.frM {h h' : pq_H} (l : FL h h') : frM h h' := ⟨fun p hp k => l p k (by omega) (by omega) (by omega), l 0 5 (by omega) (by omega) (by omega), l 0 8 (by omega) (by omega) (by omega), l 0 11 (by omega) (by omega) (by omega), l 0 42 (by omega) (by omega) (by omega), l 0 18 (by omega) (by omega) (by omega)⟩
theorem part01 {p : Nat} (hp : p < 2) : f_X10_partOf 0 1 (nI p) = some (nI p).toInt64 := by
  have : p = 0 ∨ p = 1 := by omega
  rcases this with rfl | rfl <;> decide +kernel
end MADE
