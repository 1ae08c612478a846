section MINOR
/-- the reference's columns -/
def SL (h : pq_H) (i t : Nat) : Int := (rI h 17 (28 * i + t)).toInt
def tri3 (i0 i1 i2 : Nat) : Nat → Nat := fun i => if i = 0 then i0 else if i = 1 then i1 else i2
def SU (h : pq_H) (i0 i1 i2 : Nat) : Nat → Nat → Int := fun i t => SL h (tri3 i0 i1 i2 i) t
theorem atM_ok {h : pq_H} {i t : Nat} (hi : i < 4) (ht : t < 28) : f_X11_at (nI i) (nI t) h = some (Int64.ofInt (SL h i t)) := by
  unfold f_X11_at SL
  rw [show (28 : Int32) = nI 28 from rfl, pk_mul, nI_add, inbN (show 28 * i + t < 112 by omega) (by decide), gd_t, nI_clamp (by omega), o32]
theorem twoM_ok {h : pq_H} {i j a b : Nat} (hi : i < 4) (hj : j < 4) (ha : a < 28) (hb : b < 28) : f_X11_two (nI i) (nI j) (nI a) (nI b) h = some (Int64.ofInt (m2 (SL h i) (SL h j) a b)) := by
  unfold f_X11_two m2
  rw [atM_ok hi ha, atM_ok hj hb, atM_ok hi hb, atM_ok hj ha]
  simp only [Option.bind_some]
  rw [oS, oM, oM]
theorem minor_ok {h : pq_H} {o i0 i1 i2 a b c : Nat} (ho : o ≤ 3) (h0 : i0 < 4) (h1 : i1 < 4) (h2 : i2 < 4) (ha : rI h 0 32 = nI a) (hb : rI h 0 33 = nI b) (hc : rI h 0 34 = nI c) (a28 : a < 28) (b28 : b < 28) (c28 : c < 28) : f_X11_minor (nI o) (nI i0) (nI i1) (nI i2) h = some (Int64.ofInt (mK o (SU h i0 i1 i2) a b c)) := by
  unfold f_X11_minor
  rw [ha, hb, hc]
  have : o = 0 ∨ o = 1 ∨ o = 2 ∨ o = 3 := by omega
  rcases this with rfl | rfl | rfl | rfl
  · rw [if_pos (show nI 0 = 0 from rfl)]
    rfl
  · rw [if_neg (show ¬ nI 1 = 0 by decide), if_pos (show nI 1 = 1 from rfl), atM_ok h0 a28]
    rfl
  · rw [if_neg (show ¬ nI 2 = 0 by decide), if_neg (show ¬ nI 2 = 1 by decide), if_pos (show nI 2 = 2 from rfl), twoM_ok h0 h1 a28 b28]
    rfl
  · rw [if_neg (show ¬ nI 3 = 0 by decide), if_neg (show ¬ nI 3 = 1 by decide), if_neg (show ¬ nI 3 = 2 by decide), atM_ok h0 a28, twoM_ok h1 h2 b28 c28, atM_ok h1 a28, twoM_ok h0 h2 b28 c28, atM_ok h2 a28, twoM_ok h0 h1 b28 c28]
    simp only [Option.bind_some]
    rw [mK3]
    unfold m3
    rw [oA, oS, oM, oM, oM]
    rfl
theorem mK_congr {o a b c : Nat} {U V : Nat → Nat → Int} (ho : o ≤ 3) (h : ∀ i, i < o → U i = V i) : mK o U a b c = mK o V a b c := by
  have : o = 0 ∨ o = 1 ∨ o = 2 ∨ o = 3 := by omega
  rcases this with rfl | rfl | rfl | rfl
  · rfl
  · rw [mK1, mK1, h 0 (by omega)]
  · rw [mK2, mK2, h 0 (by omega), h 1 (by omega)]
  · rw [mK3, mK3, h 0 (by omega), h 1 (by omega), h 2 (by omega)]
theorem mul_b2 {x y X Y : Int} (hx : -X ≤ x ∧ x ≤ X) (hy : -Y ≤ y ∧ y ≤ Y) : -(X * Y) ≤ x * y ∧ x * y ≤ X * Y := by
  have a : x.natAbs * y.natAbs ≤ X.natAbs * Y.natAbs := Nat.mul_le_mul (by omega) (by omega)
  have b : (x * y).natAbs = x.natAbs * y.natAbs := Int.natAbs_mul x y
  have c : (X * Y).natAbs = X.natAbs * Y.natAbs := Int.natAbs_mul X Y
  have d : 0 ≤ X * Y := Int.mul_nonneg (by omega) (by omega)
  omega
theorem m2_b {u v : Nat → Int} {a b : Nat} (hu : ∀ t, t < 28 → -99 ≤ u t ∧ u t ≤ 99) (hv : ∀ t, t < 28 → -99 ≤ v t ∧ v t ≤ 99) (ha : a < 28) (hb : b < 28) : -19602 ≤ m2 u v a b ∧ m2 u v a b ≤ 19602 := by
  have x := mul_b2 (hu a ha) (hv b hb)
  have y := mul_b2 (hu b hb) (hv a ha)
  unfold m2
  omega
theorem mK_b {o a b c : Nat} {U : Nat → Nat → Int} (ho : o ≤ 3) (ha : a < 28) (hb : b < 28) (hc : c < 28) (h : ∀ i, i < o → ∀ t, t < 28 → -99 ≤ U i t ∧ U i t ≤ 99) : -5821794 ≤ mK o U a b c ∧ mK o U a b c ≤ 5821794 := by
  have : o = 0 ∨ o = 1 ∨ o = 2 ∨ o = 3 := by omega
  rcases this with rfl | rfl | rfl | rfl
  · rw [mK0]; omega
  · rw [mK1]
    have := h 0 (by omega) a ha
    omega
  · rw [mK2]
    have := m2_b (h 0 (by omega)) (h 1 (by omega)) ha hb
    omega
  · rw [mK3]
    have x := mul_b2 (h 0 (by omega) a ha) (m2_b (h 1 (by omega)) (h 2 (by omega)) hb hc)
    have y := mul_b2 (h 1 (by omega) a ha) (m2_b (h 0 (by omega)) (h 2 (by omega)) hb hc)
    have z := mul_b2 (h 2 (by omega) a ha) (m2_b (h 0 (by omega)) (h 1 (by omega)) hb hc)
    unfold m3
    omega
/-- the frame of the search of rows -/
def FS3 (h h' : pq_H) : Prop := (∀ P k, (P ≠ 0 ∨ (k ≠ 32 ∧ k ≠ 33 ∧ k ≠ 34)) → rI h' P k = rI h P k) ∧ ∀ P k, rJ h' P k = rJ h P k
theorem FS3.wI {h h' : pq_H} (f : FS3 h h') (k : Nat) (v : Int32) (hk : k = 32 ∨ k = 33 ∨ k = 34) : FS3 h (wI h' 0 k v) := ⟨fun P j hP => by rw [rI_ne (by omega)]; exact f.1 P j hP, f.2⟩
theorem FS3.rf (h : pq_H) : FS3 h h := ⟨fun _ _ _ => rfl, fun _ _ => rfl⟩
theorem FS3.su {h h' : pq_H} (f : FS3 h h') (i0 i1 i2 : Nat) : SU h' i0 i1 i2 = SU h i0 i1 i2 := by
  funext i t
  unfold SU SL
  rw [f.1 _ _ (by omega)]
def AT3 (h : pq_H) (o : Nat) (U : Nat → Nat → Int) : Prop := ∃ a b c, a < 28 ∧ b < (if o ≤ 1 then 1 else a) ∧ c < (if o ≤ 2 then 1 else b) ∧ rI h 0 32 = nI a ∧ rI h 0 33 = nI b ∧ rI h 0 34 = nI c ∧ mK o U a b c ≠ 0
theorem finds_ok {h : pq_H} {o i0 i1 i2 : Nat} (ho : o ≤ 3) (h0 : i0 < 4) (h1 : i1 < 4) (h2 : i2 < 4) (hB : ∀ i, i < o → ∀ t, t < 28 → -99 ≤ SU h i0 i1 i2 i t ∧ SU h i0 i1 i2 i t ≤ 99) : ok (f_X11_findsRows (nI o) (nI i0) (nI i1) (nI i2) h) (fun r => FS3 h r.2 ∧ ((r.1 = true ∧ AT3 r.2 o (SU h i0 i1 i2)) ∨ (r.1 = false ∧ ¬ FOUND o (SU h i0 i1 i2)))) := by
  unfold f_X11_findsRows
  have no : ∀ a b, ¬ ((if o ≤ 1 then 1 else a) < b ∧ b ≤ 0) := fun a b => by omega
  refine lp_gen (fun (w : pq_H → Option (Bool × pq_H)) (s : pq_H) => w s) (fun a s => FS3 h s ∧ rI s 0 32 = nI a ∧ ∀ a' b' c', a' < a → b' < (if o ≤ 1 then 1 else a') → c' < (if o ≤ 2 then 1 else b') → mK o (SU h i0 i1 i2) a' b' c' = 0) 28 ?_ ?_ 1000 0 _ (by omega) (by omega) ⟨(FS3.rf h).wI 32 0 (by omega), rI_same _ _ _ _, fun a' b' c' h1 => by omega⟩
  · intro a s w ha ⟨g1, g2, g3⟩ hw
    unfold f_X11_findsRows_l5
    rw [g2, if_neg (show ¬ (28 : Int32) ≤ nI a from nI_ge (b := 28) ha (by omega))]
    obtain ⟨mb, hmb⟩ : ∃ mb, mb = if o ≤ 1 then 1 else a := ⟨_, rfl⟩
    have mb28 : mb ≤ 28 := by rw [hmb]; split <;> omega
    refine lp_gen (fun (w : pq_H → Option (Bool × pq_H)) (s : pq_H) => w s) (fun b s => FS3 h s ∧ rI s 0 32 = nI a ∧ rI s 0 33 = nI b ∧ ∀ b' c', b' < b → c' < (if o ≤ 2 then 1 else b') → mK o (SU h i0 i1 i2) a b' c' = 0) mb ?_ ?_ 1000 0 _ (by omega) (by omega) ⟨g1.wI 33 0 (by omega), by rw [rI_ne (by omega)]; exact g2, rI_same _ _ _ _, fun b' c' h1 => by omega⟩
    · intro b s2 w2 hb ⟨k1, k2, k3, k4⟩ hw2
      obtain ⟨mc, hmc⟩ : ∃ mc, mc = if o ≤ 2 then 1 else b := ⟨_, rfl⟩
      have mc28 : mc ≤ 28 := by rw [hmc]; split <;> omega
      have e19 : f_X11_findsRows_l19 (nI o) (nI i0) (nI i1) (nI i2) w w2 s2 = lp (fun _ => none) (f_X11_findsRows_l44 (nI o) (nI i0) (nI i1) (nI i2) w w2) 1000 (wI s2 0 34 0) := by
        unfold f_X11_findsRows_l19 f_X11_findsRows_j36
        rw [k2, k3]
        by_cases q : o ≤ 1
        · rw [if_pos q] at hmb
          rw [if_pos (show nI o ≤ 1 from le_nIn (b := 1) q (by omega)), if_neg (show ¬ (1 : Int32) ≤ nI b from nI_ge (b := 1) (by omega) (by omega))]
        · rw [if_neg q] at hmb
          rw [if_neg (show ¬ nI o ≤ 1 from nI_ge (a := 1) (by omega) (by omega)), if_neg (nI_ge (by omega) (by omega))]
      show ok (f_X11_findsRows_l19 (nI o) (nI i0) (nI i1) (nI i2) w w2 s2) _
      rw [e19]
      refine lp_gen (fun (w : pq_H → Option (Bool × pq_H)) (s : pq_H) => w s) (fun c s => FS3 h s ∧ rI s 0 32 = nI a ∧ rI s 0 33 = nI b ∧ rI s 0 34 = nI c ∧ ∀ c', c' < c → mK o (SU h i0 i1 i2) a b c' = 0) mc ?_ ?_ 1000 0 _ (by omega) (by omega) ⟨k1.wI 34 0 (by omega), by rw [rI_ne (by omega)]; exact k2, by rw [rI_ne (by omega)]; exact k3, rI_same _ _ _ _, fun c' h1 => by omega⟩
      · intro c s3 w3 hc ⟨l1, l2, l3, l4, l5⟩ hw3
        have e44 : f_X11_findsRows_l44 (nI o) (nI i0) (nI i1) (nI i2) w w2 w3 s3 = ((f_X11_minor (nI o) (nI i0) (nI i1) (nI i2) s3).bind fun r70 => if r70 = 0 then (w3 (wI s3 0 34 ((rI s3 0 34) + 1))) else (some (true, s3))) := by
          unfold f_X11_findsRows_l44 f_X11_findsRows_j61
          rw [l3, l4]
          by_cases q : o ≤ 2
          · rw [if_pos q] at hmc
            rw [if_pos (show nI o ≤ 2 from le_nIn (b := 2) q (by omega)), if_neg (show ¬ (1 : Int32) ≤ nI c from nI_ge (b := 1) (by omega) (by omega))]
          · rw [if_neg q] at hmc
            rw [if_neg (show ¬ nI o ≤ 2 from nI_ge (a := 2) (by omega) (by omega)), if_neg (nI_ge (by omega) (by omega))]
        show ok (f_X11_findsRows_l44 (nI o) (nI i0) (nI i1) (nI i2) w w2 w3 s3) _
        have b28 : b < 28 := by omega
        have c28 : c < 28 := by omega
        rw [e44, minor_ok ho h0 h1 h2 l2 l3 l4 ha b28 c28, Option.bind_some, l1.su, l4, nI_1]
        have bb := mK_b (c := c) ho ha b28 c28 hB
        by_cases z : mK o (SU h i0 i1 i2) a b c = 0
        · rw [if_pos ((o0 (by omega)).mpr z)]
          refine hw3 _ ⟨l1.wI 34 _ (by omega), by rw [rI_ne (by omega)]; exact l2, by rw [rI_ne (by omega)]; exact l3, rI_same _ _ _ _, fun c' hc' => ?_⟩
          by_cases y : c' = c
          · subst y; exact z
          · exact l5 c' (by omega)
        · rw [if_neg (fun y => z ((o0 (by omega)).mp y))]
          exact ok_some ⟨l1, Or.inl ⟨rfl, a, b, c, ha, by rw [← hmb]; exact hb, by rw [← hmc]; exact hc, l2, l3, l4, z⟩⟩
      · intro s3 w3 ⟨l1, l2, l3, l4, l5⟩
        have e44 : f_X11_findsRows_l44 (nI o) (nI i0) (nI i1) (nI i2) w w2 w3 s3 = w2 (wI s3 0 33 ((rI s3 0 33) + 1)) := by
          unfold f_X11_findsRows_l44 f_X11_findsRows_j61 f_X11_findsRows_j93
          rw [l3, l4]
          by_cases q : o ≤ 2
          · rw [if_pos q] at hmc
            rw [if_pos (show nI o ≤ 2 from le_nIn (b := 2) q (by omega)), if_pos (show (1 : Int32) ≤ nI mc from le_nIn (a := 1) (by omega) (by omega))]
          · rw [if_neg q] at hmc
            rw [if_neg (show ¬ nI o ≤ 2 from nI_ge (a := 2) (by omega) (by omega)), if_pos (le_nIn (by omega) (by omega))]
        show ok (f_X11_findsRows_l44 (nI o) (nI i0) (nI i1) (nI i2) w w2 w3 s3) _
        rw [e44, l3, nI_1]
        refine hw2 _ ⟨l1.wI 33 _ (by omega), by rw [rI_ne (by omega)]; exact l2, rI_same _ _ _ _, fun b' c' hb' hc' => ?_⟩
        by_cases y : b' = b
        · subst y
          exact l5 c' (by rw [hmc]; exact hc')
        · exact k4 b' c' (by omega) hc'
    · intro s2 w2 ⟨k1, k2, k3, k4⟩
      have e19 : f_X11_findsRows_l19 (nI o) (nI i0) (nI i1) (nI i2) w w2 s2 = w (wI s2 0 32 ((rI s2 0 32) + 1)) := by
        unfold f_X11_findsRows_l19 f_X11_findsRows_j36 f_X11_findsRows_j106
        rw [k2, k3]
        by_cases q : o ≤ 1
        · rw [if_pos q] at hmb
          rw [if_pos (show nI o ≤ 1 from le_nIn (b := 1) q (by omega)), if_pos (show (1 : Int32) ≤ nI mb from le_nIn (a := 1) (by omega) (by omega))]
        · rw [if_neg q] at hmb
          rw [if_neg (show ¬ nI o ≤ 1 from nI_ge (a := 1) (by omega) (by omega)), if_pos (le_nIn (by omega) (by omega))]
      show ok (f_X11_findsRows_l19 (nI o) (nI i0) (nI i1) (nI i2) w w2 s2) _
      rw [e19, k2, nI_1]
      refine hw _ ⟨k1.wI 32 _ (by omega), rI_same _ _ _ _, fun a' b' c' ha' hb' hc' => ?_⟩
      by_cases y : a' = a
      · subst y
        exact k4 b' c' (by rw [hmb]; exact hb') hc'
      · exact g3 a' b' c' (by omega) hb' hc'
  · intro s w ⟨g1, g2, g3⟩
    unfold f_X11_findsRows_l5
    rw [g2, if_pos (show (28 : Int32) ≤ nI 28 from le_nIn (Nat.le_refl _) (by omega))]
    exact ok_some ⟨g1, Or.inr ⟨rfl, fun ⟨a, b, c, h1, h2, h3, h4⟩ => h4 (g3 a b c h1 h2 h3)⟩⟩
end MINOR
