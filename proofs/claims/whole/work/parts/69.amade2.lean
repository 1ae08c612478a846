section AMADE2
variable {hC hM : pq_H}
theorem j64_ne {p1 p2 p3 p4 s0 : Int32} {h : pq_H} (hs : ¬ s0 = 0) : f_X11_made_j64 p1 p2 p3 p4 s0 h = f_X11_lower s0 h := by
  unfold f_X11_made_j64
  rw [if_neg hs, bd2_id]
theorem PIV_inj {R k : Nat} {pc : Nat → Nat} {E : Nat → Nat → Int} (h : PIV R k pc E) {i j : Nat} (hi : i < k) (hj : j < k) (e : pc i = pc j) : i = j := by
  by_cases z : i = j
  · exact z
  · have a := (h i hi).2.2 j (h j hj).1 (fun y => z y.symm)
    rw [e] at a
    exact absurd a (h j hj).2.1
theorem made_frac {R k N a b c j : Nat} {A E U : Nat → Nat → Int} {w : Nat → Int} {pc : Nat → Nat} (hP : PIV R k pc E) (hR : R ≤ 28) (hN : N < 4) (hp : ∀ i, i < k → pc i < N) (hQ : REQ R A E) (hU : ∀ i, i < k → ∀ t, t < 28 → U i t = A t (pc i)) (hw : ∀ t, t < 28 → w t = A t N) (y : ∀ t, t < 28 → sK k (fun i => mK k (pux i w U) a b c * U i t) = mK k U a b c * w t) (hj : j < k) : E j N * mK k U a b c = mK k (pux j w U) a b c * E j (pc j) := by
  have key := piv_row (c := N) (x := fun i => mK k (pux i w U) a b c) (z := -mK k U a b c) hP (fun i hi => by have := hp i hi; omega) hN hQ (fun t ht => by
    have e := y t (by omega)
    rw [sK_congr (h := fun i => mK k (pux i w U) a b c * U i t) (fun i hi => by rw [hU i hi t (by omega), Int.mul_comm]), e, hw t (by omega), Int.mul_neg, Int.mul_comm]
    omega) hj
  rw [Int.mul_neg] at key
  rw [Int.mul_comm (mK k (pux j w U) a b c)]
  omega
theorem made_main {n f g q p : Nat} {FF : Nat → pF} (i : InvG n n hC hM) (hFF : ∀ f, f < n → FormC hC f (FF f) ∧ FormM hM f (FF f) ∧ okF (FF f)) (hf : f < n) (hg : g < n) (hp : p < 2) (hq : q < 64) (hqn : q < 2 ^ n) (hc : CAN FF n f q = true) : ag Inv (bd2 (f_X5_makes (nI f) (nI q) hC) fun r77 h77 => if r77 = true then ((f_X5_fraction (nI q) (nI g) (nI p) h77).bind fun r98 => some (r98, h77)) else (f_X10_made_j83 h77)) (f_X11_made_j64 (nI f) (nI q) (nI g) (nI p) 0 hM) := by
  obtain ⟨i1, i2, i3, i4, i5, i6, i7⟩ := id i
  have h6 := i1.1
  obtain ⟨c1, c2, c3, c4⟩ := can_t hc hf
  obtain ⟨b1, b2, b3⟩ := hFF f hf
  have hd := b3.2.2.1
  have hR := tri28 hd
  have ab := AM_b hc hf hq hqn rfl
  obtain ⟨⟨b, hC'⟩, ec, k, pc, σ, E, h0, mk, fr0, N0, res⟩ := makes_ok i1 i7 hFF hf hq hqn hc
  obtain ⟨h1, em, k', pc', tk⟩ := fills_ok i1 hFF hf hq hqn hc
  obtain ⟨h2, e2, l1, l2⟩ := lays_ok (j := 3) (by omega) (show f < 6 by omega) (tk.1.form b2) b3
  simp only at mk res
  have aN : ∀ t, AM FF f q (tri ((FF f).2.2.1 + 1)) (rk q 6) t (rk q 6) = if t < tri ((FF f).2.2.1 + 1) then (cfT (FF f) t).toInt else 0 := fun t => by
    unfold AM
    rw [if_neg (Nat.lt_irrefl _), if_pos rfl]
  have a0 : ∀ t c, tri ((FF f).2.2.1 + 1) ≤ t → AM FF f q (tri ((FF f).2.2.1 + 1)) (rk q 6) t c = 0 := fun t c h => by
    unfold AM
    rw [if_neg (by omega)]
  generalize hR' : tri ((FF f).2.2.1 + 1) = R at *
  generalize hA : AM FF f q R (rk q 6) = A at *
  obtain ⟨m1, m2, m3, m4, m5, m6, m7, m8⟩ := id mk
  obtain ⟨t1, t2, t3, t4, t5, t6⟩ := tk
  obtain ⟨ek, ep⟩ := GRE_det (GRE_ext hR a0 m7) t3
  subst ek
  obtain ⟨q1, q2⟩ := GRE_lt m7
  have hk3 : k ≤ 3 := by omega
  have w3 : ∀ t, t < 28 → SL h2 3 t = A t (rk q 6) := fun t ht => by rw [l2 t ht, aN t]
  have w0 : ∀ i, i < k → ∀ t, t < 28 → SL h2 i t = A t (pc i) := fun i hi t ht => by
    rw [ep i hi, ← t6 i hi t ht]
    unfold SL
    rw [l1 _ _ (by omega)]
  have e31 : rI h2 0 31 = nI k := (l1 _ _ (by omega)).trans t2
  have u0 : ∀ i, i < k → ∀ t, SU h2 0 1 2 i t = SL h2 i t := fun i hi t => by rw [SU_id (by omega)]
  obtain ⟨⟨r, h3⟩, e3, f3, x3⟩ := finds_ok (h := h2) (o := k) (i0 := 0) (i1 := 1) (i2 := 2) hk3 (by omega) (by omega) (by omega) (fun i hi t ht => by rw [u0 i hi, w0 i hi t ht]; exact ab _ _)
  simp only at f3 x3
  have at3 : AT3 h3 k (SU h2 0 1 2) := by
    rcases x3 with ⟨-, x⟩ | ⟨-, x⟩
    · exact x
    · exact absurd (FOUND_pt hk3 (fun i hi t ht => by show A t (pc' i) = _; rw [u0 i hi, w0 i hi t ht, ep i hi]) t4) x
  obtain ⟨a, b', c, a28, b28, c28, r2, r3, r4, dn⟩ := at3
  have b28 : b' < 28 := by split at b28 <;> omega
  have c28 : c < 28 := by split at c28 <;> omega
  have rw3 : RW h3 a b' c := ⟨a28, b28, c28, r2, r3, r4⟩
  have sl : ∀ i t, SL h3 i t = SL h2 i t := fun i t => by
    unfold SL
    rw [f3.1 _ _ (by omega)]
  have v0 : ∀ i, i < k → ∀ t, t < 28 → SL h3 i t = A t (pc i) := fun i hi t ht => (sl i t).trans (w0 i hi t ht)
  have v3 : ∀ t, t < 28 → SL h3 3 t = A t (rk q 6) := fun t ht => (sl 3 t).trans (w3 t ht)
  have hD : mK k (SL h3) a b' c ≠ 0 := by
    rw [mK_pt hk3 a28 b28 c28 (V := SU h2 0 1 2) (fun i hi t ht => by rw [sl, ← u0 i hi])]
    exact dn
  have f31 : rI h3 0 31 = nI k := (f3.1 0 31 (by omega)).trans e31
  have bv : ∀ i, i < k → ∀ t, t < 28 → -99 ≤ SL h3 i t ∧ SL h3 i t ≤ 99 := fun i hi t ht => by rw [v0 i hi t ht]; exact ab _ _
  have bv3 : ∀ t, t < 28 → -99 ≤ SL h3 3 t ∧ SL h3 3 t ≤ 99 := fun t ht => by rw [v3 t ht]; exact ab _ _
  obtain ⟨x, ex, xx⟩ := isMade_ok hk3 f31 rw3 bv bv3
  have dep3 : DEP R k (colsOf A pc) (fun t => A t (rk q 6)) ↔ ∀ t, t < 28 → MD h3 k a b' c t := by
    refine (dep_ext (U := colsOf A pc) (w := fun t => A t (rk q 6)) hR (fun i _ t ht => a0 t _ ht) (fun t ht => a0 t _ ht)).trans ?_
    refine Iff.trans ⟨DEP_pt (fun i hi t ht => (v0 i hi t ht).symm) (fun t ht => (v3 t ht).symm), DEP_pt (fun i hi t ht => v0 i hi t ht) (fun t ht => v3 t ht)⟩ (made_dep (w := SL h3 3) hk3 a28 b28 c28 hD).symm
  have inv' : Inv hC' h3 := ⟨n, InvG_mk i (fun P j p1 p2 => (m2 P j p2).trans (fr0 P j p1)) ⟨σ, m1⟩ (FL.frM (t1.tr (fun P j x y z => (f3.1 P j (by omega)).trans (l1 P j (by omega)))))⟩
  have e2' : f_X11_laysColumn 3 (nI f) h1 = some h2 := e2
  have e3' : f_X11_findsRows (rI h2 0 31) 0 1 2 h2 = some (r, h3) := by rw [e31]; exact e3
  rw [ec, bd2_some]
  unfold f_X11_made_j64 f_X10_made_j83
  rw [if_pos rfl, em, Option.bind_some, e2', Option.bind_some, e3', bd2_some, ex, Option.bind_some]
  rcases res with ⟨rfl, d⟩ | ⟨rfl, d⟩
  case inr =>
    rcases xx with ⟨rfl, y⟩ | ⟨rfl, t, y1, y2⟩
    · exact absurd (dep3.mpr y) d
    · rw [if_neg (by decide), if_neg (by decide), bd2_id, bd2_id]
      exact ag_low 3 rfl (by decide) (by decide) inv'
  rcases xx with ⟨rfl, y⟩ | ⟨rfl, t, y1, y2⟩
  case inr => exact absurd (dep3.mp d t y1) y2
  rw [if_pos rfl, if_pos rfl]
  have sg : ∀ i, i < k → sel q (pc i) < 6 ∧ (sel q (pc i) = g ↔ (q.testBit g = true ∧ pc i = rk q g)) := fun i hi => by
    have := q2 i hi
    obtain ⟨s1, s2, s3⟩ := rk_sel q hq (pc i) (by omega) this
    refine ⟨s2, fun e => ?_, fun ⟨e1, e2⟩ => ?_⟩
    · rw [e] at s1 s3
      exact ⟨s1, s3.symm⟩
    · rw [e2]
      exact (sel_rk q hq g (by omega) e1).1
  have fr18 : ∀ i, i < k → rI h3 18 i = nI (sel q (pc i)) ∧ sel q (pc i) < 6 := fun i hi => ⟨(f3.1 18 i (by omega)).trans ((l1 18 i (by omega)).trans (by rw [ep i hi]; exact t5 i hi)), (sg i hi).1⟩
  have hg6 : g < 6 := by omega
  rcases fraction_ok mk hR N0 c1 hq hg6 (nI p) with ⟨i', x1, x2, x3, x4⟩ | ⟨x1, x2⟩
  · rcases shareM_ok (p := nI p) hk3 f31 fr18 hg6 with ⟨j, j1, j2, j3⟩ | ⟨j1, j2⟩
    case inr => exact absurd ((sg i' x1).2.mpr ⟨x2, x3⟩) (j1 i' x1)
    have ei : j = i' := PIV_inj m6 j1 x1 (by rw [x3, ((sg j j1).2.mp j2).2])
    subst ei
    rw [x4, j3]
    unfold f_X11_made_j138
    rw [upOf_ok hk3 j1 f31 rw3, Option.bind_some, minor0_ok hk3 f31 rw3, Option.bind_some]
    have jR := (m6 j j1).1
    have bb := bnd_big k
    have bE : ∀ c, -1200000000000000000 ≤ E j c ∧ E j c ≤ 1200000000000000000 := fun c => by
      have := m4 j c jR
      omega
    have bU : -5821794 ≤ mK k (pux j (SL h3 3) (SL h3)) a b' c ∧ mK k (pux j (SL h3 3) (SL h3)) a b' c ≤ 5821794 := mK_b hk3 a28 b28 c28 (fun i hi t ht => by
      unfold pux
      by_cases z : i = j
      · rw [if_pos z]; exact bv3 t ht
      · rw [if_neg z]; exact bv i hi t ht)
    have bD : -5821794 ≤ mK k (SL h3) a b' c ∧ mK k (SL h3) a b' c ≤ 5821794 := mK_b hk3 a28 b28 c28 bv
    obtain ⟨y1, y2⟩ := bd62_o (bE (rk q 6))
    obtain ⟨y3, y4⟩ := bd62_o (bE (pc j))
    obtain ⟨y5, y6⟩ := bd62_o (x := mK k (pux j (SL h3 3) (SL h3)) a b' c) (by omega)
    obtain ⟨y7, y8⟩ := bd62_o (x := mK k (SL h3) a b' c) (by omega)
    have pe := (m6 j j1).2.1
    obtain ⟨r1, z1, z2⟩ := partC_ok y1 y3 (by rw [y4]; exact pe) hp
    obtain ⟨r2, z3, z4⟩ := partM_ok y5 y7 (by rw [y8]; exact hD) hp
    have fr := made_frac m6 hR (by omega) q2 m5 v0 v3 y j1
    have er : r1 = r2 := Int64.toInt_inj.mp (by rw [z2, z4, y2, y4, y6, y8]; exact resI_eq pe hD fr p)
    subst er
    rw [z1, z3]
    exact ag_c _ _ _ rfl rfl inv'
  · rcases shareM_ok (p := nI p) hk3 f31 fr18 hg6 with ⟨j, j1, j2, j3⟩ | ⟨j1, j2⟩
    · exact absurd ((sg j j1).2.mp j2) (x1 j j1)
    · rw [x2, j2, part01 hp]
      exact ag_c _ _ _ rfl rfl inv'
end AMADE2
