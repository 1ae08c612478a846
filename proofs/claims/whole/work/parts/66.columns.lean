section COLUMNS
variable {hC hM : pq_H}
theorem lays_ok {h : pq_H} {j f : Nat} {F : pF} (hj : j < 4) (hf : f < 6) (hF : FormM h f F) (hk : okF F) : ok (f_X11_laysColumn (nI j) (nI f) h) (fun h' => (∀ P k, (P ≠ 17 ∨ k < 28 * j ∨ 28 * j + 28 ≤ k) → rI h' P k = rI h P k) ∧ ∀ t, t < 28 → SL h' j t = if t < tri (F.2.2.1 + 1) then (cfT F t).toInt else 0) := by
  unfold f_X11_laysColumn
  refine lp_forH (fun i h' => (∀ P k, (P ≠ 17 ∨ k < 28 * j ∨ 28 * j + 28 ≤ k) → rI h' P k = rI h P k) ∧ ∀ t, t < i → SL h' j t = if t < tri (F.2.2.1 + 1) then (cfT F t).toInt else 0) 28 ?_ ?_ 1000 0 h (by omega) (by omega) ⟨fun _ _ _ => rfl, fun t ht => by omega⟩
  · intro i h' w hi ⟨g1, g2⟩ hw
    have hF' : FormM h' f F := hF.fr (g1 3 f (by omega)) (g1 4 f (by omega)) (g1 5 f (by omega)) (fun t _ => g1 2 _ (by omega))
    unfold f_X11_laysColumn_l2 f_X11_laysColumn_j37
    rw [show (28 : Int32) = nI 28 from rfl, if_neg (nI_ge hi (by omega)), isTerm_ok hF' hk hf i (by omega), Option.bind_some, pk_mul, nI_add, inbN (show 28 * j + i < 112 by omega) (by decide), gd_t, nI_clamp (by omega), nI_1]
    have fin : ∀ v : Int32, v.toInt = (if i < tri (F.2.2.1 + 1) then (cfT F i).toInt else 0) → (∀ P k, (P ≠ 17 ∨ k < 28 * j ∨ 28 * j + 28 ≤ k) → rI (wI h' 17 (28 * j + i) v) P k = rI h P k) ∧ ∀ t, t < i + 1 → SL (wI h' 17 (28 * j + i) v) j t = if t < tri (F.2.2.1 + 1) then (cfT F t).toInt else 0 := by
      intro v hv
      refine ⟨fun P k hP => ?_, fun t ht => ?_⟩
      · rw [rI_ne (by omega)]; exact g1 P k hP
      · by_cases z : t = i
        · subst z
          unfold SL
          rw [rI_same, hv]
        · unfold SL
          rw [rI_ne (by omega)]
          exact g2 t (by omega)
    by_cases z : i < tri (F.2.2.1 + 1)
    · rw [decide_eq_true z, if_pos rfl, coefT hF' hk hf z, Option.bind_some]
      exact hw _ (fin _ (if_pos z).symm)
    · rw [decide_eq_false z, if_neg (by decide)]
      exact hw _ (fin _ (if_neg z).symm)
  · intro h' w g
    unfold f_X11_laysColumn_l2
    rw [if_pos (show (28 : Int32) ≤ nI 28 from le_nIn (Nat.le_refl _) (by omega))]
    exact ok_some g
theorem FOUND_congr {o : Nat} {U V : Nat → Nat → Int} (ho : o ≤ 3) (h : ∀ i, i < o → U i = V i) : FOUND o U → FOUND o V := by
  intro ⟨a, b, c, h1, h2, h3, h4⟩
  exact ⟨a, b, c, h1, h2, h3, by rw [← mK_congr ho h]; exact h4⟩
def s3 (k : Nat) (i : Nat) : Nat := if k = i then 3 else i
theorem SU_pux {h : pq_H} {k i : Nat} (hk : k ≤ 2) (hi : i ≤ 2) : SU h (s3 k 0) (s3 k 1) (s3 k 2) i = pux k (SL h 3) (SL h) i := by
  funext t
  unfold SU pux tri3 s3
  have a : k = 0 ∨ k = 1 ∨ k = 2 := by omega
  have b : i = 0 ∨ i = 1 ∨ i = 2 := by omega
  rcases a with rfl | rfl | rfl <;> rcases b with rfl | rfl | rfl <;> rfl
theorem SU_id {h : pq_H} {i : Nat} (hi : i ≤ 2) : SU h 0 1 2 i = SL h i := by
  funext t
  unfold SU tri3
  have b : i = 0 ∨ i = 1 ∨ i = 2 := by omega
  rcases b with rfl | rfl | rfl <;> rfl
theorem new_ok {h : pq_H} {k : Nat} (hk : k ≤ 2) (e : rI h 0 31 = nI k) (hB : ∀ i, i < k → ∀ t, t < 28 → -99 ≤ SL h i t ∧ SL h i t ≤ 99) (hB3 : ∀ t, t < 28 → -99 ≤ SL h 3 t ∧ SL h 3 t ≤ 99) : ok (f_X11_isNew h) (fun r => FS3 h r.2 ∧ ((r.1 = true ∧ FOUND (k + 1) (pux k (SL h 3) (SL h))) ∨ (r.1 = false ∧ ¬ FOUND (k + 1) (pux k (SL h 3) (SL h))))) := by
  have sb : ∀ i, s3 k i < 4 ∨ 4 ≤ i := fun i => by unfold s3; split <;> omega
  have e1 : f_X11_isNew h = f_X11_findsRows (nI (k + 1)) (nI (s3 k 0)) (nI (s3 k 1)) (nI (s3 k 2)) h := by
    unfold f_X11_isNew f_X11_isNew_j19 f_X11_isNew_j32 f_X11_isNew_j45
    rw [e, nI_1]
    simp only [bd2_id]
    have a : k = 0 ∨ k = 1 ∨ k = 2 := by omega
    rcases a with rfl | rfl | rfl
    · rw [if_pos (show nI 0 = 0 from rfl), if_neg (show ¬ nI 0 = 1 by decide), if_neg (show ¬ nI 0 = 2 by decide), show s3 0 0 = 3 from rfl, show s3 0 1 = 1 from rfl, show s3 0 2 = 2 from rfl]
      rfl
    · rw [if_neg (show ¬ nI 1 = 0 by decide), if_pos (show nI 1 = 1 from rfl), if_neg (show ¬ nI 1 = 2 by decide), show s3 1 0 = 0 from rfl, show s3 1 1 = 3 from rfl, show s3 1 2 = 2 from rfl]
      rfl
    · rw [if_neg (show ¬ nI 2 = 0 by decide), if_neg (show ¬ nI 2 = 1 by decide), if_pos (show nI 2 = 2 from rfl), show s3 2 0 = 0 from rfl, show s3 2 1 = 1 from rfl, show s3 2 2 = 3 from rfl]
      rfl
  have cg : ∀ i, i < k + 1 → SU h (s3 k 0) (s3 k 1) (s3 k 2) i = pux k (SL h 3) (SL h) i := fun i hi => SU_pux hk (by omega)
  rw [e1]
  refine ok_mono (finds_ok (by omega) (by have := sb 0; omega) (by have := sb 1; omega) (by have := sb 2; omega) (fun i hi t ht => ?_)) (fun r ⟨f, x⟩ => ⟨f, ?_⟩)
  · rw [cg i hi]
    unfold pux
    by_cases z : i = k
    · rw [if_pos z]; exact hB3 t ht
    · rw [if_neg z]; exact hB i (by omega) t ht
  · rcases x with ⟨x1, a, b, c, y1, y2, y3, y4, y5, y6, y7⟩ | ⟨x1, x2⟩
    · exact Or.inl ⟨x1, a, b, c, y1, y2, y3, by rw [← mK_congr (by omega) cg]; exact y7⟩
    · exact Or.inr ⟨x1, fun y => x2 (FOUND_congr (by omega) (fun i hi => (cg i hi).symm) y)⟩
/-- the frame of what is laid -/
def FL (h h' : pq_H) : Prop := ∀ P k, P ≠ 17 → P ≠ 18 → (P ≠ 0 ∨ (k ≠ 31 ∧ k ≠ 32 ∧ k ≠ 33 ∧ k ≠ 34)) → rI h' P k = rI h P k
theorem FL.tr {a b c : pq_H} (h1 : FL a b) (h2 : FL b c) : FL a c := fun P k x y z => (h2 P k x y z).trans (h1 P k x y z)
theorem FL.form {h h' : pq_H} (l : FL h h') {f : Nat} {F : pF} (hF : FormM h f F) : FormM h' f F := hF.fr (l 3 f (by omega) (by omega) (by omega)) (l 4 f (by omega) (by omega) (by omega)) (l 5 f (by omega) (by omega) (by omega)) (fun t _ => l 2 _ (by omega) (by omega) (by omega))
/-- the columns taken so far -/
def TK (q k c : Nat) (A : Nat → Nat → Int) (pc : Nat → Nat) (h0 h : pq_H) : Prop := FL h0 h ∧ rI h 0 31 = nI k ∧ GRE 28 A c k pc ∧ FOUND k (colsOf A pc) ∧ (∀ i, i < k → rI h 18 i = nI (sel q (pc i))) ∧ ∀ i, i < k → ∀ t, t < 28 → SL h i t = A t (pc i)
theorem fills_ok {n f q : Nat} {FF : Nat → pF} (i : InvF n hC hM) (hFF : ∀ f, f < n → FormC hC f (FF f) ∧ FormM hM f (FF f) ∧ okF (FF f)) (hf : f < n) (hq : q < 64) (hqn : q < 2 ^ n) (hc : CAN FF n f q = true) : ok (f_X11_fillsColumns (nI q) hM) (fun h' => ∃ k pc, TK q k (rk q 6) (AM FF f q (tri ((FF f).2.2.1 + 1)) (rk q 6)) pc hM h') := by
  obtain ⟨h6, e1, e2, -⟩ := i
  obtain ⟨c1, c2, c3, c4⟩ := can_t hc hf
  have rn := rk_n q hq n (by omega) hqn
  have ab := AM_b hc hf hq hqn rfl
  have hd := (hFF f hf).2.2.2.2.1
  have hb := tri28 hd
  obtain ⟨R, hR⟩ : ∃ R, R = tri ((FF f).2.2.1 + 1) := ⟨_, rfl⟩
  rw [← hR] at ab hb ⊢
  have hAM : ∀ t c, c < rk q 6 → AM FF f q R (rk q 6) t c = if t < R then (cfT (FF (sel q c)) t).toInt else 0 := fun t c h => by
    unfold AM
    rw [if_pos h]
  generalize hA : AM FF f q R (rk q 6) = A at *
  unfold f_X11_fillsColumns
  rw [hl_d]
  refine lp_forH (fun v h => ∃ k pc, TK q k (rk q v) A pc hM h) n ?_ ?_ 1000 0 _ (by omega) (by omega) ⟨0, fun _ => 0, fun P k x y z => rI_ne (by omega), rI_same _ _ _ _, rfl, ⟨0, 0, 0, by decide, Nat.one_pos, Nat.one_pos, by rw [mK0]; decide⟩, fun i hi => by omega, fun i hi => by omega⟩
  · intro v h w hv ⟨k, pc, t1, t2, t3, t4, t5, t6⟩ hw
    unfold f_X11_fillsColumns_l7 f_X11_fillsColumns_j71
    rw [t1 0 5 (by omega) (by omega) (by omega), e2, if_neg (nI_ge hv (by omega)), nI_1]
    by_cases u : q.testBit v = false
    · have rv : rk q (v + 1) = rk q v := by show rk q v + (if q.testBit v = true then 1 else 0) = _; rw [u]; rfl
      rw [if_pos ((bitq_nI q hq v (by omega)).mpr u)]
      refine hw h ⟨k, pc, t1, t2, by rw [rv]; exact t3, t4, t5, t6⟩
    have ut : q.testBit v = true := by cases h : q.testBit v; exact absurd h u; rfl
    have rv : rk q (v + 1) = rk q v + 1 := by show rk q v + (if q.testBit v = true then 1 else 0) = _; rw [if_pos ut]
    obtain ⟨s1, s2⟩ := sel_rk q hq v (by omega) ut
    obtain ⟨d1, d2⟩ := c4 v hv ut
    obtain ⟨b1, b2, b3⟩ := hFF v hv
    obtain ⟨g1, g2⟩ := GRE_lt t3
    have k2 : k ≤ 2 := by omega
    rw [if_neg (fun w => u ((bitq_nI q hq v (by omega)).mp w)), show (3 : Int32) = nI 3 from rfl]
    refine ok_bind (lays_ok (j := 3) (by omega) (by omega) (t1.form b2) b3) (fun h2 ⟨l1, l2⟩ => ?_)
    rw [d1, ← hR] at l2
    have w3 : ∀ t, t < 28 → SL h2 3 t = A t (rk q v) := fun t ht => by
      rw [l2 t ht, hAM t _ s2, s1]
    have w0 : ∀ i, i < k → ∀ t, t < 28 → SL h2 i t = A t (pc i) := fun i hi t ht => by
      rw [← t6 i hi t ht]
      unfold SL
      rw [l1 _ _ (by omega)]
    have m31 : rI h2 0 31 = nI k := (l1 _ _ (by omega)).trans t2
    refine ok_bd2 (new_ok k2 m31 (fun i hi t ht => by rw [w0 i hi t ht]; exact ab _ _) (fun t ht => by rw [w3 t ht]; exact ab _ _)) (fun r h3 ⟨f3, x⟩ => ?_)
    simp only at f3 x
    -- the pattern in terms of A
    have cg : ∀ i, i < k + 1 → ∀ t, t < 28 → pux k (SL h2 3) (SL h2) i t = pux k (fun t => A t (rk q v)) (colsOf A pc) i t := fun i hi t ht => by
      unfold pux
      by_cases z : i = k
      · rw [if_pos z, if_pos z]; exact w3 t ht
      · rw [if_neg z, if_neg z]; exact w0 i (by omega) t ht
    have found : FOUND (k + 1) (pux k (SL h2 3) (SL h2)) ↔ FOUND (k + 1) (pux k (fun t => A t (rk q v)) (colsOf A pc)) := by
      have mk : ∀ a b c, a < 28 → b < 28 → c < 28 → mK (k + 1) (pux k (SL h2 3) (SL h2)) a b c = mK (k + 1) (pux k (fun t => A t (rk q v)) (colsOf A pc)) a b c := by
        intro a b c ha hb hc
        have kk : k = 0 ∨ k = 1 ∨ k = 2 := by omega
        rcases kk with rfl | rfl | rfl
        · rw [mK1, mK1, cg 0 (by omega) a ha]
        · rw [mK2, mK2]
          unfold m2
          rw [cg 0 (by omega) a ha, cg 0 (by omega) b hb, cg 1 (by omega) a ha, cg 1 (by omega) b hb]
        · rw [mK3, mK3]
          unfold m3 m2
          rw [cg 0 (by omega) a ha, cg 0 (by omega) b hb, cg 0 (by omega) c hc, cg 1 (by omega) a ha, cg 1 (by omega) b hb, cg 1 (by omega) c hc, cg 2 (by omega) a ha, cg 2 (by omega) b hb, cg 2 (by omega) c hc]
      constructor
      · intro ⟨a, b, c, y1, y2, y3, y4⟩
        have b28 : b < 28 := by split at y2 <;> omega
        have c28 : c < 28 := by split at y3 <;> omega
        exact ⟨a, b, c, y1, y2, y3, by rw [← mk a b c y1 b28 c28]; exact y4⟩
      · intro ⟨a, b, c, y1, y2, y3, y4⟩
        have b28 : b < 28 := by split at y2 <;> omega
        have c28 : c < 28 := by split at y3 <;> omega
        exact ⟨a, b, c, y1, y2, y3, by rw [mk a b c y1 b28 c28]; exact y4⟩
    have nd := new_dep (w := fun t => A t (rk q v)) k2 t4
    have F3 : FL hM h3 := t1.tr (fun P j x y z => (f3.1 P j (by omega)).trans (l1 P j (by omega)))
    rcases x with ⟨rfl, x⟩ | ⟨rfl, x⟩
    · have nD := nd.mp (found.mp x)
      rw [if_pos rfl, f3.1 0 31 (by omega), m31]
      refine ok_bind (lays_ok (j := k) (by omega) (by omega) (F3.form b2) b3) (fun h4 ⟨l3, l4⟩ => ?_)
      rw [d1, ← hR] at l4
      have n31 : rI h4 0 31 = nI k := (l3 _ _ (by omega)).trans ((f3.1 0 31 (by omega)).trans m31)
      have n31' : rI (wI h4 18 k (nI v)) 0 31 = nI k := by rw [rI_ne (by omega)]; exact n31
      rw [n31, inbN (show k < 3 by omega) (by decide), gd_t, nI_clamp (by omega), hl_d, n31', nI_1]
      refine hw _ ⟨k + 1, fun i => if i = k then rk q v else pc i, fun P j x y z => ?_, rI_same _ _ _ _, ?_, ?_, fun i hi => ?_, fun i hi t ht => ?_⟩
      · rw [rI_ne (by omega), rI_ne (by omega), l3 P j (by omega)]
        exact F3 P j x y z
      · rw [rv]
        refine Or.inr ⟨k, rfl, if_pos rfl, fun d => nD (DEP_congr (fun i hi t _ => ?_) d), GRE_congr t3 (fun i hi => ?_)⟩
        · show A t (if i = k then rk q v else pc i) = A t (pc i)
          rw [if_neg (by omega)]
        · rw [if_neg (by omega)]
      · refine FOUND_congr (by omega) (fun i hi => ?_) (found.mp x)
        unfold pux colsOf
        by_cases z : i = k
        · simp only [if_pos z]
        · simp only [if_neg z]
      · show _ = nI (sel q (if i = k then rk q v else pc i))
        rw [rI_ne (by omega)]
        by_cases z : i = k
        · subst z
          rw [rI_same, if_pos rfl, s1]
        · rw [rI_ne (by omega), if_neg z, l3 _ _ (by omega), f3.1 _ _ (by omega), l1 _ _ (by omega)]
          exact t5 i (by omega)
      · have st : SL (wI (wI h4 18 k (nI v)) 0 31 (nI (k + 1))) i t = SL h4 i t := by
          unfold SL
          rw [rI_ne (by omega), rI_ne (by omega)]
        show _ = A t (if i = k then rk q v else pc i)
        rw [st]
        by_cases z : i = k
        · subst z
          rw [l4 t ht, if_pos rfl, hAM t _ s2, s1]
        · rw [if_neg z, ← w0 i (by omega) t ht]
          unfold SL
          rw [l3 _ _ (by omega), f3.1 _ _ (by omega)]
    · rw [if_neg (by decide)]
      refine hw h3 ⟨k, pc, F3, (f3.1 0 31 (by omega)).trans m31, ?_, t4, fun i hi => ?_, fun i hi t ht => ?_⟩
      · rw [rv]
        refine Or.inl ⟨?_, t3⟩
        by_cases d : DEP 28 k (colsOf A pc) (fun t => A t (rk q v))
        · exact d
        · exact absurd (found.mpr (nd.mpr d)) x
      · rw [f3.1 _ _ (by omega), l1 _ _ (by omega)]
        exact t5 i hi
      · rw [← w0 i hi t ht]
        unfold SL
        rw [f3.1 _ _ (by omega)]
  · intro h w ⟨k, pc, t⟩
    unfold f_X11_fillsColumns_l7
    rw [t.1 0 5 (by omega) (by omega) (by omega), e2, if_pos (le_nIn (Nat.le_refl _) (by omega))]
    rw [rn] at t
    exact ok_some ⟨k, pc, t⟩
end COLUMNS
