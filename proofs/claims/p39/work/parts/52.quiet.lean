section QUIET
/-- the forms that there are -/
def St (h : pq_H) (n : Nat) (Fs : Nat → pF) : Prop := n ≤ 6 ∧ rI h 56 3 = nI n ∧ ∀ f, f < n → FormC h f (Fs f) ∧ okF (Fs f)
theorem St.frC {h h' : pq_H} {n : Nat} {Fs : Nat → pF} (S : St h n Fs) (fr : frC h h') : St h' n Fs := ⟨S.1, (fr.1 56 (by omega) 3).trans S.2.1, fun f hf => ⟨(S.2.2 f hf).1.frC (by have := S.1; omega) fr, (S.2.2 f hf).2⟩⟩
theorem nb_no {j N : Nat} (h : j < N) (hN : N < 1000000) : f_X10_notBelow (nI j) (nI N) = false := by
  unfold f_X10_notBelow
  rw [if_neg (nI_pos (by omega)), if_pos (nI_lt h (by omega))]
theorem St.lacks {h : pq_H} {n f : Nat} {Fs : Nat → pF} (S : St h n Fs) (hf : f < n) : f_X6_lacks (nI f) h = false := by
  unfold f_X6_lacks
  rw [S.2.1]
  exact nb_no hf (by have := S.1; omega)
theorem side_yes {g : Nat} (h1 : 1 ≤ g) (h2 : g ≤ 7) : f_X10_isSide (nI g) = true := by
  unfold f_X10_isSide
  rw [if_neg (show ¬ nI g < 1 from nI_nlt (b := 1) (by omega) (by omega)), if_neg (show ¬ (7 : Int32) < nI g from nI_nlt (a := 7) (by omega) (by omega))]
theorem sort_no {q : Nat} (hq : q < 2) : f_X10_notBelow (nI q) 2 = false := nb_no (N := 2) hq (by decide)
variable {h : pq_H} {n f g q : Nat} {Fs : Nat → pF}
theorem least_q (S : St h n Fs) (hf : f < n) (h1 : 1 ≤ g) (h2 : g ≤ 7) (hq : q < 2) : ok (f_X10_least (nI f) (nI g) (nI q) h) (fun r => frC h r.2 ∧ fstN (clrN g (Fs f).2.2.1 (wr0 (Fs f) g) (nI q)) 13 r.1) := by
  have h6 := S.1
  obtain ⟨c1, c3⟩ := S.2.2 f hf
  unfold f_X10_least
  simp only [bd2_id]
  rw [if_neg (Bf (S.lacks hf)), if_pos (side_yes h1 h2), if_neg (Bf (sort_no hq))]
  refine ok_bind (workOn_ok c1 c3 (by omega) h1 h2) (fun h1' ⟨k1, k2⟩ => ?_)
  exact ok_mono (leastC_ok h1 h2 c3.2.2.1 k2 _) (fun r hr => ⟨k1.tr hr.1, hr.2⟩)
theorem failing_q (S : St h n Fs) (hf : f < n) (h1 : 1 ≤ g) (h2 : g ≤ 7) (hq : q < 2) : ok (f_X10_failing (nI f) (nI g) (nI q) 0 h) (fun r => frC h r.2 ∧ FS (Fs f) g (nI q) 0 r.1) := by
  have h6 := S.1
  obtain ⟨c1, c3⟩ := S.2.2 f hf
  unfold f_X10_failing
  rw [if_neg (Bf (S.lacks hf)), if_pos (side_yes h1 h2), if_neg (Bf (sort_no hq)), if_neg (Bf (show f_X10_notBelow 0 2 = false from sort_no (q := 0) (by decide)))]
  refine ok_bind (workOn_ok c1 c3 (by omega) h1 h2) (fun h1' ⟨k1, k2⟩ => ?_)
  refine ok_bind (failSz_ok c3.2.2.1 h1 h2 k2 (nI q)) (fun r hr => ?_)
  refine ok_ite (fun _ => ok_some ⟨k1, hr⟩) (fun _ => ?_)
  rw [if_pos rfl]
  exact ok_some ⟨k1, hr⟩
theorem fault_q {m : Nat} (S : St h n Fs) (hf : f < n) (h1 : 1 ≤ g) (h2 : g ≤ 7) (hq : q < 2) (hm : m ≤ 12) : ok (f_X10_fault (nI f) (nI g) (nI m) (nI q) h) (fun r => frC h r.2 ∧ fstN (ffP g ((Fs f).2.2.1 + m) (rzN g (Fs f).2.2.1 (wr0 (Fs f) g) m) (nI q)) (plc g ((Fs f).2.2.1 + m)) r.1) := by
  have h6 := S.1
  obtain ⟨c1, c3⟩ := S.2.2 f hf
  have hd := c3.2.2.1
  unfold f_X10_fault
  rw [if_neg (Bf (S.lacks hf)), if_pos (side_yes h1 h2), if_neg (Bf (sort_no hq)), if_pos (nI_pos' (by omega)), if_pos (show nI m ≤ 12 from le_nIn (b := 12) hm (by decide))]
  refine ok_bind (workOn_ok c1 c3 (by omega) h1 h2) (fun h1' ⟨k1, k2⟩ => ?_)
  refine ok_bind (raise_ok h2 (by omega) k2) (fun h2' ⟨k3, k4⟩ => ?_)
  refine ok_bind (firstC_ok h1 h2 (by omega) k4 _) (fun r hr => ?_)
  exact ok_some ⟨k1.tr k3, hr⟩
theorem plc_pos {g n : Nat} : 0 < plc g n := by
  unfold plc
  have := tri_mono (show 1 ≤ n + 1 by omega)
  have e : tri 1 = 1 := rfl
  split
  · omega
  · split <;> omega
theorem refused_q {m : Nat} (S : St h n Fs) (hf : f < n) (h1 : 1 ≤ g) (h2 : g ≤ 7) (m1 : 1 ≤ m) (m2 : m ≤ 12) : f_X10_pointsRefused (nI f) (nI g) (nI m) 0 h = 0 := by
  unfold f_X10_pointsRefused
  rw [if_neg (Bf (S.lacks hf)), if_pos (side_yes h1 h2), if_pos (show (1 : Int32) ≤ nI m from le_nIn (a := 1) m1 (by omega)), if_pos (show nI m ≤ 12 from le_nIn (b := 12) m2 (by decide)), if_neg (Bf (show f_X10_notBelow 0 2 = false from sort_no (q := 0) (by decide)))]
theorem lowest_q {m : Nat} (S : St h n Fs) (hf : f < n) (h1 : 1 ≤ g) (h2 : g ≤ 7) (m1 : 1 ≤ m) (m2 : m ≤ 12) : ok (f_X10_lowest (nI f) (nI g) (nI m) 0 h) (fun r => frC h r.2 ∧ ∃ p, p < plc g m ∧ r.1 = pv (Fs f) g m p ∧ ∀ j, j < plc g m → pv (Fs f) g m p ≤ pv (Fs f) g m j) := by
  have h6 := S.1
  obtain ⟨c1, c3⟩ := S.2.2 f hf
  have hd := c3.2.2.1
  unfold f_X10_lowest
  rw [refused_q S hf h1 h2 m1 m2, if_pos (by decide)]
  refine ok_bind (workOn_ok c1 c3 (by omega) h1 h2) (fun h1' ⟨k1, k2⟩ => ?_)
  refine ok_bind (lowPt_ok hd h1 h2 m2 k2 plc_pos) (fun r ⟨p, hp, e, L⟩ => ?_)
  subst e
  rw [if_pos rfl, worthAt_ok hd h1 h2 (by omega) k2 hp, Option.bind_some]
  obtain ⟨p', b1, b2, b3, b4, b5⟩ := L
  refine ok_some ⟨k1, p, hp, rfl, fun j hj => ?_⟩
  rw [b3]
  exact b4 j hj
theorem proof_q (S : St h n Fs) (hf : f < n) (h1 : 1 ≤ g) (h2 : g ≤ 7) : ok (f_X10_proof (nI f) (nI g) h) (fun r => frC h r.2 ∧ ∃ r1 r2 r3, fstN (clrN g (Fs f).2.2.1 (wr0 (Fs f) g) (nI 1)) 13 r1 ∧ fstN (clrN g (Fs f).2.2.1 (wr0 (Fs f) g) (nI 0)) 13 r2 ∧ FS (Fs f) g (nI 0) 0 r3 ∧ r.1 = if ¬ r1 = -9 then 0 else if ¬ r2 = -9 then 1 else if ¬ r3 = -9 then 2 else 3) := by
  have h6 := S.1
  obtain ⟨c1, c3⟩ := S.2.2 f hf
  have hd := c3.2.2.1
  obtain ⟨r1, d1, D1⟩ : ∃ r1, fstN (clrN g (Fs f).2.2.1 (wr0 (Fs f) g) (nI 1)) 13 r1 ∧ True := by
    obtain ⟨x, -, k1, k2⟩ := least_q (q := 1) S hf h1 h2 (by decide)
    exact ⟨_, k2, trivial⟩
  obtain ⟨r2, d2, D2⟩ : ∃ r2, fstN (clrN g (Fs f).2.2.1 (wr0 (Fs f) g) (nI 0)) 13 r2 ∧ True := by
    obtain ⟨x, -, k1, k2⟩ := least_q (q := 0) S hf h1 h2 (by decide)
    exact ⟨_, k2, trivial⟩
  obtain ⟨r3, d3, D3⟩ : ∃ r3, FS (Fs f) g (nI 0) 0 r3 ∧ True := by
    obtain ⟨x, -, k1, k2⟩ := failing_q (q := 0) S hf h1 h2 (by decide)
    exact ⟨_, k2, trivial⟩
  unfold f_X10_proof
  rw [if_neg (Bf (S.lacks hf)), if_pos (side_yes h1 h2)]
  refine ok_bind (workOn_ok c1 c3 (by omega) h1 h2) (fun x1 ⟨k1, k2⟩ => ?_)
  refine ok_bd2 (leastC_ok h1 h2 hd k2 1) (fun s1 x2 ⟨k3, k4⟩ => ?_)
  have e1 : s1 = r1 := fstN_eq k4 d1
  subst e1
  refine ok_ite (fun z1 => ?_) (fun z1 => ok_some ⟨k1.tr k3, s1, r2, r3, d1, d2, d3, (if_pos z1).symm⟩)
  have f2 := k1.tr k3
  refine ok_bind (workOn_ok (c1.frC (by omega) f2) c3 (by omega) h1 h2) (fun x3 ⟨k5, k6⟩ => ?_)
  refine ok_bd2 (leastC_ok h1 h2 hd k6 0) (fun s2 x4 ⟨k7, k8⟩ => ?_)
  have e2 : s2 = r2 := fstN_eq k8 d2
  subst e2
  have f4 := (f2.tr k5).tr k7
  refine ok_ite (fun z2 => ?_) (fun z2 => ok_some ⟨f4, s1, s2, r3, d1, d2, d3, by rw [if_neg (fun x => x z1), if_pos z2]⟩)
  refine ok_bind (workOn_ok (c1.frC (by omega) f4) c3 (by omega) h1 h2) (fun x5 ⟨k9, k10⟩ => ?_)
  refine ok_bind (failSz_ok hd h1 h2 k10 0) (fun s3 hr => ?_)
  have e3 : s3 = r3 := FS_eq hr d3
  subst e3
  refine ok_ite (fun z3 => ok_some ⟨f4.tr k9, s1, s2, s3, d1, d2, d3, ?_⟩) (fun z3 => ok_some ⟨f4.tr k9, s1, s2, s3, d1, d2, d3, ?_⟩)
  · rw [if_neg (fun x => x z1), if_neg (fun x => x z2), if_neg (fun x => x z3)]
  · rw [if_neg (fun x => x z1), if_neg (fun x => x z2), if_pos z3]
theorem value_q {x y z : Nat} (S : St h n Fs) (hf : f < n) (hx : x ≤ 12) (hy : y ≤ 12) (hz : z ≤ 12) : ok (f_X10_value (nI f) (nI x) (nI y) (nI z) h) (fun r => frC h r.2 ∧ r.1 = valF (Fs f) (nI x) (nI y) (nI z)) := by
  have h6 := S.1
  obtain ⟨c1, c3⟩ := S.2.2 f hf
  have hd := c3.2.2.1
  unfold f_X10_value
  rw [if_neg (Bf (S.lacks hf)), if_neg (nI_pos (by omega)), if_neg (nI_pos (by omega)), if_pos (nI_pos' (by omega)), if_neg (show ¬ (12 : Int32) < nI x from nI_nlt (a := 12) (by omega) (by omega)), if_neg (show ¬ (12 : Int32) < nI y from nI_nlt (a := 12) (by omega) (by omega)), if_pos (show nI z ≤ 12 from le_nIn (b := 12) hz (by decide))]
  refine ok_bind (workOn_ok (g := 7) c1 c3 (by omega) (by decide) (by decide)) (fun h1' ⟨k1, k2⟩ => ?_)
  rw [worth_ok (by omega) k2, Option.bind_some, worth_val ⟨Or.inl rfl, Or.inl rfl, Or.inl rfl⟩]
  exact ok_some ⟨k1, rfl⟩
theorem lifted_q {m t : Nat} (S : St h n Fs) (hf : f < n) (h1 : 1 ≤ g) (h2 : g ≤ 7) (hm : m ≤ 12) (ht : t < plc g ((Fs f).2.2.1 + m)) : ok (f_X10_lifted (nI f) (nI g) (nI m) (nI t) h) (fun r => frC h r.2 ∧ r.1 = Wt (rzN g (Fs f).2.2.1 (wr0 (Fs f) g) m) (num g ((Fs f).2.2.1 + m) t)) := by
  have h6 := S.1
  obtain ⟨c1, c3⟩ := S.2.2 f hf
  have hd := c3.2.2.1
  have hb := plc_le (g := g) (n := (Fs f).2.2.1 + m)
  have hb2 := tri_b (show (Fs f).2.2.1 + m + 1 ≤ 40 by omega)
  unfold f_X10_lifted
  rw [if_neg (Bf (S.lacks hf)), if_pos (side_yes h1 h2), if_pos (nI_pos' (by omega)), if_pos (show nI m ≤ 12 from le_nIn (b := 12) hm (by decide)), inbN (by omega) (by decide), gd_t, nI_clamp (by omega), c1.2.2.1, nI_add, places_ok h1 h2 (by omega), if_neg (Bf (nb_no ht (by omega)))]
  refine ok_bind (workOn_ok c1 c3 (by omega) h1 h2) (fun h1' ⟨k1, k2⟩ => ?_)
  refine ok_bind (raise_ok h2 (by omega) k2) (fun h2' ⟨k3, k4⟩ => ?_)
  rw [among_ok h1 h2 (by omega) k4 ht, Option.bind_some]
  exact ok_some ⟨k1.tr k3, rfl⟩
theorem of2_q (S : St h n Fs) (hf : f < n) : f_X10_of (nI f) 2 h = some (nI (Fs f).2.2.1, h) := by
  have h6 := S.1
  obtain ⟨c1, c3⟩ := S.2.2 f hf
  unfold f_X10_of
  rw [if_neg (Bf (S.lacks hf)), if_neg (Bf (show f_X10_notBelow 2 6 = false from nb_no (j := 2) (N := 6) (by decide) (by decide))), inbN (by omega) (by decide), gd_t, nI_clamp (by omega), if_neg (by decide), if_neg (by decide), if_pos rfl, c1.2.2.1]
theorem of3_q (S : St h n Fs) (hf : f < n) : f_X10_of (nI f) 3 h = some (nI (tri ((Fs f).2.2.1 + 1)), h) := by
  have h6 := S.1
  obtain ⟨c1, c3⟩ := S.2.2 f hf
  have hd := c3.2.2.1
  unfold f_X10_of
  rw [if_neg (Bf (S.lacks hf)), if_neg (Bf (show f_X10_notBelow 3 6 = false from nb_no (j := 3) (N := 6) (by decide) (by decide))), inbN (by omega) (by decide), gd_t, nI_clamp (by omega), if_neg (by decide), if_neg (by decide), if_neg (by decide), if_pos rfl, c1.2.2.1, termsOf_nI (by omega)]
theorem of4_q (S : St h n Fs) (hf : f < n) : f_X10_of (nI f) 4 h = some (nI (cnt (fun t => decide (cfT (Fs f) t = 0)) (tri ((Fs f).2.2.1 + 1))), h) := by
  have h6 := S.1
  obtain ⟨c1, c3⟩ := S.2.2 f hf
  have hd := c3.2.2.1
  unfold f_X10_of
  rw [if_neg (Bf (S.lacks hf)), if_neg (Bf (show f_X10_notBelow 4 6 = false from nb_no (j := 4) (N := 6) (by decide) (by decide))), inbN (by omega) (by decide), gd_t, nI_clamp (by omega), if_neg (by decide), if_neg (by decide), if_neg (by decide), if_neg (by decide), if_pos rfl, howMany_ok c1 c3, Option.bind_some]
  rfl
theorem coef_q {t : Nat} (S : St h n Fs) (hf : f < n) (ht : t < tri ((Fs f).2.2.1 + 1)) : f_X10_coefficient (nI f) (nI t) h = some (cfT (Fs f) t, h) := by
  have h6 := S.1
  obtain ⟨c1, c3⟩ := S.2.2 f hf
  have hd := c3.2.2.1
  have := tri28 hd
  unfold f_X10_coefficient f_X10_lacksTerm
  rw [if_neg (Bf (S.lacks hf)), inbN (by omega) (by decide), gd_t, gd_t, nI_clamp (by omega), c1.2.2.1, termsOf_nI (by omega), Option.bind_some, if_neg (Bf (nb_no ht (by omega))), atT c1 c3 ht, Option.bind_some]
end QUIET
