section OPS7
variable {hC hM : pq_H}
theorem terms2_ok {n : Nat} (i : InvF n hC hM) : ∃ r, f_X6_termsOfAll hC = some r ∧ f_X11_allTerms hM = some r := by
  have key := lp_gen2 (z1 := fun _ _ => none) (z2 := fun _ _ => none) (f1 := f_X6_termsOfAll_l4 hC) (f2 := f_X11_allTerms_l4 hM) (Q := fun (x y : Int32) => x = y) (fun (w : Int32 → Int32 → Option Int32) (s : Int32 × Int32) => w s.1 s.2) (fun (w : Int32 → Int32 → Option Int32) (s : Int32 × Int32) => w s.1 s.2) (fun i s1 s2 => s1 = s2 ∧ s1.2 = nI i) n ?_ ?_ 1000 0 (0, 0) (0, 0) (by omega) (by have := i.1; omega) ⟨rfl, rfl⟩
  · obtain ⟨a, b, e1, e2, e3⟩ := key
    subst e3
    exact ⟨a, e1, e2⟩
  · intro j s1 s2 w1 w2 hj hI hw
    obtain ⟨h6, i1, i2, i3⟩ := i
    obtain ⟨rfl, e⟩ := hI
    obtain ⟨v, c⟩ := s1
    simp only at e
    subst e
    obtain ⟨F, c1, c2, c3⟩ := i3 j hj
    show ok2 (f_X6_termsOfAll_l4 hC w1 v (nI j)) (f_X11_allTerms_l4 hM w2 v (nI j)) _
    unfold f_X6_termsOfAll_l4 f_X11_allTerms_l4
    have hd := c3.2.2.1
    rw [i1, i2, if_neg (nI_ge hj (by omega)), if_neg (nI_ge hj (by omega)), inbN (show j < 6 by omega) (by decide), gd_t, gd_t, nI_clamp (by omega), c1.2.2.1, c2.2.2.1, nI_1]
    exact hw (_, _) (_, _) ⟨rfl, rfl⟩
  · intro s1 s2 w1 w2 hI
    obtain ⟨h6, i1, i2, i3⟩ := i
    obtain ⟨rfl, e⟩ := hI
    obtain ⟨v, c⟩ := s1
    simp only at e
    subst e
    show ok2 (f_X6_termsOfAll_l4 hC w1 v (nI n)) (f_X11_allTerms_l4 hM w2 v (nI n)) _
    unfold f_X6_termsOfAll_l4 f_X11_allTerms_l4
    rw [i1, i2, if_pos (le_nIn (Nat.le_refl _) (by omega)), if_pos (le_nIn (Nat.le_refl _) (by omega))]
    exact ok2_some rfl
theorem clear2_ok {n : Nat} (i : InvF n hC hM) : ∃ r, f_X6_clearForms hC = some r ∧ f_X11_clearOnes hM = some r := by
  have key := lp_gen2 (z1 := fun _ _ => none) (z2 := fun _ _ => none) (f1 := f_X6_clearForms_l4 hC) (f2 := f_X11_clearOnes_l4 hM) (Q := fun (x y : Int32) => x = y) (fun (w : Int32 → Int32 → Option Int32) (s : Int32 × Int32) => w s.1 s.2) (fun (w : Int32 → Int32 → Option Int32) (s : Int32 × Int32) => w s.1 s.2) (fun i s1 s2 => s1 = s2 ∧ s1.2 = nI i) n ?_ ?_ 1000 0 (0, 0) (0, 0) (by omega) (by have := i.1; omega) ⟨rfl, rfl⟩
  · obtain ⟨a, b, e1, e2, e3⟩ := key
    subst e3
    exact ⟨a, e1, e2⟩
  · intro j s1 s2 w1 w2 hj hI hw
    obtain ⟨h6, i1, i2, i3⟩ := i
    obtain ⟨rfl, e⟩ := hI
    obtain ⟨v, c⟩ := s1
    simp only at e
    subst e
    obtain ⟨F, c1, c2, c3⟩ := i3 j hj
    show ok2 (f_X6_clearForms_l4 hC w1 v (nI j)) (f_X11_clearOnes_l4 hM w2 v (nI j)) _
    unfold f_X6_clearForms_l4 f_X11_clearOnes_l4 f_X6_clearForms_j31 f_X11_clearOnes_j29
    have hd := c3.2.2.1
    rw [i1, i2, if_neg (nI_ge hj (by omega)), if_neg (nI_ge hj (by omega)), inbN (show j < 6 by omega) (by decide), gd_t, nI_clamp (by omega), howMany_ok c1 c3, many_ok c2 c3 (by omega), Option.bind_some, Option.bind_some, nI_1]
    simp only [if_true]
    rw [Int32.or_zero]
    by_cases z : nI (cnt (fun t => decide (cfT F t < 0)) (tri (F.2.2.1 + 1))) = 0
    · rw [if_pos z, if_pos z]
      exact hw (_, _) (_, _) ⟨rfl, rfl⟩
    · rw [if_neg z, if_neg z]
      exact hw (_, _) (_, _) ⟨rfl, rfl⟩
  · intro s1 s2 w1 w2 hI
    obtain ⟨h6, i1, i2, i3⟩ := i
    obtain ⟨rfl, e⟩ := hI
    obtain ⟨v, c⟩ := s1
    simp only at e
    subst e
    show ok2 (f_X6_clearForms_l4 hC w1 v (nI n)) (f_X11_clearOnes_l4 hM w2 v (nI n)) _
    unfold f_X6_clearForms_l4 f_X11_clearOnes_l4
    rw [i1, i2, if_pos (le_nIn (Nat.le_refl _) (by omega)), if_pos (le_nIn (Nat.le_refl _) (by omega))]
    exact ok2_some rfl
theorem a_count : Ag_count Inv := by
  intro hC hM p1 i
  obtain ⟨n, i1, ⟨m, x, u0, u1, u2, u3, u4, u5⟩, ⟨l, l0, l1, l2, l3⟩, i4, i5, i6, i7⟩ := id i
  unfold f_X10_count f_X11_count f_X11_isIn
  simp only [bind_id]
  rw [i1.2.1, i1.2.2.1, u2, u3, l1, l2]
  obtain ⟨r1, a1, b1⟩ := terms2_ok i1
  obtain ⟨r2, a2, b2⟩ := clear2_ok i1
  rw [a1, b1, a2, b2]
  by_cases q1 : p1 < 11
  · rw [if_pos q1, if_pos q1, if_neg (show ¬ false = true by decide)]
    repeat' split
    all_goals exact ⟨_, rfl, rfl⟩
  · have ne : ∀ v : Nat, v < 11 → ¬ p1 = nI v := fun v hv e => by
      subst e
      exact q1 (nI_lt (b := 11) hv (by decide))
    rw [if_neg (show ¬ p1 = 0 from ne 0 (by decide)), if_neg (show ¬ p1 = 1 from ne 1 (by decide)), if_neg (show ¬ p1 = 2 from ne 2 (by decide)), if_neg (show ¬ p1 = 3 from ne 3 (by decide)), if_neg (show ¬ p1 = 4 from ne 4 (by decide)), if_neg q1, if_neg q1]
    by_cases q2 : 16 < p1
    · rw [if_pos q2, if_pos q2, if_neg (show ¬ false = true by decide), if_neg (show ¬ p1 = 0 from ne 0 (by decide)), if_neg (show ¬ p1 = 1 from ne 1 (by decide)), if_neg (show ¬ p1 = 2 from ne 2 (by decide)), if_neg (show ¬ p1 = 3 from ne 3 (by decide)), if_neg (show ¬ p1 = 4 from ne 4 (by decide))]
      exact ⟨_, rfl, rfl⟩
    · rw [if_neg q2, if_neg q2, if_pos rfl]
      obtain ⟨v, hv, rfl⟩ := nI_of2 (M := 16) (n := 16) rfl (x := p1) (by
        intro z
        have a := Int32.lt_iff_toInt_lt.mp z
        have b := Int32.le_iff_toInt_le.mp (Int32.not_lt.mp q1)
        have c : (11 : Int32).toInt = 11 := rfl
        have d : (0 : Int32).toInt = 0 := rfl
        omega) (Int32.not_lt.mp q2)
      have hv11 : 11 ≤ v := by
        have b := Int32.le_iff_toInt_le.mp (Int32.not_lt.mp q1)
        rw [nI_toInt (by omega), show (11 : Int32).toInt = 11 from rfl] at b
        omega
      rw [show (10 : Int32) = nI 10 from rfl, pk_sub (by omega), inbN (by omega) (by decide), gd_t, gd_t, nI_clamp (by omega), i4 (v - 10) (by omega) (by omega)]
      exact ⟨_, rfl, rfl⟩
end OPS7
