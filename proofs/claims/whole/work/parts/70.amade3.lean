section AMADE3
theorem a_made : Ag_made Inv := by
  intro hC hM p1 p2 p3 p4 i
  obtain ⟨n, iG⟩ := id i
  have i1 := iG.1
  have h6 := i1.1
  have e1 := i1.2.1
  have e2 := i1.2.2.1
  obtain ⟨FF, hFF⟩ := forms_ex i1
  have m1 : ag Inv (f_X10_made_j33 hC) (f_X11_made_j30 p1 p2 p3 p4 hM) := by
    unfold f_X10_made_j33 f_X11_made_j30
    rw [bd2_id, j64_ne (by decide)]
    exact ag_low 1 rfl (by decide) (by decide) i
  obtain ⟨w1, w2, w3⟩ := pow_nI n (by omega)
  have c1 : (1 : Int32).toInt = 1 := rfl
  have cq : ((2 ^ n : Nat) : Int) = 2 ^ n := by simp
  unfold f_X10_made f_X11_made
  rcases form_cases i1 p1 with ⟨a, b⟩ | ⟨f, hf, hf6, rfl, a, b, -⟩
  · rw [if_pos a, if_neg (Bf b)]
    exact m1
  rw [if_neg (Bf a), if_pos b, e2, w3]
  rcases set_cases (show n < 7 by omega) hC e1 p2 with ⟨c, d⟩ | ⟨q, q1, q2, q3, rfl, c⟩
  · rw [if_pos c]
    by_cases z : p2 < 1
    · rw [if_pos z]
      exact m1
    have z' := Int32.le_iff_toInt_le.mp (Int32.not_lt.mp z)
    rw [c1] at z'
    rw [if_neg z, if_neg (fun y => d ⟨z', (shr_0 (by omega) (by omega)).mp y⟩)]
    exact m1
  have tq : (nI q).toInt = (q : Int) := nI_toInt (by omega)
  rw [if_neg (Bf c), if_neg (show ¬ nI q < 1 from nI_nlt (b := 1) (by omega) (by omega)), if_pos ((shr_0 (by omega) (by omega)).mpr (by omega))]
  rcases form_cases i1 p3 with ⟨a3, b3⟩ | ⟨g, hg, hg6, rfl, a3, b3, -⟩
  · rw [if_pos a3, if_neg (Bf b3)]
    exact m1
  rw [if_neg (Bf a3), if_pos b3]
  rcases nb_cases p4 2 (by omega) with ⟨a4, b4⟩ | ⟨p, hp, rfl, a4, b4⟩
  · rw [if_pos (show f_X10_notBelow p4 2 = true from a4), if_neg (show ¬ f_X11_isIn p4 0 1 = true from Bf b4), bd2_id, j64_ne (by decide)]
    exact ag_low 2 rfl (by decide) (by decide) i
  rw [if_neg (show ¬ f_X10_notBelow (nI p) 2 = true from Bf a4), if_pos (show f_X11_isIn (nI p) 0 1 = true from b4), canMake_ok i1 hFF hf q3 q2, isSetOf_ok i1 hFF hf q3 q1 q2, Option.bind_some, Option.bind_some]
  by_cases z : CAN FF n f q = true
  · rw [if_pos z, if_pos z]
    exact made_main iG hFF hf hg hp q3 q2 z
  · rw [if_neg z, if_neg z]
    unfold f_X10_made_j83
    rw [bd2_id, j64_ne (by decide)]
    exact ag_low 3 rfl (by decide) (by decide) i
end AMADE3
