section SHARE
variable {hC hM : pq_H}
theorem ref_cases {f n : Nat} {p1 p2 p3 p4 : Int32} (i1 : InvF n hC hM) : (∃ k, 1 ≤ k ∧ k ≤ 6 ∧ f_X10_pointsRefused p1 p2 p3 p4 hC = -nI k ∧ f_X11_notLooked p1 p2 p3 p4 hM = -nI k) ∨ (f_X10_pointsRefused p1 p2 p3 p4 hC = 0 ∧ f_X11_notLooked p1 p2 p3 p4 hM = 0 ∧ ∃ f g m q F, f < 6 ∧ 1 ≤ g ∧ g ≤ 7 ∧ 1 ≤ m ∧ m ≤ 12 ∧ q < 2 ∧ p1 = nI f ∧ p2 = nI g ∧ p3 = nI m ∧ p4 = nI q ∧ FormC hC f F ∧ FormM hM f F ∧ okF F) := by
  unfold f_X10_pointsRefused f_X11_notLooked f_X11_notLooked_j22 f_X11_bound f_X11_notSide
  rcases form_cases i1 p1 with ⟨a, b⟩ | ⟨f, hf, hf6, rfl, a, b, F, c1, c2, c3⟩
  · left
    refine ⟨1, by omega, by omega, by rw [if_pos a]; rfl, ?_⟩
    rw [if_neg (Bf b), if_neg (by decide), if_neg (by decide)]
    rfl
  rw [if_neg (Bf a), if_pos b]
  rcases side_cases p2 with ⟨sa, sb⟩ | ⟨g, g1, g2, rfl, sa, sb⟩
  · left
    refine ⟨1, by omega, by omega, by rw [if_neg (Bf sa)]; rfl, ?_⟩
    rw [if_neg (Bf sb), if_neg (by decide), if_neg (by decide)]
    rfl
  rw [if_pos sa, if_pos sb]
  simp only [if_true]
  by_cases q1 : 1 ≤ p3
  case neg =>
    left
    refine ⟨4, by omega, by omega, by rw [if_neg q1]; rfl, ?_⟩
    rw [if_neg q1, if_neg (by decide)]
    rfl
  by_cases q2 : p3 ≤ 12
  case neg =>
    left
    refine ⟨6, by omega, by omega, by rw [if_pos q1, if_neg q2]; rfl, ?_⟩
    rw [if_pos q1, if_neg q2, if_neg (by decide)]
    rfl
  rw [if_pos q1, if_pos q1, if_pos q2, if_pos q2]
  simp only [if_true]
  rcases nb_cases p4 2 (by decide) with ⟨a2, b2⟩ | ⟨q, hq, rfl, a2, b2⟩
  · left
    refine ⟨2, by omega, by omega, by rw [if_pos (show f_X10_notBelow p4 2 = true from a2)]; rfl, ?_⟩
    rw [if_neg (show ¬ f_X11_isIn p4 0 1 = true from Bf b2)]
    rfl
  right
  rw [if_neg (show ¬ f_X10_notBelow (nI q) 2 = true from Bf a2), if_pos (show f_X11_isIn (nI q) 0 1 = true from b2)]
  have w := Int32.le_iff_toInt_le.mp q1
  rw [show (1 : Int32).toInt = 1 from rfl] at w
  obtain ⟨m, hm, rfl⟩ := nI_of2 (M := 12) (n := 12) rfl (x := p3) (fun z => by
    have b := Int32.lt_iff_toInt_lt.mp z
    rw [show (0 : Int32).toInt = 0 from rfl] at b
    omega) q2
  rw [nI_toInt (by omega)] at w
  exact ⟨rfl, rfl, f, g, m, q, F, hf6, g1, g2, by omega, hm, hq, rfl, rfl, rfl, rfl, c1, c2, c3⟩
theorem nneg {k : Nat} (h1 : 1 ≤ k) (h2 : k ≤ 6) : ¬ (0 : Int32) ≤ -nI k ∧ ¬ -nI k = 0 := by
  constructor
  · intro z
    have := (sb_nle (a := 0) (b := k) (by decide) (by omega)).mp z
    omega
  · intro z
    have e : - -nI k = nI k := Int32.neg_neg
    rw [z] at e
    exact nI_ne0 (n := k) (by omega) (by omega) e.symm
theorem a_lowest : Ag_lowest Inv := by
  intro hC hM p1 p2 p3 p4 i
  unfold f_X10_lowest f_X11_lowest
  simp only [bd2_id, bind_id]
  obtain ⟨n, i1, -⟩ := id i
  rcases ref_cases (f := 0) (p1 := p1) (p2 := p2) (p3 := p3) (p4 := p4) i1 with ⟨k, h1, h2, e1, e2⟩ | ⟨e1, e2, f, g, m, q, F, hf, g1, g2, m1, m2, hq, rfl, rfl, rfl, rfl, c1, c2, c3⟩
  · rw [e1, e2, if_neg (nneg h1 h2).1, if_neg (nneg h1 h2).2]
    exact ag_low k rfl h1 h2 i
  rw [e1, e2, if_pos (by decide), if_pos rfl]
  have hd := c3.2.2.1
  have hb := plc_b (g := g) m2
  have hq0 : (nI q = 0) ↔ q = 0 := nI_eq (b := 0) (by omega) (by decide)
  obtain ⟨x1, d1, k1, k2⟩ := workOn_ok c1 c3 hf g1 g2
  obtain ⟨r, d2, p, p1, p2, p3⟩ := lowPt_ok hd g1 g2 m2 k2 plc_pos
  obtain ⟨⟨v, y⟩, d3, l1, l2, l3, l4, l5⟩ := looks_ok (q := 0) c2 c3 hf g1 g2 m2 plc_pos
  simp only at l1 l2 l3 l4 l5
  obtain ⟨z1, z2⟩ := LO_eq p3 l5
  rw [d1, Option.bind_some, d2, Option.bind_some, d3, bd2_some, p2, worthAt_ok hd g1 g2 (by omega) k2 p1, ← z1, ← z2]
  by_cases z : nI q = 0
  · rw [if_pos z, if_pos z]
    exact ag_c _ x1 y rfl rfl (i.fr k1 l1)
  · rw [if_neg z, if_neg z]
    exact ag_c _ x1 y rfl rfl (i.fr k1 l1)
theorem a_share : Ag_share Inv := by
  intro hC hM p1 p2 p3 p4 i
  unfold f_X10_share f_X11_share
  simp only [bd2_id]
  obtain ⟨n, i1, -⟩ := id i
  rcases ref_cases (f := 0) (p1 := p1) (p2 := p2) (p3 := p3) (p4 := p4) i1 with ⟨k, h1, h2, e1, e2⟩ | ⟨e1, e2, f, g, m, q, F, hf, g1, g2, m1, m2, hq, rfl, rfl, rfl, rfl, c1, c2, c3⟩
  · rw [e1, e2, if_neg (nneg h1 h2).1, if_neg (nneg h1 h2).2]
    exact ag_low k rfl h1 h2 i
  rw [e1, e2, if_pos (by decide), if_pos rfl]
  have hd := c3.2.2.1
  have hb := plc_b (g := g) m2
  have hp := plc_pos (g := g) (n := m)
  obtain ⟨x1, d1, k1, k2⟩ := workOn_ok c1 c3 hf g1 g2
  obtain ⟨⟨v, y⟩, d3, l1, l2, l3, l4, l5⟩ := looks_ok (q := 0) c2 c3 hf g1 g2 m2 plc_pos
  simp only at l1 l2 l3 l4 l5
  have ha : abv F g m (plc g m) ≤ plc g m := cnt_le _ _
  rw [d1, Option.bind_some, above_ok hd g1 g2 m2 k2, Option.bind_some, places_ok g1 g2 (by omega), d3, bd2_some, l2, l3, nI_l (by omega), nI_l (by omega)]
  have t1 : (lN (abv F g m (plc g m))).toInt = (abv F g m (plc g m) : Int) := lN_I (by omega)
  have t2 : (lN (plc g m)).toInt = (plc g m : Int) := lN_I (by omega)
  have b1 : bd62 (lN (abv F g m (plc g m))) := ⟨by rw [t1]; omega, by rw [t1]; omega⟩
  have b2 : bd62 (lN (plc g m)) := ⟨by rw [t2]; omega, by rw [t2]; omega⟩
  obtain ⟨r, q1, q2⟩ := partC_ok b1 b2 (by rw [t2]; omega) hq
  obtain ⟨r', q3, q4⟩ := partM_ok b1 b2 (by rw [t2]; omega) hq
  have e : r = r' := Int64.toInt_inj.mp (q2.trans q4.symm)
  subst e
  rw [q1, q3]
  exact ag_c r x1 y rfl rfl (i.fr k1 l1)
end SHARE
