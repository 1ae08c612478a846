section LAWP
theorem setT_back (F : pF) (t : Nat) (v : Int32) : setT (setT F t v) t (F.2.2.2 t) = F := by
  obtain ⟨a, b, D, T⟩ := F
  unfold setT
  refine congrArg (fun f => (a, b, D, f)) (funext fun u => ?_)
  show (if u = t then T t else if u = t then v else T u) = T u
  by_cases e : u = t
  · subst e; rw [if_pos rfl]
  · rw [if_neg e, if_neg e]
theorem chg_b {r : Nat} (h : r < 2000001) : -1000000 ≤ nI r - 1000000 ∧ nI r - 1000000 ≤ 1000000 := by
  have e : (nI r - 1000000).toInt = (r : Int) - 1000000 := by
    rw [Int32.toInt_sub, nI_toInt (by omega), show (1000000 : Int32).toInt = 1000000 by decide]
    exact Int.bmod_eq_of_le (by omega) (by omega)
  refine ⟨Int32.le_iff_toInt_le.mpr ?_, Int32.le_iff_toInt_le.mpr ?_⟩
  · rw [e, show (-1000000 : Int32).toInt = -1000000 by decide]; omega
  · rw [e, show (1000000 : Int32).toInt = 1000000 by decide]; omega
theorem bd_ge {v : Int32} (h : bdI v) : ¬ v < -1000000 := Int32.not_lt.mpr (Int32.le_iff_toInt_le.mpr (by rw [show (-1000000 : Int32).toInt = -1000000 by decide]; exact h.1))
variable {sc : Nat × (Nat → Int32)} {K : pq_H} {G Gs : Nat → pF} {F0 F1 : pF} {g x : Nat}
abbrev TQ (r : Bool × pq_H) : Prop := r.1 = true
/-- what stands when all forms are made -/
def LSt (K : pq_H) (G Gs : Nat → pF) (F0 F1 : pF) (x : Nat) : Prop := St K 6 G ∧ G 0 = F0 ∧ G 1 = F1 ∧ G 5 = liF F0 ∧ Kp K 2 Gs ∧ Gs 0 = F0 ∧ Lg K 0 x ∧ smB 60 F0 ∧ F0.2.2.1 ≤ 3
theorem LSt.frC {K' : pq_H} (l : LSt K G Gs F0 F1 x) (fr : frC K K') : LSt K' G Gs F0 F1 x := ⟨l.1.frC fr, l.2.1, l.2.2.1, l.2.2.2.1, l.2.2.2.2.1.kx fr.kx, l.2.2.2.2.2.1, frC.lg l.2.2.2.2.2.2.1 fr, l.2.2.2.2.2.2.2⟩
/-- changed, turned, undone, and at the image again -/
theorem law_465 (hsc : sc.1 ≤ 260) (h1 : 1 ≤ g) (h2 : g ≤ 7) (l : LSt K G Gs F0 F1 x) : ok (f_L_law_j465 sc (nI g) K) TQ := by
  obtain ⟨S, e0, e1, e5, Kq, k0, L, hs60, hD⟩ := l
  have okF0 : okF F0 := by rw [← e0]; exact (S.2.2 0 (by decide)).2
  have hd := okF0.2.2.1
  have h28 := tri28 hd
  have hpos : 0 < tri (F0.2.2.1 + 1) := Nat.lt_of_lt_of_le (by decide) (tri_mono (show 1 ≤ F0.2.2.1 + 1 by omega))
  unfold f_L_law_j465
  obtain ⟨v40, ev40⟩ := cell_ok hsc 40 (by decide)
  obtain ⟨v41, ev41⟩ := cell_ok hsc 41 (by decide)
  obtain ⟨v42, ev42⟩ := cell_ok hsc 42 (by decide)
  obtain ⟨t, ht, et⟩ := pick_ok v40 (m := tri (F0.2.2.1 + 1)) hpos (by omega)
  obtain ⟨r, hr, er⟩ := pick_ok v41 (m := 2000001) (by decide) (by decide)
  obtain ⟨a, ha, ea⟩ := pick_ok v42 (m := 6) (by decide) (by decide)
  obtain ⟨b, hb, eb⟩ := pick_ok (v42 >>> (4 &&& 31)) (m := 10) (by decide) (by decide)
  have o3 : f_X10_of 0 3 K = some (nI (tri (F0.2.2.1 + 1)), K) := by
    have := of3_q S (f := 0) (by decide)
    rw [e0] at this
    exact this
  have ev40 : f_L_cell sc 40 = some v40 := ev40
  have ev41 : f_L_cell sc 41 = some v41 := ev41
  have ev42 : f_L_cell sc 42 = some v42 := ev42
  have er : f_L_pick v41 2000001 = some (nI r) := er
  have ea : f_L_pick v42 6 = some (nI a) := ea
  have eb : f_L_pick (v42 >>> (4 &&& 31)) 10 = some (nI b) := eb
  have cf : f_X10_coefficient 0 (nI t) K = some (cfT F0 t, K) := by
    have := coef_q S (f := 0) (t := t) (by decide) (by rw [e0]; exact ht)
    rw [e0] at this
    exact this
  rw [ev40, Option.bind_some, o3, bd2_some, et, Option.bind_some, cf, bd2_some, ev41, Option.bind_some, er, Option.bind_some]
  -- changed
  refine ok_bd2 (change_q (f := 0) (t := t) S (by decide) (by rw [e0]; exact ht) L (chg_b hr).1 (chg_b hr).2) (fun r1 K1 ⟨a1, a2, a3, a4, a5, a6, a7, a8⟩ => ?_)
  simp only at a1 a2 a3 a4 a5 a6 a7 a8
  rw [e0] at a1 a2 a8
  rw [a1, if_neg (bd_ge (okF0.2.2.2 t (by omega))), ev42, Option.bind_some, ea, Option.bind_some, Option.bind_some, eb, Option.bind_some]
  have L1 : Lg K1 1 ((x + 1) % 16) := a4
  -- turned
  have u0 : upF G 0 (setT F0 t (nI r - 1000000)) 0 = setT F0 t (nI r - 1000000) := upF_s _ _ _
  refine ok_bd2 (turn_q (f := 0) a2 (by decide) L1 ha (show b ≤ 9 by omega)) (fun r2 K2 ⟨b1, b2, b3, b4, b5, b6, b7, b8, b9⟩ => ?_)
  simp only at b1 b2 b3 b4 b5 b6 b7 b8 b9
  rw [u0] at b1 b2 b8 b9
  have hk1 := okF0.1
  have hk2 := okF0.2.1
  have b1 : r2 = nI (10 * F0.1 + F0.2.1) := b1
  have b8 : rI K2 77 ((x + 1) % 16) = nI F0.1 := b8
  have b9 : rI K2 78 ((x + 1) % 16) = nI F0.2.1 := b9
  rw [b1, if_neg (nI_pos (by omega))]
  have hx := L.2.1
  have p1 : ((x + 1) % 16 + 1) % 16 = (x + 2) % 16 := by omega
  have p2 : ((x + 2) % 16 + 15) % 16 = (x + 1) % 16 := by omega
  have p3 : ((x + 1) % 16 + 15) % 16 = x := by omega
  have L2 : Lg K2 (1 + 1) ((x + 2) % 16) := by
    rw [← p1]
    exact b4
  -- undone
  refine ok_bd2 (undo_turn (f := 0) (a := F0.1) (b := F0.2.1) b2 (by decide) L2 (by rw [p2]; exact b6) (by rw [p2]; exact b7) (by rw [p2]; exact b8) (by rw [p2]; exact b9) (by omega) hk2) (fun r3 K3 ⟨c1, c2, c3, c4, c5⟩ => ?_)
  simp only at c1 c2 c3 c4 c5
  rw [p2] at c4
  rw [if_pos (show r3 = 1 from c1)]
  have S3 : St K3 6 (upF G 0 (setT F0 t (nI r - 1000000))) := c2.congr (fun f _ => by
    by_cases e : f = 0
    · subst e
      rw [upF_s, upF_s, upF_s]
      rfl
    · rw [upF_n e, upF_n e, upF_n e])
  have q5 : ∀ p, 75 ≤ p → p ≤ 78 → rI K3 p x = rI K1 p x := fun p p1 p2 => (c5 p p1 p2 x).trans (b5 p p1 p2 x (by omega))
  refine ok_bd2 (undo_change (f := 0) (t := t) (v := F0.2.2.2 t) (m := 0) S3 (by decide) c4 (by rw [p3, q5 75 (by omega) (by omega)]; exact a6) (by rw [p3, q5 76 (by omega) (by omega)]; exact a7) (by rw [p3, q5 77 (by omega) (by omega)]; exact a8) (by omega) (okF0.2.2.2 t (by omega))) (fun r4 K4 ⟨d1, d2, d3, d4⟩ => ?_)
  simp only at d1 d2 d3 d4
  rw [if_pos (show r4 = 0 from d1)]
  rw [u0, setT_back] at d2
  have e4 : upF (upF G 0 (setT F0 t (nI r - 1000000))) 0 F0 0 = F0 := upF_s _ _ _
  have cf4 : f_X10_coefficient 0 (nI t) K4 = some (cfT F0 t, K4) := by
    have := coef_q d2 (f := 0) (t := t) (by decide) (by rw [e4]; exact ht)
    rw [e4] at this
    exact this
  rw [cf4, bd2_some, if_pos rfl]
  -- the image again
  have fl5 : ∀ {A B : pq_H}, FL 0 A B → (∀ p, (6 ≤ p ∧ p < 12) ∨ (18 ≤ p ∧ p < 24) → ∀ k, rI B p k = rI A p k) ∧ rI B 56 4 = rI A 56 4 := fun l => ⟨(l.kx5 (by decide)).1, (l.kx5 (by decide)).2.1⟩
  have Kq4 : Kp K4 2 Gs := ((((Kq.mono (fl5 a3).1 (fl5 a3).2).mono (fl5 b3).1 (fl5 b3).2).mono (fl5 c3).1 (fl5 c3).2).mono (fl5 d3).1 (fl5 d3).2)
  refine ok_bd2 (back_q Kq4) (fun r5 K5 ⟨g1, g2, g3⟩ => ?_)
  simp only at g1 g2 g3
  have cf5 : f_X10_coefficient 0 (nI t) K5 = some (cfT F0 t, K5) := by
    have := coef_q g2 (f := 0) (t := t) (by decide) (by rw [k0]; exact ht)
    rw [k0] at this
    exact this
  rw [if_pos (show r5 = 2 from g1), count0_q g2, Option.bind_some, if_pos (show nI 2 = 2 from rfl), cf5, bd2_some, if_pos rfl]
  refine ok_bd2 (undo_no g2 g3) (fun r6 K6 ⟨m1, m2⟩ => ?_)
  simp only at m1 m2
  rw [if_pos m1]
  refine ok_bd2 (lifts_ok (f := 0) m2 (by decide) h1 h2) (fun r7 K7 ⟨n1, _⟩ => ?_)
  simp only at n1
  rw [if_pos n1]
  exact ok_some rfl
theorem num7 (n p : Nat) : num 7 n p = p := rfl
theorem plc7 (n : Nat) : plc 7 n = tri (n + 1) := rfl
theorem law_393 (hsc : sc.1 ≤ 260) (h1 : 1 ≤ g) (h2 : g ≤ 7) (l : LSt K G Gs F0 F1 x) : ok (f_L_law_j393 sc (nI g) K) TQ := by
  have hs60 := l.2.2.2.2.2.2.2.1
  have hD := l.2.2.2.2.2.2.2.2
  unfold f_L_law_j393
  refine lp_forH (fun i K' => frC K K') 4 ?_ ?_ 1000 0 K (by omega) (by omega) (frC.rf K)
  · intro m K1 w hm fr hw
    unfold f_L_law_l396
    rw [if_neg (show ¬ (4 : Int32) ≤ nI m from nI_ge (b := 4) hm (by omega))]
    refine lp_forH (fun i K' => frC K K') 6 ?_ ?_ 1000 0 K1 (by omega) (by omega) fr
    · intro t K2 w2 ht fr2 hw2
      have l2 := l.frC fr2
      have S2 := l2.1
      have e0 := l2.2.1
      have e5 := l2.2.2.2.1
      have o3 : f_X10_of 5 3 K2 = some (nI (tri (F0.2.2.1 + 1 + 1)), K2) := by
        have := of3_q S2 (f := 5) (by decide)
        rw [e5] at this
        exact this
      unfold f_L_law_l405
      rw [if_neg (show ¬ (6 : Int32) ≤ nI t from nI_ge (b := 6) ht (by omega)), o3, bd2_some]
      have b1 := tri_b (show F0.2.2.1 + 1 + 1 ≤ 40 by omega)
      refine ok_ite (fun _ => ?_) (fun z => ?_)
      · unfold f_L_law_j453
        rw [nI_1]
        exact hw2 K2 fr2
      have htt : t < tri (F0.2.2.1 + 1 + 1) := Nat.not_le.mp fun y => z (le_nIn y (by omega))
      have hm1 := tri_mono (show F0.2.2.1 + 1 + 1 ≤ F0.2.2.1 + (m + 1) + 1 by omega)
      have hm2 := tri_mono (show F0.2.2.1 + 1 + 1 ≤ F0.2.2.1 + 1 + m + 1 by omega)
      rw [nI_1]
      refine ok_bd2 (lifted_q (f := 0) (g := 7) (m := m + 1) (t := t) S2 (by decide) (by decide) (by decide) (by omega) (by rw [e0, plc7]; omega)) (fun r K3 ⟨a1, a2⟩ => ?_)
      simp only at a1 a2
      refine ok_bd2 (lifted_q (f := 5) (g := 7) (m := m) (t := t) (S2.frC a1) (by decide) (by decide) (by decide) (by omega) (by rw [e5, plc7]; show t < tri (F0.2.2.1 + 1 + m + 1); omega)) (fun r' K4 ⟨b1, b2⟩ => ?_)
      simp only at b1 b2
      rw [e0] at a2
      rw [e5] at b2
      have eq : r = r' := by
        rw [a2, b2, num7, num7]
        obtain ⟨s, k, hs, hk, rfl⟩ := tri_exD htt
        rw [Wt_eq hk, Wt_eq hk]
        exact (rzN_li hs60 m s k (by omega) hk).symm
      rw [if_pos eq]
      unfold f_L_law_j453
      rw [nI_1]
      exact hw2 K4 ((fr2.tr a1).tr b1)
    · intro K2 w2 fr2
      unfold f_L_law_l405 f_L_law_j459
      rw [if_pos (by decide), nI_1]
      exact hw K2 fr2
  · intro K1 w fr
    unfold f_L_law_l396
    rw [if_pos (by decide)]
    exact law_465 hsc h1 h2 (l.frC fr)
theorem law_336 (hsc : sc.1 ≤ 260) (h1 : 1 ≤ g) (h2 : g ≤ 7) (l : LSt K G Gs F0 F1 x) : ok (f_L_law_j336 sc (nI g) K) TQ := by
  have hs60 := l.2.2.2.2.2.2.2.1
  have hD := l.2.2.2.2.2.2.2.2
  have e0 := l.2.1
  have e5 := l.2.2.2.1
  unfold f_L_law_j336
  refine ok_bd2 (least_q (f := 0) (g := 7) (q := 0) l.1 (by decide) (by decide) (by decide) (by decide)) (fun r1 K1 ⟨a1, a2⟩ => ?_)
  refine ok_bd2 (least_q (f := 5) (g := 7) (q := 0) (l.1.frC a1) (by decide) (by decide) (by decide) (by decide)) (fun r2 K2 ⟨b1, b2⟩ => ?_)
  simp only at a1 a2 b1 b2
  rw [e0] at a2
  rw [e5] at b2
  have c1 := least_c (by decide) (by decide) (by decide) a2
  have c2 := least_c (by decide) (by decide) (by decide) b2
  have li : ∀ n, n ≤ 12 → (clZ (liF F0) 7 0 n ↔ clZ F0 7 0 (n + 1)) := fun n hn => clZ_li hs60 hn
  have l2 := (l.frC a1).frC b1
  have go := law_393 hsc h1 h2 l2
  unfold f_L_law_j374
  rcases c1 with ⟨d, d1, d2, d3, d4⟩ | ⟨d1, d2⟩
  · subst d2
    rw [if_neg (nI_pos (by omega)), if_pos (nI_pos' (show d < 2 ^ 31 by omega))]
    have e : r2 = (if 0 < nI d - 1 then nI d - 1 else 0) := by
      have want : r2 = nI (d - 1) := by
        have up : clZ F0 7 0 (d - 1 + 1) := by
          by_cases z : d = 0
          · subst z; exact clZ_up (by decide) d3
          · rw [show d - 1 + 1 = d by omega]; exact d3
        have hc : clZ (liF F0) 7 0 (d - 1) := (li (d - 1) (by omega)).mpr up
        rcases c2 with ⟨c, k1, k2, k3, k4⟩ | ⟨-, k2⟩
        · have le : c ≤ d - 1 := Nat.not_lt.mp fun y => k4 _ y hc
          have ge : d ≤ c + 1 := Nat.not_lt.mp fun y => d4 (c + 1) y ((li c k1).mp k3)
          rw [k2, show c = d - 1 by omega]
        · exact absurd hc (k2 _ (by omega))
      rw [want]
      by_cases z : d = 0
      · subst z; decide
      · rw [i1, pk_sub (by omega)]
        by_cases y : d = 1
        · subst y; decide
        · rw [if_pos (show (0 : Int32) < nI (d - 1) from nI_lt (a := 0) (by omega) (by omega))]
    rw [if_pos e]
    exact go
  · subst d1
    rw [if_pos (by decide), if_neg (by decide)]
    rcases c2 with ⟨c, k1, k2, k3, k4⟩ | ⟨k1, -⟩
    · have c12 : c = 12 := by
        have : ¬ c + 1 ≤ 12 := fun y => d2 (c + 1) y ((li c k1).mp k3)
        omega
      subst k2 c12
      rw [if_neg (by decide), if_pos (by decide)]
      exact go
    · subst k1
      rw [if_pos (by decide)]
      exact go
/-- values at triples -/
theorem law_165 (hsc : sc.1 ≤ 260) (h1 : 1 ≤ g) (h2 : g ≤ 7) (l : LSt K G Gs F0 F1 x) (v2 : ∀ a b c, valF (G 2) a b c = valF F0 a b c + valF F1 a b c) (v3 : ∀ a b c, valF (G 3) a b c = valF F0 a b c * valF F1 a b c) (v4 : ∀ a b c, valF (G 4) a b c = -(valF F0 a b c + valF F1 a b c)) : ok (lp (fun _ _ => none) (f_L_law_l165 sc (nI g)) 1000 0 K) TQ := by
  have hs60 := l.2.2.2.2.2.2.2.1
  refine lp_forH (fun i K' => frC K K') 5 ?_ ?_ 1000 0 K (by omega) (by omega) (frC.rf K)
  · intro k K1 w hk fr hw
    unfold f_L_law_l165
    rw [if_neg (show ¬ (5 : Int32) ≤ nI k from nI_ge (b := 5) hk (by omega)), show (31 : Int32) + nI k = nI (31 + k) from nI_add 31 k]
    obtain ⟨v, ev⟩ := cell_ok hsc (31 + k) (by omega)
    obtain ⟨a, ha, ea⟩ := pick_ok v (m := 13) (by decide) (by decide)
    obtain ⟨b, hb, eb⟩ := pick_ok (v >>> (4 &&& 31)) (m := 13) (by decide) (by decide)
    obtain ⟨c, hc, ec⟩ := pick_ok (v >>> (8 &&& 31)) (m := 13) (by decide) (by decide)
    have ea : f_L_pick v 13 = some (nI a) := ea
    have eb : f_L_pick (v >>> (4 &&& 31)) 13 = some (nI b) := eb
    have ec : f_L_pick (v >>> (8 &&& 31)) 13 = some (nI c) := ec
    rw [ev, Option.bind_some, ea, Option.bind_some, eb, Option.bind_some, ec, Option.bind_some]
    have val : ∀ {H : pq_H} (f : Nat), f < 6 → frC K H → ok (f_X10_value (nI f) (nI a) (nI b) (nI c) H) (fun r => frC K r.2 ∧ r.1 = valF (G f) (nI a) (nI b) (nI c)) := fun f hf fr => ok_mono (value_q (l.1.frC fr) hf (by omega) (by omega) (by omega)) (fun r hr => ⟨fr.tr hr.1, hr.2⟩)
    refine ok_bd2 (val 0 (by decide) fr) (fun r0 H0 ⟨x0, y0⟩ => ?_)
    refine ok_bd2 (val 1 (by decide) x0) (fun r1 H1 ⟨x1, y1⟩ => ?_)
    refine ok_bd2 (val 2 (by decide) x1) (fun r2 H2 ⟨x2, y2⟩ => ?_)
    simp only at x0 y0 x1 y1 x2 y2
    rw [l.2.1] at y0
    rw [l.2.2.1] at y1
    rw [if_pos (show r2 = r0 + r1 by rw [y2, v2, y0, y1])]
    refine ok_bd2 (val 3 (by decide) x2) (fun r3 H3 ⟨x3, y3⟩ => ?_)
    simp only at x3 y3
    rw [if_pos (show r3 = r0 * r1 by rw [y3, v3, y0, y1])]
    refine ok_bd2 (val 4 (by decide) x3) (fun r4 H4 ⟨x4, y4⟩ => ?_)
    simp only at x4 y4
    rw [if_pos (show r4 = -r0 - r1 by rw [y4, v4, y0, y1]; grind)]
    refine ok_bd2 (val 5 (by decide) x4) (fun r5 H5 ⟨x5, y5⟩ => ?_)
    simp only at x5 y5
    rw [l.2.2.2.1] at y5
    rw [if_pos (show r5 = r0 * (nI a + nI b + nI c).toInt64 by rw [y5, y0]; exact val_lift (by omega) (by omega) (by omega) (lift_r hs60)), nI_1]
    exact hw H5 x5
  · intro K1 w fr
    unfold f_L_law_l165
    rw [if_pos (by decide)]
    exact law_336 hsc h1 h2 (l.frC fr)
end LAWP
