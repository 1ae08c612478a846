section MAIN
theorem law_main (sc : Nat × (Nat → Int32)) (hsc : sc.1 ≤ 260) : ok (f_L_law sc hC0) TQ := by
  have S0 : St hC0 0 (fun _ => (0, 0, 0, T0)) := ⟨by decide, rfl, fun f hf => absurd hf (Nat.not_lt_zero _)⟩
  unfold f_L_law
  obtain ⟨v0, ev0⟩ := cell_ok hsc 0 (by decide)
  obtain ⟨D, hD, eD⟩ := pick_ok v0 (m := 4) (by decide) (by decide)
  obtain ⟨v30, ev30⟩ := cell_ok hsc 30 (by decide)
  obtain ⟨g0, hg0, eg0⟩ := pick_ok v30 (m := 7) (by decide) (by decide)
  have ev0 : f_L_cell sc 0 = some v0 := ev0
  have eD : f_L_pick v0 4 = some (nI D) := eD
  have ev30 : f_L_cell sc 30 = some v30 := ev30
  have eg0 : f_L_pick v30 7 = some (nI g0) := eg0
  rw [ev0, Option.bind_some, eD, Option.bind_some]
  -- two forms come
  refine ok_bd2 (comes_ok (at' := 1) (D := D) (x := 0) hsc (by decide) (by omega) S0 (by decide) rfl (by decide) rfl) (fun r H1 ⟨a1, F0, a2, a3, a4, a5, y1, hy1, a6⟩ => ?_)
  simp only at a1 a4 a5 a6
  rw [if_pos a1]
  refine ok_bd2 (comes_ok (at' := 12) (D := D) (x := y1) hsc (by decide) (by omega) a4 (by decide) a5 hy1 a6) (fun r H2 ⟨b1, F1, b2, b3, b4, b5, b6⟩ => ?_)
  simp only at b1 b4 b5 b6
  rw [if_pos b1]
  obtain ⟨Gs, S2, k0, k1⟩ : ∃ Gs, St H2 2 Gs ∧ Gs 0 = F0 ∧ Gs 1 = F1 := ⟨_, b4, by rw [upF_n (by decide), upF_s], upF_s _ _ _⟩
  clear b4
  rw [ev30, Option.bind_some, eg0, Option.bind_some, show (1 : Int32) + nI g0 = nI (1 + g0) from nI_add 1 g0]
  obtain ⟨g, hg, h1, h2⟩ : ∃ g, g = 1 + g0 ∧ 1 ≤ g ∧ g ≤ 7 := ⟨_, rfl, by omega, by omega⟩
  rw [← hg]
  clear hg
  -- lifted
  refine ok_bd2 (lifts_ok (f := 0) S2 (by decide) h1 h2) (fun r H3 ⟨c1, c2⟩ => ?_)
  simp only at c1 c2
  rw [if_pos c1]
  refine ok_bd2 (lifts_ok (f := 1) (g := 7) (S2.frC c2) (by decide) (by decide) (by decide)) (fun r H4 ⟨d1, d2⟩ => ?_)
  simp only at d1 d2
  rw [if_pos d1]
  have f4 := c2.tr d2
  have S4 := S2.frC f4
  have z4 : rI H4 61 1 = 0 := (f4.1 61 (by omega) 1).trans b5
  have y4 : ∃ y, y < 16 ∧ rI H4 74 5 = nI y := by
    obtain ⟨y, y1, y2⟩ := b6
    exact ⟨y, y1, (f4.1 74 (by omega) 5).trans y2⟩
  -- read again
  refine ok_bd2 (reads_ok (f := 0) S4 (by decide) (by rw [k0]; exact a3) z4 y4) (fun r H5 ⟨e1, S5, z5, y5⟩ => ?_)
  simp only at e1 S5 z5 y5
  rw [if_pos e1]
  refine ok_bd2 (reads_ok (f := 1) S5 (by decide) (by rw [k1]; exact b3) z5 y5) (fun r H6 ⟨e2, S6, z6, y6⟩ => ?_)
  simp only at e2 S6 z6 y6
  rw [if_pos e2]
  -- walls
  refine ok_bd2 (lwalls_ok hsc H6) (fun r H7 ⟨w1, w2⟩ => ?_)
  simp only at w1 w2
  rw [if_pos w1]
  have S7 := S6.fw w2
  -- the image
  refine ok_bd2 (image_q S7) (fun r H8 ⟨i1, S8, Kp8, i4⟩ => ?_)
  simp only at i1 S8 Kp8 i4
  rw [if_pos (show r = 2 from i1)]
  have y8 : ∃ y, y < 16 ∧ rI H8 74 5 = nI y := by
    obtain ⟨y, y1, y2⟩ := y6
    exact ⟨y, y1, (i4 74 (Or.inr rfl) 5).trans ((w2 74 5 (by decide) (by decide)).trans y2)⟩
  have hdd : F1.2.2.1 = F0.2.2.1 := b2.trans a2.symm
  have hD3 : F0.2.2.1 ≤ 3 := by omega
  -- made of others
  have sr := sum_r hdd a3 b3
  refine ok_bd2 (sum_q (f := 0) (f' := 1) S8 (by decide) (by decide) (by decide) (by rw [k0, k1]; exact hdd) (by rw [k0, k1]; exact sr)) (fun r H9 ⟨m1, m2, m3, m4⟩ => ?_)
  simp only at m1 m2 m3
  rw [k0, k1] at m2
  rw [if_pos (show r = 2 from m1)]
  obtain ⟨G3, S9, s0, s1, s2⟩ : ∃ G, St H9 3 G ∧ G 0 = F0 ∧ G 1 = F1 ∧ G 2 = newF F0.2.2.1 (Wt (fun s k => (cfV F0 s k).toInt64 + (cfV F1 s k).toInt64)) := ⟨_, m2, (upF_n (by decide)).trans k0, (upF_n (by decide)).trans k1, upF_s _ _ _⟩
  clear m2
  have pr := fun t (_ : t < tri (F0.2.2.1 + F1.2.2.1 + 1)) => prod_r a3 b3 hD3 (show F1.2.2.1 ≤ 3 by omega) t
  refine ok_bd2 (prod_q (f := 0) (f' := 1) S9 (by decide) (by decide) (by decide) (by rw [s0, s1]; omega) (by rw [s0, s1]; exact pr)) (fun r H10 ⟨n1, n2, n3, n4⟩ => ?_)
  simp only at n1 n2 n3
  rw [s0, s1] at n2
  rw [if_pos (show r = 3 from n1)]
  obtain ⟨G4, S10, p0, p1, p2, p3⟩ : ∃ G, St H10 4 G ∧ G 0 = F0 ∧ G 1 = F1 ∧ G 2 = newF F0.2.2.1 (Wt (fun s k => (cfV F0 s k).toInt64 + (cfV F1 s k).toInt64)) ∧ G 3 = newF (F0.2.2.1 + F1.2.2.1) (pout F0 F1 (tri (F0.2.2.1 + 1))) := ⟨_, n2, (upF_n (by decide)).trans s0, (upF_n (by decide)).trans s1, (upF_n (by decide)).trans s2, upF_s _ _ _⟩
  clear n2
  obtain ⟨FS, eFS⟩ : ∃ FS, FS = newF F0.2.2.1 (Wt (fun s k => (cfV F0 s k).toInt64 + (cfV F1 s k).toInt64)) := ⟨_, rfl⟩
  have sS : smB 120 FS := by rw [eFS]; exact sum_sm hdd a3 b3
  have vS : ∀ a b c, valF FS a b c = valF F0 a b c + valF F1 a b c := fun a b c => by rw [eFS]; exact val_sum hdd sr a b c
  rw [← eFS] at p2
  clear eFS
  have nr := neg_r sS
  refine ok_bd2 (neg_q (f := 2) S10 (by decide) (by decide) (by rw [p2]; exact nr)) (fun r H11 ⟨q1, q2, q3, q4⟩ => ?_)
  simp only at q1 q2 q3
  rw [p2] at q2
  rw [if_pos (show r = 4 from q1)]
  obtain ⟨G5, S11, t0, t1, t2, t3, t4⟩ : ∃ G, St H11 5 G ∧ G 0 = F0 ∧ G 1 = F1 ∧ G 2 = FS ∧ G 3 = newF (F0.2.2.1 + F1.2.2.1) (pout F0 F1 (tri (F0.2.2.1 + 1))) ∧ G 4 = newF FS.2.2.1 (Wt (fun s k => -(cfV FS s k).toInt64)) := ⟨_, q2, (upF_n (by decide)).trans p0, (upF_n (by decide)).trans p1, (upF_n (by decide)).trans p2, (upF_n (by decide)).trans p3, upF_s _ _ _⟩
  clear q2
  have lr := lift_r a3
  refine ok_bd2 (lift_q (f := 0) (v := 1) S11 (by decide) (by decide) (by decide) (by rw [t0]; omega) (by rw [t0]; exact lr)) (fun r H12 ⟨u1, u2, u3, u4⟩ => ?_)
  simp only at u1 u2 u3 u4
  rw [t0] at u2
  rw [if_pos (show r = 5 from u1)]
  obtain ⟨G6, S12, x0, x1, x2, x3, x4, x5⟩ : ∃ G, St H12 6 G ∧ G 0 = F0 ∧ G 1 = F1 ∧ G 2 = FS ∧ G 3 = newF (F0.2.2.1 + F1.2.2.1) (pout F0 F1 (tri (F0.2.2.1 + 1))) ∧ G 4 = newF FS.2.2.1 (Wt (fun s k => -(cfV FS s k).toInt64)) ∧ G 5 = liF F0 := ⟨_, u2, (upF_n (by decide)).trans t0, (upF_n (by decide)).trans t1, (upF_n (by decide)).trans t2, (upF_n (by decide)).trans t3, (upF_n (by decide)).trans t4, upF_s _ _ _⟩
  clear u2
  have Kx12 : Kx H8 H12 := (((m3.tr n3).tr q3).tr u3)
  refine ok_bd2 (on_full (f := 0) S12 (by decide) h1 h2) (fun r H13 ⟨o1, S13, o3, o4⟩ => ?_)
  simp only at o1 S13 o3 o4
  rw [if_pos o1]
  have Kp13 : Kp H13 2 Gs := Kp8.kx (Kx12.tr o3)
  obtain ⟨y, hy, ey⟩ := y8
  have L13 : Lg H13 0 y := ⟨by decide, hy, o4.trans u4, ((Kx12.tr o3).2.2.2).trans ey⟩
  exact law_165 hsc h1 h2 ⟨S13, x0, x1, x5, Kp13, k0, L13, a3, hD3⟩ (fun a b c => by rw [x2]; exact vS a b c) (fun a b c => by rw [x3]; exact val_prod pr a b c) (fun a b c => by rw [x4, val_neg nr, vS])
theorem law_true (sc : Nat × (Nat → Int32)) (hsc : sc.1 ≤ 260) : ∃ hh, f_L_law sc hC0 = some (true, hh) := by
  obtain ⟨⟨b, hh⟩, e, p⟩ := law_main sc hsc
  have p : b = true := p
  subst p
  exact ⟨hh, e⟩
end MAIN
