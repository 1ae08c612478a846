section MEMBERC
variable {h : pq_H} {m n p D : Nat} {L : Nat → Int32}
theorem l19_step {neg : Bool} {a b : Int32} {w : Int32 → pq_H → Option (Bool × pq_H)} {j : Nat} (hj : j < 3) : f_X2_readMember_l19 n neg a b w (nI j) h = bd2 (f_X2_readPower (nI j) h) fun r28 h28 => if r28 = true then w (nI (j + 1)) h28 else some (false, h28) := by
  unfold f_X2_readMember_l19
  rw [if_neg (show ¬ (3 : Int32) ≤ nI j from nI_ge (b := 3) hj (by omega))]
  simp only [nI_1]
theorem l19_end {neg : Bool} {a b : Int32} {w : Int32 → pq_H → Option (Bool × pq_H)} : f_X2_readMember_l19 n neg a b w (nI 3) h = f_X2_readMember_j42 n neg a b h := by
  unfold f_X2_readMember_l19
  rw [if_pos (by decide)]
theorem j68_c {neg : Bool} {v eb ec : Nat} (hn : n < 6) (h3 : rI h 63 3 = nI D) (h4 : rI h 63 4 = nI D) (b1 : rI h 64 1 = nI eb) (b2 : rI h 64 2 = nI ec) (hb : eb + ec ≤ 6) : ok (f_X2_readMember_j68 n neg (nI v) h) (fun r => r.1 = true ∧ rI r.2 (n + 12) (tri (eb + ec) + ec) = rI h (n + 12) (tri (eb + ec) + ec) + sgn neg v ∧ ∀ P u, (P ≠ n + 12 ∨ u ≠ tri (eb + ec) + ec) → rI r.2 P u = rI h P u) := by
  have ht : tri (eb + ec) + ec < 28 := tri_28 hb (by omega)
  have one : ∀ x : Int32, ok (f_X2_readMember_j114 n (nI (tri (eb + ec) + ec)) (rI h (n + 12) (tri (eb + ec) + ec)) x h) (fun r => r.1 = true ∧ rI r.2 (n + 12) (tri (eb + ec) + ec) = rI h (n + 12) (tri (eb + ec) + ec) + x ∧ ∀ P u, (P ≠ n + 12 ∨ u ≠ tri (eb + ec) + ec) → rI r.2 P u = rI h P u) := fun x => by
    unfold f_X2_readMember_j114
    rw [inbN ht (by decide), gd_t, nI_clamp (by omega)]
    exact ok_some ⟨rfl, rI_same _ _ _ _, fun P u hp => rI_ne (by omega)⟩
  unfold f_X2_readMember_j68
  rw [h3, h4, if_pos (Int32.le_refl _), show inb 1 3 = true from inbN (i := 1) (by decide) (by decide), show inb 2 3 = true from inbN (i := 2) (by decide) (by decide), show (1 : Int32).toNatClampNeg = 1 from rfl, show (2 : Int32).toNatClampNeg = 2 from rfl, b1, b2, termOf_nI (by omega), gd_t, gd_t, inbN ht (by decide), gd_t, nI_clamp (by omega)]
  unfold sgn
  cases neg with
  | true => rw [if_pos rfl, if_pos rfl]; exact one _
  | false => rw [if_neg (by decide), if_neg (by decide)]; exact one _
theorem member_c {v ea eb ec : Nat} {neg : Bool} {nl la lb lc : List Int32} (hm : m ≤ 72) (hn : n < 6) (lT : TPC h m L) (rC : rR h 63 1 = some 61) (pC : rI h 63 2 = nI p) (fC : rI h 63 4 = -1 ∨ rI h 63 4 = nI D) (hD : ea + eb + ec = D) (hD6 : D ≤ 6) (nt : NT v nl) (pa : PT 0 ea la) (pb : PT 1 eb lb) (pc : PT 2 ec lc) (s : Seg m L p (nl ++ (la ++ (lb ++ lc)))) (ne : 0 < (nl ++ (la ++ (lb ++ lc))).length) (nx : Se (chr m L (-1) (p + (nl ++ (la ++ (lb ++ lc))).length))) : ok (f_X2_readMember n neg h) (fun r => r.1 = true ∧ rI r.2 63 2 = nI (p + (nl ++ (la ++ (lb ++ lc))).length) ∧ rI r.2 63 4 = nI D ∧ rI r.2 (n + 12) (tri (eb + ec) + ec) = rI h (n + 12) (tri (eb + ec) + ec) + sgn neg v ∧ (∀ u, u ≠ tri (eb + ec) + ec → rI r.2 (n + 12) u = rI h (n + 12) u) ∧ FR2 n h r.2) := by
  have sl := s.1
  obtain ⟨sN, s1⟩ := s.app
  obtain ⟨sA, s2⟩ := s1.app
  obtain ⟨sB, sC⟩ := s2.app
  have elen : p + (nl ++ (la ++ (lb ++ lc))).length = p + nl.length + la.length + lb.length + lc.length := by
    simp only [List.length_append]; omega
  rw [elen] at nx sl ⊢
  have ne : 0 < nl.length + la.length + lb.length + lc.length := by
    simp only [List.length_append] at ne; omega
  have x3 : Sc (chr m L (-1) (p + nl.length + la.length + lb.length)) := by
    rcases PT_hd pc sC with ⟨-, e⟩ | e
    · subst e; exact Or.inr nx
    · rw [e]; exact Or.inl rfl
  have x2 : Sb (chr m L (-1) (p + nl.length + la.length)) := by
    rcases PT_hd pb sB with ⟨-, e⟩ | e
    · subst e; exact Or.inr x3
    · rw [e]; exact Or.inl rfl
  have x1 : Sa (chr m L (-1) (p + nl.length)) := by
    rcases PT_hd pa sA with ⟨-, e⟩ | e
    · subst e; exact Or.inr x2
    · rw [e]; exact Or.inl rfl
  obtain ⟨lim, l1, l2, l3⟩ : ∃ lim, ((rI h 63 4 = -1 ∧ lim = 6) ∨ rI h 63 4 = nI lim) ∧ lim ≤ 6 ∧ D ≤ lim := by
    rcases fC with e | e
    · exact ⟨6, Or.inl ⟨e, rfl⟩, by omega, hD6⟩
    · exact ⟨D, Or.inr e, hD6, Nat.le_refl _⟩
  unfold f_X2_readMember
  refine ok_bd2 (number_c hm lT rC pC nt sN x1) (fun r6 h6 ⟨a1, a2, a3⟩ => ?_)
  simp only at a1 a2 a3
  subst a1
  rw [hl_d, pC, lp_4]
  obtain ⟨K, hK⟩ : ∃ K, K = wI h6 63 3 0 := ⟨_, rfl⟩
  rw [← hK]
  have kI : ∀ P k, (P ≠ 63 ∨ (k ≠ 2 ∧ k ≠ 3)) → rI K P k = rI h P k := fun P k hp => by rw [hK, rI_ne (by omega)]; exact a3.1 P k (by omega)
  have kR : ∀ P k, rR K P k = rR h P k := fun P k => by rw [hK]; exact a3.2 P k
  have k2 : rI K 63 2 = nI (p + nl.length) := by rw [hK, rI_ne (by omega)]; exact a2
  have k3 : rI K 63 3 = nI 0 := by rw [hK, rI_same]; rfl
  clear hK
  have lK : TPC K m L := lT.fr (fun P k hp => kI P k (by omega))
  rw [show (0 : Int32) = nI 0 from rfl, l19_step (by decide)]
  refine ok_bd2 (power_c (d := 0) hm (by decide) lK ((kR _ _).trans rC) k2 k3 (by rw [kI _ _ (by omega)]; exact l1) l2 (by omega) pa sA (Sb_97 x2) (Sa_94 (Or.inr x2))) (fun r H1 ⟨b1, b2, b3, b4, b5⟩ => ?_)
  simp only at b1 b2 b3 b4 b5
  subst b1
  rw [if_pos rfl, l19_step (by decide)]
  have lH1 : TPC H1 m L := lK.fr (fun P k hp => b5.1 P k (by omega) (by omega))
  have f1 : (rI H1 63 4 = -1 ∧ lim = 6) ∨ rI H1 63 4 = nI lim := by rw [b5.1 _ _ (by omega) (by omega), kI _ _ (by omega)]; exact l1
  refine ok_bd2 (power_c (d := 0 + ea) (j := 0 + 1) hm (by decide) lH1 ((b5.2 _ _).trans ((kR _ _).trans rC)) b2 b3 f1 l2 (by omega) pb sB (Sc_98 x3) (Sa_94 (Or.inr (Or.inr x3)))) (fun r H2 ⟨d1, d2, d3, d4, d5⟩ => ?_)
  simp only at d1 d2 d3 d4 d5
  subst d1
  rw [if_pos rfl, l19_step (by decide)]
  have lH2 : TPC H2 m L := lH1.fr (fun P k hp => d5.1 P k (by omega) (by omega))
  have f2 : (rI H2 63 4 = -1 ∧ lim = 6) ∨ rI H2 63 4 = nI lim := by rw [d5.1 _ _ (by omega) (by omega)]; exact f1
  refine ok_bd2 (power_c (d := 0 + ea + eb) (j := 0 + 1 + 1) hm (by decide) lH2 ((d5.2 _ _).trans ((b5.2 _ _).trans ((kR _ _).trans rC))) d2 d3 f2 l2 (by omega) pc sC (Se_99 nx) (Sa_94 (Or.inr (Or.inr (Or.inr nx))))) (fun r H3 ⟨g1, g2, g3, g4, g5⟩ => ?_)
  simp only at g1 g2 g3 g4 g5
  subst g1
  rw [if_pos rfl, l19_end]
  have fI : ∀ P k, (P ≠ 63 ∨ (k ≠ 2 ∧ k ≠ 3)) → P ≠ 64 → rI H3 P k = rI h P k := fun P k hp hq => ((g5.1 P k hp (by omega)).trans ((d5.1 P k hp (by omega)).trans (b5.1 P k hp (by omega)))).trans (kI P k hp)
  have fR : ∀ P k, rR H3 P k = rR h P k := fun P k => ((g5.2 P k).trans ((d5.2 P k).trans (b5.2 P k))).trans (kR P k)
  have e1 : rI H3 64 1 = nI eb := (g5.1 64 1 (by omega) (by omega)).trans d4
  have e2 : rI H3 64 2 = nI ec := g4
  have e3 : rI H3 63 3 = nI D := by rw [g3, show 0 + ea + eb + ec = D by omega]
  have e4 : rI H3 63 4 = rI h 63 4 := fI _ _ (by omega) (by omega)
  unfold f_X2_readMember_j42
  rw [g2, if_neg (show ¬ nI (p + nl.length + la.length + lb.length + lc.length) = nI p from fun z => by have := (ieq (by omega) (by omega)).mp z; omega), e4]
  have fin : ∀ H4, (∀ P k, (P ≠ 63 ∨ k ≠ 4) → rI H4 P k = rI H3 P k) → (∀ P k, rR H4 P k = rR H3 P k) → rI H4 63 4 = nI D → ok (f_X2_readMember_j68 n neg (nI v) H4) (fun r => r.1 = true ∧ rI r.2 63 2 = nI (p + nl.length + la.length + lb.length + lc.length) ∧ rI r.2 63 4 = nI D ∧ rI r.2 (n + 12) (tri (eb + ec) + ec) = rI h (n + 12) (tri (eb + ec) + ec) + sgn neg v ∧ (∀ u, u ≠ tri (eb + ec) + ec → rI r.2 (n + 12) u = rI h (n + 12) u) ∧ FR2 n h r.2) := fun H4 q1 q2 q3 => by
    obtain ⟨⟨r, H5⟩, ee, y1, y2, y3⟩ := j68_c (v := v) (neg := neg) hn ((q1 _ _ (by omega)).trans e3) q3 ((q1 _ _ (by omega)).trans e1) ((q1 _ _ (by omega)).trans e2) (show eb + ec ≤ 6 by omega)
    have yR : ∀ P k, rR H5 P k = rR H4 P k := by
      intro P k
      have := ee
      unfold f_X2_readMember_j68 f_X2_readMember_j114 at this
      rw [q3, (q1 63 3 (by omega)).trans e3, if_pos (Int32.le_refl _)] at this
      obtain ⟨-, this⟩ := gd_some this
      obtain ⟨-, this⟩ := gd_some this
      obtain ⟨-, this⟩ := gd_some this
      split at this
      · obtain ⟨-, this⟩ := gd_some this
        cases this; rfl
      · obtain ⟨-, this⟩ := gd_some this
        cases this; rfl
    simp only at y1 y2 y3
    refine ⟨(r, H5), ee, y1, ((y3 _ _ (by omega)).trans (q1 _ _ (by omega))).trans g2, (y3 _ _ (by omega)).trans q3, ?_, fun u hu => ((y3 _ _ (by omega)).trans (q1 _ _ (by omega))).trans (fI _ _ (by omega) (by omega)), fun P k p1 p2 p3 => ((y3 _ _ (by omega)).trans (q1 _ _ (by omega))).trans (fI _ _ (by omega) p2), fun P k => ((yR P k).trans (q2 P k)).trans (fR P k)⟩
    rw [y2, q1 _ _ (by omega), fI _ _ (by omega) (by omega)]
  rcases fC with e | e
  · rw [e, if_pos rfl, e3]
    exact fin _ (fun P k hp => rI_ne (by omega)) (fun _ _ => rfl) (rI_same _ _ _ _)
  · rw [e, if_neg (fun z => ch_no (k := 1) (c := D) (by omega) (by omega) (by omega) z.symm)]
    exact fin _ (fun P k hp => rfl) (fun _ _ => rfl) (e4.trans e)
end MEMBERC
