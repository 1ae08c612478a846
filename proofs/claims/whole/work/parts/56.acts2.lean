section ACTS2
theorem InvG_cut {k n m : Nat} {hC hM : pq_H} (i : InvG k m hC hM) (h : n ≤ k) : InvG n m (wI hC 56 3 (nI n)) (wI hM 0 5 (nI n)) := by
  obtain ⟨⟨a1, a2, a3, a4⟩, i2, i3, i4, i5, i6, i7⟩ := i
  refine ⟨⟨by omega, rI_same _ _ _ _, rI_same _ _ _ _, fun f hf => ?_⟩, i2.fr ?_ ?_ ?_ ?_, i3.fr ?_ ?_ ?_ ?_, i4.fr ?_ ?_, i5.fr ?_ ?_ ?_ ?_, i6.fr ?_ ?_ ?_ ?_, i7.fr ?_⟩
  case refine_1 =>
    obtain ⟨F, b1, b2, b3⟩ := a4 f (by omega)
    exact ⟨F, b1.fr (fun k => rI_ne (by omega)) (fun k => rI_ne (by omega)), b2.fr (rI_ne (by omega)) (rI_ne (by omega)) (rI_ne (by omega)) (fun t ht => rI_ne (by omega)), b3⟩
  all_goals (intros; first | exact rI_ne (by omega) | rfl)
theorem AJ.fr {s : Nat} {a b c d : pq_H} (h : AJ s a b) (f : AF a c b d) : AJ s c d := by
  intro j hj
  obtain ⟨w, x, y, q, a1, a2, a3, a4, a5, a6, a7, a8, a9, a10, a11, a12⟩ := h j hj
  exact ⟨w, x, y, q, a1, a2, a3, a4, (f.1 _ _ (by omega) (by omega)).trans a5, (f.1 _ _ (by omega) (by omega)).trans a6, (f.1 _ _ (by omega) (by omega)).trans a7, (f.1 _ _ (by omega) (by omega)).trans a8, (f.2 _ _ (by omega)).trans a9, (f.2 _ _ (by omega)).trans a10, (f.2 _ _ (by omega)).trans a11, (f.2 _ _ (by omega)).trans a12⟩
def PQ (n s : Nat) (a b : Int32 × pq_H) : Prop := (a.1 = -1 ∧ rI a.2 65 4 = nI s ∧ ∃ k M', InvG k n a.2 M' ∧ b = (nI s, wI M' 0 8 0)) ∨ (∃ q, q ≤ 72 ∧ a.1 = nI q ∧ b.1 = -2000 - nI q ∧ InvG n n a.2 b.2)
theorem perform2 {n s : Nat} {hC hM : pq_H} (i : InvG n n hC hM) (hs : s ≤ 9) (sC : rI hC 65 4 = nI s) (sM : rI hM 0 18 = nI s) (aj : AJ s hC hM) : ok2 (f_X6_perform hC) (lp (fun _ _ => none) (f_X11_acts_l30 (nI n)) 1000 0 hM) (PQ n s) := by
  unfold f_X6_perform
  rw [i.1.2.1]
  refine lp_gen2 (fun (w : Int32 → pq_H → Option (Int32 × pq_H)) (x : Int32 × pq_H) => w x.1 x.2) (fun (w : Int32 → pq_H → Option (Int32 × pq_H)) (x : Int32 × pq_H) => w x.1 x.2) (fun j x y => x.1 = nI j ∧ y.1 = nI j ∧ InvG (n + j) n x.2 y.2 ∧ rI x.2 65 4 = nI s ∧ rI y.2 0 18 = nI s ∧ AJ s x.2 y.2) s ?_ ?_ 1000 0 (0, hC) (0, hM) (by omega) (by omega) ⟨rfl, rfl, i, sC, sM, aj⟩
  · intro j x y w1 w2 hj ⟨k1, k2, k3, k4, k5, k6⟩ hw
    obtain ⟨x1, C⟩ := x
    obtain ⟨y1, M⟩ := y
    simp only at k1 k2 k3 k4 k5 k6
    subst k1 k2
    show ok2 (f_X6_perform_l7 (nI n) w1 (nI j) C) (f_X11_acts_l30 (nI n) w2 (nI j) M) (PQ n s)
    obtain ⟨w, x, y, q, a1, a2, a3, a4, a5, a6, a7, a8, a9, a10, a11, a12⟩ := k6 j hj
    unfold f_X6_perform_l7 f_X11_acts_l30 f_X6_perform_j40 f_X11_acts_j49
    rw [k4, k5, if_neg (nI_ge hj (by omega)), if_neg (nI_ge hj (by omega)), inbN (show j < 9 by omega) (by decide), inbN (show j < 16 by omega) (by decide), nI_clamp (by omega), a5, a6, a7]
    simp only [gd_t]
    rcases do2 k3 (by omega) a1 a2 a3 a9 a10 a11 with ⟨a, b, v, e1, e2, hv, iv, f⟩ | ⟨a, b, v, e1, e2, hv, iv, f⟩
    · rw [e1, e2, bd2_some, bd2_some, if_pos rfl, if_neg hv, nI_1]
      exact hw (_, _) (_, _) ⟨rfl, rfl, iv, (f.1 _ _ (by omega) (by omega)).trans k4, (f.2 _ _ (by omega)).trans k5, k6.fr f⟩
    · have iv2 := InvG_cut iv (show n ≤ n + j by omega)
      have q1 : rI (wI a 56 3 (nI n)) 67 j = nI q := by rw [rI_ne (by omega), f.1 _ _ (by omega) (by omega)]; exact a8
      have q2 : rI (wI b 0 5 (nI n)) 12 j = nI q := by rw [rI_ne (by omega), f.2 _ _ (by omega)]; exact a12
      rw [e1, e2, bd2_some, bd2_some, if_neg (by decide), if_pos hv, hl_d, hl_d, q1, q2]
      exact ok2_some (Or.inr ⟨q, a4, rfl, rfl, iv2⟩)
  · intro x y w1 w2 ⟨k1, k2, k3, k4, k5, k6⟩
    obtain ⟨x1, C⟩ := x
    obtain ⟨y1, M⟩ := y
    simp only at k1 k2 k3 k4 k5 k6
    subst k1 k2
    show ok2 (f_X6_perform_l7 (nI n) w1 (nI s) C) (f_X11_acts_l30 (nI n) w2 (nI s) M) (PQ n s)
    unfold f_X6_perform_l7 f_X11_acts_l30 f_X11_acts_j71
    rw [k4, k5, if_pos (le_nIn (Nat.le_refl _) (by omega)), if_pos (le_nIn (Nat.le_refl _) (by omega)), hl_d, rI_ne (by omega), k5]
    exact ok2_some (Or.inl ⟨rfl, k4, n + s, M, k3, rfl⟩)
theorem InvG_acts {n m : Nat} {hC hM hC' hM' : pq_H} (i : InvG n m hC hM) (c1 : ∀ P k, (P < 65 ∨ 69 < P) → (P ≠ 61 ∨ k ≠ 1) → rI hC' P k = rI hC P k) (c2 : rI hC' 61 1 = 0) (c3 : ∀ k, rR hC' 72 k = rR hC 72 k) (m1 : ∀ P k, (P ≠ 0 ∨ (k ≠ 11 ∧ k ≠ 12 ∧ k ≠ 18)) → (P < 11 ∨ 14 < P) → rI hM' P k = rI hM P k) (m2 : rI hM' 0 11 = 0) : InvG n m hC' hM' := by
  obtain ⟨⟨a1, a2, a3, a4⟩, i2, i3, i4, i5, i6, i7⟩ := i
  refine ⟨⟨a1, ?_, ?_, fun f hf => ?_⟩, i2.fr ?_ ?_ ?_ ?_, ⟨0, by omega, c2, m2, fun i hi => by omega⟩, i4.fr ?_ ?_, i5.fr ?_ ?_ ?_ ?_, i6.fr ?_ ?_ ?_ ?_, i7.fr c3⟩
  case refine_1 => rw [c1 _ _ (by omega) (by omega)]; exact a2
  case refine_2 => rw [m1 _ _ (by omega) (by omega)]; exact a3
  case refine_3 =>
    obtain ⟨F, b1, b2, b3⟩ := a4 f hf
    exact ⟨F, b1.fr (fun k => c1 _ _ (by omega) (by omega)) (fun k => c1 _ _ (by omega) (by omega)), b2.fr (m1 _ _ (by omega) (by omega)) (m1 _ _ (by omega) (by omega)) (m1 _ _ (by omega) (by omega)) (fun t ht => m1 _ _ (by omega) (by omega)), b3⟩
  all_goals first | (intros; exact c1 _ _ (by omega) (by omega)) | (intros; exact m1 _ _ (by omega) (by omega))
theorem a_acts : Ag_acts Inv := by
  intro hC hM i
  obtain ⟨n, iG⟩ := id i
  obtain ⟨-, -, ⟨m, hm, l1, l2, l3⟩, -⟩ := id iG
  unfold f_X10_acts f_X11_acts f_X0_read f_X11_readsActs
  rw [hl_d (wR hC 65 5 (some 61)), hl_d, hl_d, hl_d]
  generalize hB : wI (wI (wR hC 65 5 (some 61)) 65 6 0) 65 4 0 = B
  generalize hB' : wI (wI hM 0 18 0) 0 12 0 = B'
  have cB : ∀ P k, (P < 65 ∨ 69 < P) → rI B P k = rI hC P k := fun P k h => by
    rw [← hB, rI_ne (by omega), rI_ne (by omega)]; rfl
  have mB : ∀ P k, (P ≠ 0 ∨ (k ≠ 12 ∧ k ≠ 18)) → rI B' P k = rI hM P k := fun P k h => by
    rw [← hB', rI_ne (by omega), rI_ne (by omega)]
  have lc : TPC B m (fun i => rI hC 62 i) := ⟨(cB _ _ (by omega)).trans l1, fun i hi => cB _ _ (by omega)⟩
  have lm : TPM B' m (fun i => rI hC 62 i) := ⟨(mB _ _ (by omega)).trans l2, fun i hi => (mB _ _ (by omega)).trans (l3 i hi)⟩
  have rB : rR B 65 5 = some 61 := by rw [← hB]; exact rR_same _ _ _ _
  have rB2 : ∀ k, rR B 72 k = rR hC 72 k := fun k => by rw [← hB]; exact rR_ne (by omega)
  obtain ⟨⟨a, C⟩, ⟨b, M⟩, e1, e2, g1, g2, p', w1, w2, w3⟩ := reads2 (B := B) (B' := B') (fun _ => none) (fun _ _ => none) hm 1000 0 0 B B' (by omega) (by omega) lc lm rB (by rw [← hB, rI_ne (by omega), rI_same]; rfl) (by rw [← hB', rI_same]; rfl) (by rw [← hB, rI_same]; rfl) (by rw [← hB', rI_ne (by omega), rI_same]; rfl) (fun j hj => by omega) ⟨fun _ _ _ => rfl, fun _ _ => rfl⟩ (fun _ _ _ _ => rfl) (by omega)
  clear hB hB'
  simp only at g1 g2 w2 w3
  rw [e1, e2, bd2_some, bd2_some, hl_d (wI C 61 1 0), hl_d (wI M 0 11 0)]
  have iv : InvG n n (wI C 61 1 0) (wI M 0 11 0) := InvG_acts iG (fun P k h h' => by rw [rI_ne (by omega), g1.1 P k (by omega)]; exact cB P k h) (rI_same _ _ _ _) (fun k => (g1.2 72 k).trans (rB2 k)) (fun P k h h' => by rw [rI_ne (by omega), g2 P k (by omega) h']; exact mB P k (by omega)) (rI_same _ _ _ _)
  rcases w3 with ⟨rfl, rfl⟩ | ⟨rfl, rfl, s, hs, s1, s2, aj⟩
  · rw [if_neg (fun q => ch_no (k := 1) (c := p') (by omega) (by omega) (by omega) q.symm), if_neg (by decide), rI_ne (by omega), w2]
    exact ag_c _ _ _ rfl rfl ⟨n, iv⟩
  · rw [if_pos rfl, if_pos rfl, iv.1.2.2.1]
    obtain ⟨⟨x, C'⟩, ⟨y, M'⟩, f1, f2, pq⟩ := perform2 iv hs (by rw [rI_ne (by omega)]; exact s1) (by rw [rI_ne (by omega)]; exact s2) (fun j hj => by
      obtain ⟨w, x, y, q, a1, a2, a3, a4, a5, a6, a7, a8, a9, a10, a11, a12⟩ := aj j hj
      exact ⟨w, x, y, q, a1, a2, a3, a4, (rI_ne (by omega)).trans a5, (rI_ne (by omega)).trans a6, (rI_ne (by omega)).trans a7, (rI_ne (by omega)).trans a8, (rI_ne (by omega)).trans a9, (rI_ne (by omega)).trans a10, (rI_ne (by omega)).trans a11, (rI_ne (by omega)).trans a12⟩)
    rw [f1, f2, bd2_some]
    rcases pq with ⟨q1, q2, k, M2, q3, q4⟩ | ⟨q, hq, q1, q2, q3⟩
    · simp only at q1 q2
      subst q1
      obtain ⟨rfl, rfl⟩ := Prod.mk.inj q4
      rw [if_pos rfl, hl_d, rI_ne (by omega), q2]
      exact ag_c _ _ _ rfl rfl ⟨k, InvG_log q3⟩
    · simp only at q1 q2 q3
      subst q1 q2
      rw [if_neg (fun z => ch_no (k := 1) (c := q) (by omega) (by omega) (by omega) z.symm)]
      exact ag_c _ _ _ rfl rfl ⟨n, q3⟩
end ACTS2
