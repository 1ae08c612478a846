section OPS6
variable {hC hM : pq_H}
theorem copyOf_ok (p q : Nat) (h1 : p ≠ q) (h2 : p ≠ q + 12) (h3 : p + 12 ≠ q) (h : pq_H) : ok (f_X1_copyOf p q h) (fun h' => (∀ P k, P ≠ p → P ≠ p + 12 → rI h' P k = rI h P k) ∧ rI h' p 1 = rI h q 1 ∧ rI h' p 2 = rI h q 2 ∧ rI h' p 3 = rI h q 3 ∧ (∀ t, t < 28 → rI h' (p + 12) t = rI h (q + 12) t) ∧ ∀ k, rR h' 72 k = rR h 72 k) := by
  unfold f_X1_copyOf
  rw [hl_d, hl_d, hl_d]
  refine lp_forH (fun i h' => (∀ P k, P ≠ p → P ≠ p + 12 → rI h' P k = rI h P k) ∧ rI h' p 1 = rI h q 1 ∧ rI h' p 2 = rI h q 2 ∧ rI h' p 3 = rI h q 3 ∧ (∀ t, t < i → rI h' (p + 12) t = rI h (q + 12) t) ∧ ∀ k, rR h' 72 k = rR h 72 k) 28 ?_ ?_ 1000 0 _ (by omega) (by omega) ⟨?_, ?_, ?_, ?_, ?_, fun _ => rfl⟩
  · intro i h' w hi ⟨g1, g2, g3, g4, g5, g6⟩ hw
    unfold f_X1_copyOf_l26
    rw [show (28 : Int32) = nI 28 from rfl, if_neg (nI_ge hi (by omega)), inbN hi (by decide), gd_t, gd_t, nI_clamp (by omega), nI_1]
    refine hw _ ⟨fun P k e1 e2 => ?_, ?_, ?_, ?_, fun t ht => ?_, g6⟩
    · rw [rI_ne (by omega)]; exact g1 P k e1 e2
    · rw [rI_ne (by omega)]; exact g2
    · rw [rI_ne (by omega)]; exact g3
    · rw [rI_ne (by omega)]; exact g4
    · by_cases e : t = i
      · subst e; rw [rI_same]; exact g1 _ _ (by omega) (by omega)
      · rw [rI_ne (by omega)]; exact g5 t (by omega)
  · intro h' w g
    unfold f_X1_copyOf_l26
    rw [if_pos (show (28 : Int32) ≤ nI 28 from le_nIn (Nat.le_refl _) (by omega))]
    exact ok_some g
  · intro P k e1 e2; rw [rI_ne (by omega), rI_ne (by omega), rI_ne (by omega)]
  · rw [rI_ne (by omega), rI_ne (by omega), rI_same]
  · rw [rI_ne (by omega), rI_same, rI_ne (by omega)]
  · rw [rI_same, rI_ne (by omega), rI_ne (by omega)]
  · intro t ht; omega
theorem FormC.copy {h h' : pq_H} {p q : Nat} {F : pF} (hF : FormC h q F) (a : rI h' p 1 = rI h q 1) (b : rI h' p 2 = rI h q 2) (c : rI h' p 3 = rI h q 3) (d : ∀ t, t < 28 → rI h' (p + 12) t = rI h (q + 12) t) : FormC h' p F := ⟨a.trans hF.1, b.trans hF.2.1, c.trans hF.2.2.1, fun t ht => (d t ht).trans (hF.2.2.2 t ht)⟩
theorem keep_ok {n : Nat} (hn : n ≤ 6) (h1 : rI hC 56 3 = nI n) : ok (f_X6_keepImage hC) (fun h' => (∀ P k, ¬ ((6 ≤ P ∧ P < 12) ∨ (18 ≤ P ∧ P < 24)) → (P ≠ 56 ∨ k ≠ 4) → rI h' P k = rI hC P k) ∧ rI h' 56 4 = nI n ∧ (∀ f, f < n → ∀ F, FormC hC f F → FormC h' (6 + f) F) ∧ ∀ k, rR h' 72 k = rR hC 72 k) := by
  unfold f_X6_keepImage
  refine lp_forH (fun i h' => (∀ P k, ¬ ((6 ≤ P ∧ P < 12) ∨ (18 ≤ P ∧ P < 24)) → rI h' P k = rI hC P k) ∧ (∀ f, f < i → ∀ F, FormC hC f F → FormC h' (6 + f) F) ∧ ∀ k, rR h' 72 k = rR hC 72 k) n ?_ ?_ 1000 0 hC (by omega) (by omega) ⟨fun _ _ _ => rfl, fun f hf => by omega, fun _ => rfl⟩
  · intro i h' w hi ⟨g1, g2, g3⟩ hw
    unfold f_X6_keepImage_l2
    rw [g1 56 3 (by omega), h1, if_neg (nI_ge hi (by omega)), inbN (show i < 6 by omega) (by decide), gd_t, gd_t, nI_clamp (by omega)]
    refine ok_bind (copyOf_ok (6 + i) i (by omega) (by omega) (by omega) h') (fun h2 ⟨k1, k2, k3, k4, k5, k6⟩ => ?_)
    rw [nI_1]
    refine hw _ ⟨fun P k e => (k1 P k (by omega) (by omega)).trans (g1 P k e), fun f hf F hF => ?_, fun k => (k6 k).trans (g3 k)⟩
    by_cases e : f = i
    · subst e
      exact FormC.copy (hF.fr (fun k => g1 f k (by omega)) (fun k => g1 (f + 12) k (by omega))) k2 k3 k4 k5
    · exact (g2 f (by omega) F hF).fr (fun k => k1 _ _ (by omega) (by omega)) (fun k => k1 _ _ (by omega) (by omega))
  · intro h' w ⟨g1, g2, g3⟩
    unfold f_X6_keepImage_l2 f_X6_keepImage_j31
    rw [g1 56 3 (by omega), h1, if_pos (le_nIn (Nat.le_refl _) (by omega))]
    refine ok_some ⟨fun P k e1 e2 => ?_, rI_same _ _ _ _, fun f hf F hF => ?_, g3⟩
    · rw [rI_ne (by omega)]; exact g1 P k e1
    · exact (g2 f hf F hF).fr (fun k => rI_ne (by omega)) (fun k => rI_ne (by omega))
theorem restore_ok {n : Nat} (hn : n ≤ 6) (h1 : rI hC 56 4 = nI n) : ok (f_X6_restoreImage hC) (fun h' => (∀ P k, ¬ (P < 6 ∨ (12 ≤ P ∧ P < 18)) → (P ≠ 56 ∨ k ≠ 3) → rI h' P k = rI hC P k) ∧ rI h' 56 3 = nI n ∧ (∀ f, f < n → ∀ F, FormC hC (6 + f) F → FormC h' f F) ∧ ∀ k, rR h' 72 k = rR hC 72 k) := by
  unfold f_X6_restoreImage
  refine lp_forH (fun i h' => (∀ P k, ¬ (P < 6 ∨ (12 ≤ P ∧ P < 18)) → rI h' P k = rI hC P k) ∧ (∀ f, f < i → ∀ F, FormC hC (6 + f) F → FormC h' f F) ∧ ∀ k, rR h' 72 k = rR hC 72 k) n ?_ ?_ 1000 0 hC (by omega) (by omega) ⟨fun _ _ _ => rfl, fun f hf => by omega, fun _ => rfl⟩
  · intro i h' w hi ⟨g1, g2, g3⟩ hw
    unfold f_X6_restoreImage_l2
    rw [g1 56 4 (by omega), h1, if_neg (nI_ge hi (by omega)), inbN (show i < 6 by omega) (by decide), gd_t, gd_t, nI_clamp (by omega)]
    refine ok_bind (copyOf_ok i (6 + i) (by omega) (by omega) (by omega) h') (fun h2 ⟨k1, k2, k3, k4, k5, k6⟩ => ?_)
    rw [nI_1]
    refine hw _ ⟨fun P k e => (k1 P k (by omega) (by omega)).trans (g1 P k e), fun f hf F hF => ?_, fun k => (k6 k).trans (g3 k)⟩
    by_cases e : f = i
    · subst e
      exact FormC.copy (hF.fr (fun k => g1 (6 + f) k (by omega)) (fun k => g1 (6 + f + 12) k (by omega))) k2 k3 k4 k5
    · exact (g2 f (by omega) F hF).fr (fun k => k1 _ _ (by omega) (by omega)) (fun k => k1 _ _ (by omega) (by omega))
  · intro h' w ⟨g1, g2, g3⟩
    unfold f_X6_restoreImage_l2 f_X6_restoreImage_j31
    rw [g1 56 4 (by omega), h1, if_pos (le_nIn (Nat.le_refl _) (by omega))]
    refine ok_some ⟨fun P k e1 e2 => ?_, rI_same _ _ _ _, fun f hf F hF => ?_, g3⟩
    · rw [rI_ne (by omega)]; exact g1 P k e1
    · exact (g2 f hf F hF).fr (fun k => rI_ne (by omega)) (fun k => rI_ne (by omega))
theorem passOne_ok {h : pq_H} {c : Nat} (b : Bool) (hc : c < 190) (h1 : rI h 0 41 = nI c) (h2 : rI h 0 43 = b2i b) (v : Int32) : f_X11_passOne v h = some (if b = true then v else rI h 22 c, wI (wI h 22 c (if b = true then v else rI h 22 c)) 0 41 (nI (c + 1))) := by
  unfold f_X11_passOne f_X11_passOne_j20
  rw [h1, h2, inbN hc (by decide), nI_clamp (by omega)]
  simp only [gd_t, hl_d]
  rw [rI_ne (by omega), rI_ne (by omega), h1, nI_1]
  cases b with
  | true => rw [if_neg (by decide), if_pos rfl]
  | false => rw [if_pos (by decide), if_neg (by decide)]
def pK (b : Bool) (h : pq_H) (c : Nat) (v : Int32) : Int32 := if b = true then v else rI h 22 c
theorem passes_ok (b : Bool) (h : pq_H) : ok (f_X11_passesAll b h) (fun h' => (∀ p k, (p = 1 ∨ (6 ≤ p ∧ p ≠ 22)) → rI h' p k = rI h p k) ∧ (∀ k, k ≠ 5 → k ≠ 41 → k ≠ 43 → rI h' 0 k = rI h 0 k) ∧ rI h' 0 5 = pK b h 0 (rI h 0 5) ∧ rI h' 22 0 = pK b h 0 (rI h 0 5) ∧ (∀ f, f < 6 → (rI h' 3 f = pK b h (1 + 3 * f) (rI h 3 f) ∧ rI h' 22 (1 + 3 * f) = pK b h (1 + 3 * f) (rI h 3 f)) ∧ (rI h' 4 f = pK b h (2 + 3 * f) (rI h 4 f) ∧ rI h' 22 (2 + 3 * f) = pK b h (2 + 3 * f) (rI h 4 f)) ∧ (rI h' 5 f = pK b h (3 + 3 * f) (rI h 5 f) ∧ rI h' 22 (3 + 3 * f) = pK b h (3 + 3 * f) (rI h 5 f))) ∧ ∀ t, t < 168 → rI h' 2 t = pK b h (19 + t) (rI h 2 t) ∧ rI h' 22 (19 + t) = pK b h (19 + t) (rI h 2 t)) := by
  unfold f_X11_passesAll
  rw [hl_d, hl_d, passOne_ok (c := 0) b (by omega) (by rw [rI_same]; rfl) (by rw [rI_ne (by omega), rI_same]), bd2_some, hl_d, rI_ne (by omega), rI_ne (by omega), rI_ne (p := 0) (q := 22) (by omega), rI_ne (p := 0) (q := 22) (by omega)]
  refine lp_forH (fun i h' => rI h' 0 41 = nI (1 + 3 * i) ∧ rI h' 0 43 = b2i b ∧ (∀ p k, (p = 1 ∨ p = 2 ∨ (6 ≤ p ∧ p ≠ 22)) → rI h' p k = rI h p k) ∧ (∀ k, k ≠ 5 → k ≠ 41 → k ≠ 43 → rI h' 0 k = rI h 0 k) ∧ rI h' 0 5 = pK b h 0 (rI h 0 5) ∧ rI h' 22 0 = pK b h 0 (rI h 0 5) ∧ (∀ c, 1 + 3 * i ≤ c → rI h' 22 c = rI h 22 c) ∧ (∀ f, i ≤ f → rI h' 3 f = rI h 3 f ∧ rI h' 4 f = rI h 4 f ∧ rI h' 5 f = rI h 5 f) ∧ (∀ f, f < i → (rI h' 3 f = pK b h (1 + 3 * f) (rI h 3 f) ∧ rI h' 22 (1 + 3 * f) = pK b h (1 + 3 * f) (rI h 3 f)) ∧ (rI h' 4 f = pK b h (2 + 3 * f) (rI h 4 f) ∧ rI h' 22 (2 + 3 * f) = pK b h (2 + 3 * f) (rI h 4 f)) ∧ (rI h' 5 f = pK b h (3 + 3 * f) (rI h 5 f) ∧ rI h' 22 (3 + 3 * f) = pK b h (3 + 3 * f) (rI h 5 f)))) 6 ?_ ?_ 1000 0 _ (by omega) (by omega) ⟨?_, ?_, ?_, ?_, ?_, ?_, ?_, ?_, ?_⟩
  · intro i h' w hi ⟨g1, g2, g3, g4, g5, g6, g7, g8, g9⟩ hw
    unfold f_X11_passesAll_l24
    obtain ⟨a3, a4, a5⟩ := g8 i (Nat.le_refl _)
    rw [show (6 : Int32) = nI 6 from rfl, if_neg (nI_ge hi (by omega)), inbN hi (by decide), gd_t, nI_clamp (by omega), a3, passOne_ok b (by omega) g1 g2, bd2_some, gd_t, hl_d, gd_t, g7 _ (by omega)]
    obtain ⟨v3, e3⟩ : ∃ v, v = (if b = true then rI h 3 i else rI h 22 (1 + 3 * i)) := ⟨_, rfl⟩
    rw [← e3]
    obtain ⟨H1, d1⟩ : ∃ H, H = wI (wI (wI h' 22 (1 + 3 * i) v3) 0 41 (nI (1 + 3 * i + 1))) 3 i v3 := ⟨_, rfl⟩
    rw [← d1]
    have q1 : rI H1 4 i = rI h 4 i := by rw [d1, rI_ne (by omega), rI_ne (by omega), rI_ne (by omega)]; exact a4
    rw [q1, passOne_ok (h := H1) (c := 2 + 3 * i) b (by omega) (by rw [d1, rI_ne (by omega), rI_same, show 1 + 3 * i + 1 = 2 + 3 * i by omega]) (by rw [d1, rI_ne (by omega), rI_ne (by omega), rI_ne (by omega)]; exact g2), bd2_some, gd_t, hl_d, gd_t]
    have q2 : rI H1 22 (2 + 3 * i) = rI h 22 (2 + 3 * i) := by rw [d1, rI_ne (by omega), rI_ne (by omega), rI_ne (by omega)]; exact g7 _ (by omega)
    rw [q2]
    obtain ⟨v4, e4⟩ : ∃ v, v = (if b = true then rI h 4 i else rI h 22 (2 + 3 * i)) := ⟨_, rfl⟩
    rw [← e4]
    obtain ⟨H2, d2⟩ : ∃ H, H = wI (wI (wI H1 22 (2 + 3 * i) v4) 0 41 (nI (2 + 3 * i + 1))) 4 i v4 := ⟨_, rfl⟩
    rw [← d2]
    have q3 : rI H2 5 i = rI h 5 i := by rw [d2, rI_ne (by omega), rI_ne (by omega), rI_ne (by omega), d1, rI_ne (by omega), rI_ne (by omega), rI_ne (by omega)]; exact a5
    rw [q3, passOne_ok (h := H2) (c := 3 + 3 * i) b (by omega) (by rw [d2, rI_ne (by omega), rI_same, show 2 + 3 * i + 1 = 3 + 3 * i by omega]) (by rw [d2, rI_ne (by omega), rI_ne (by omega), rI_ne (by omega), d1, rI_ne (by omega), rI_ne (by omega), rI_ne (by omega)]; exact g2), bd2_some, gd_t]
    have q4 : rI H2 22 (3 + 3 * i) = rI h 22 (3 + 3 * i) := by rw [d2, rI_ne (by omega), rI_ne (by omega), rI_ne (by omega), d1, rI_ne (by omega), rI_ne (by omega), rI_ne (by omega)]; exact g7 _ (by omega)
    rw [q4]
    obtain ⟨v5, e5⟩ : ∃ v, v = (if b = true then rI h 5 i else rI h 22 (3 + 3 * i)) := ⟨_, rfl⟩
    rw [← e5, nI_1]
    have all : ∀ p k, (p ≠ 22 ∨ (k ≠ 1 + 3 * i ∧ k ≠ 2 + 3 * i ∧ k ≠ 3 + 3 * i)) → (p ≠ 0 ∨ k ≠ 41) → (p ≠ 3 ∨ k ≠ i) → (p ≠ 4 ∨ k ≠ i) → (p ≠ 5 ∨ k ≠ i) → rI (wI (wI (wI H2 22 (3 + 3 * i) v5) 0 41 (nI (3 + 3 * i + 1))) 5 i v5) p k = rI h' p k := by
      intro p k z1 z2 z3 z4 z5
      rw [rI_ne (by omega), rI_ne (by omega), rI_ne (by omega), d2, rI_ne (by omega), rI_ne (by omega), rI_ne (by omega), d1, rI_ne (by omega), rI_ne (by omega), rI_ne (by omega)]
    refine hw _ ⟨?_, ?_, fun p k hp => ?_, fun k z1 z2 z3 => ?_, ?_, ?_, fun c hc => ?_, fun f hf => ?_, fun f hf => ?_⟩
    · rw [rI_ne (by omega), rI_same, show 3 + 3 * i + 1 = 1 + 3 * (i + 1) by omega]
    · rw [all _ _ (by omega) (by omega) (by omega) (by omega) (by omega)]; exact g2
    · rw [all _ _ (by omega) (by omega) (by omega) (by omega) (by omega)]; exact g3 p k hp
    · rw [all _ _ (by omega) (by omega) (by omega) (by omega) (by omega)]; exact g4 k z1 z2 z3
    · rw [all _ _ (by omega) (by omega) (by omega) (by omega) (by omega)]; exact g5
    · rw [all _ _ (by omega) (by omega) (by omega) (by omega) (by omega)]; exact g6
    · rw [all _ _ (by omega) (by omega) (by omega) (by omega) (by omega)]; exact g7 c (by omega)
    · rw [all _ _ (by omega) (by omega) (by omega) (by omega) (by omega), all _ _ (by omega) (by omega) (by omega) (by omega) (by omega), all _ _ (by omega) (by omega) (by omega) (by omega) (by omega)]; exact g8 f (by omega)
    · by_cases e : f = i
      · subst e
        refine ⟨⟨?_, ?_⟩, ⟨?_, ?_⟩, ⟨?_, ?_⟩⟩
        · rw [rI_ne (by omega), rI_ne (by omega), rI_ne (by omega), d2, rI_ne (by omega), rI_ne (by omega), rI_ne (by omega), d1, rI_same]; exact e3
        · rw [rI_ne (by omega), rI_ne (by omega), rI_ne (by omega), d2, rI_ne (by omega), rI_ne (by omega), rI_ne (by omega), d1, rI_ne (by omega), rI_ne (by omega), rI_same]; exact e3
        · rw [rI_ne (by omega), rI_ne (by omega), rI_ne (by omega), d2, rI_same]; exact e4
        · rw [rI_ne (by omega), rI_ne (by omega), rI_ne (by omega), d2, rI_ne (by omega), rI_ne (by omega), rI_same]; exact e4
        · rw [rI_same]; exact e5
        · rw [rI_ne (by omega), rI_ne (by omega), rI_same]; exact e5
      · rw [all _ _ (by omega) (by omega) (by omega) (by omega) (by omega), all _ _ (by omega) (by omega) (by omega) (by omega) (by omega), all _ _ (by omega) (by omega) (by omega) (by omega) (by omega), all _ _ (by omega) (by omega) (by omega) (by omega) (by omega), all _ _ (by omega) (by omega) (by omega) (by omega) (by omega), all _ _ (by omega) (by omega) (by omega) (by omega) (by omega)]
        exact g9 f (by omega)
  · intro h1 w ⟨g1, g2, g3, g4, g5, g6, g7, g8, g9⟩
    unfold f_X11_passesAll_l24 f_X11_passesAll_j84
    rw [if_pos (show (6 : Int32) ≤ nI 6 from le_nIn (Nat.le_refl _) (by omega))]
    refine lp_forH (fun i h' => rI h' 0 41 = nI (19 + i) ∧ rI h' 0 43 = b2i b ∧ (∀ p k, p ≠ 2 → p ≠ 22 → (p ≠ 0 ∨ k ≠ 41) → rI h' p k = rI h1 p k) ∧ (∀ c, c < 19 ∨ 19 + i ≤ c → rI h' 22 c = rI h1 22 c) ∧ (∀ t, i ≤ t → rI h' 2 t = rI h 2 t) ∧ (∀ t, t < i → rI h' 2 t = pK b h (19 + t) (rI h 2 t) ∧ rI h' 22 (19 + t) = pK b h (19 + t) (rI h 2 t))) 168 ?_ ?_ 1000 0 h1 (by omega) (by omega) ⟨g1, g2, fun _ _ _ _ _ => rfl, fun _ _ => rfl, fun t _ => g3 2 t (by omega), fun t ht => by omega⟩
    · intro i h' w hi ⟨k1, k2, k3, k4, k5, k6⟩ hw
      unfold f_X11_passesAll_l86
      rw [show (168 : Int32) = nI 168 from rfl, if_neg (nI_ge hi (by omega)), inbN hi (by decide), gd_t, nI_clamp (by omega), k5 i (Nat.le_refl _), passOne_ok b (by omega) k1 k2, bd2_some, gd_t, k4 _ (by omega), g7 _ (by omega), nI_1]
      obtain ⟨v, e⟩ : ∃ v, v = (if b = true then rI h 2 i else rI h 22 (19 + i)) := ⟨_, rfl⟩
      rw [← e]
      refine hw _ ⟨?_, ?_, fun p k z1 z2 z3 => ?_, fun c hc => ?_, fun t ht => ?_, fun t ht => ?_⟩
      · rw [rI_ne (by omega), rI_same, show 19 + i + 1 = 19 + (i + 1) by omega]
      · rw [rI_ne (by omega), rI_ne (by omega), rI_ne (by omega)]; exact k2
      · rw [rI_ne (by omega), rI_ne (by omega), rI_ne (by omega)]; exact k3 p k z1 z2 z3
      · rw [rI_ne (by omega), rI_ne (by omega), rI_ne (by omega)]; exact k4 c (by omega)
      · rw [rI_ne (by omega), rI_ne (by omega), rI_ne (by omega)]; exact k5 t (by omega)
      · by_cases et : t = i
        · subst et
          exact ⟨by rw [rI_same]; exact e, by rw [rI_ne (by omega), rI_ne (by omega), rI_same]; exact e⟩
        · rw [rI_ne (by omega), rI_ne (by omega), rI_ne (by omega), rI_ne (by omega), rI_ne (by omega), rI_ne (by omega)]
          exact k6 t (by omega)
    · intro h' w ⟨k1, k2, k3, k4, k5, k6⟩
      unfold f_X11_passesAll_l86
      rw [if_pos (show (168 : Int32) ≤ nI 168 from le_nIn (Nat.le_refl _) (by omega))]
      refine ok_some ⟨fun p k hp => ?_, fun k z1 z2 z3 => ?_, ?_, ?_, fun f hf => ?_, k6⟩
      · rw [k3 p k (by omega) (by omega) (by omega)]; exact g3 p k (by omega)
      · rw [k3 0 k (by omega) (by omega) (by omega)]; exact g4 k z1 z2 z3
      · rw [k3 0 5 (by omega) (by omega) (by omega)]; exact g5
      · rw [k4 0 (by omega)]; exact g6
      · rw [k3 3 f (by omega) (by omega) (by omega), k3 4 f (by omega) (by omega) (by omega), k3 5 f (by omega) (by omega) (by omega), k4 _ (by omega), k4 _ (by omega), k4 _ (by omega)]
        exact g9 f hf
  · rw [rI_ne (by omega), rI_same]
  · rw [rI_ne (by omega), rI_ne (by omega), rI_ne (by omega), rI_ne (by omega), rI_same]
  · intro p k hp; rw [rI_ne (by omega), rI_ne (by omega), rI_ne (by omega), rI_ne (by omega), rI_ne (by omega)]
  · intro k z1 z2 z3; rw [rI_ne (by omega), rI_ne (by omega), rI_ne (by omega), rI_ne (by omega), rI_ne (by omega)]
  · rw [rI_same]; rfl
  · rw [rI_ne (by omega), rI_ne (by omega), rI_same]; rfl
  · intro c hc; rw [rI_ne (by omega), rI_ne (by omega), rI_ne (by omega), rI_ne (by omega), rI_ne (by omega)]
  · intro f hf; rw [rI_ne (by omega), rI_ne (by omega), rI_ne (by omega), rI_ne (by omega), rI_ne (by omega), rI_ne (by omega), rI_ne (by omega), rI_ne (by omega), rI_ne (by omega), rI_ne (by omega), rI_ne (by omega), rI_ne (by omega), rI_ne (by omega), rI_ne (by omega), rI_ne (by omega)]; exact ⟨rfl, rfl, rfl⟩
  · intro f hf; omega
theorem a_image : Ag_image Inv := by
  intro hC hM i
  obtain ⟨n, i1, i2, i3, i4, i5, i6, i7⟩ := id i
  obtain ⟨h', e1, g1, g2, g3, g4⟩ := keep_ok i1.1 i1.2.1
  obtain ⟨k', e2, k1, k2, k3, k4, k5, k6⟩ := passes_ok true hM
  have hn := i1.1
  have P : ∀ c v, pK true hM c v = v := fun c v => rfl
  simp only [P] at k3 k4 k5 k6
  unfold f_X10_image f_X11_image
  rw [e1, e2, Option.bind_some, Option.bind_some, hl_d, rI_ne (by omega), g1 56 3 (by omega) (by omega), i1.2.1, k3, i1.2.2.1]
  refine ag_c (nI n) h' (wI k' 0 42 (nI n)) rfl rfl ⟨n, ⟨hn, ?_, ?_, fun f hf => ?_⟩, i2.fr ?_ ?_ ?_ ?_, i3.fr ?_ ?_ ?_ ?_, i4.fr ?_ ?_, i5.fr ?_ ?_ ?_ ?_, Or.inr ⟨n, hn, g2, ?_, ?_, fun f hf => ?_⟩, i7.fr g4⟩
  case refine_1 => rw [g1 _ _ (by omega) (by omega)]; exact i1.2.1
  case refine_2 => rw [rI_ne (by omega), k3]; exact i1.2.2.1
  case refine_3 =>
    obtain ⟨F, a, b, c⟩ := i1.2.2.2 f hf
    refine ⟨F, a.fr (fun k => g1 _ _ (by omega) (by omega)) (fun k => g1 _ _ (by omega) (by omega)), b.fr ?_ ?_ ?_ (fun t ht => ?_), c⟩
    · rw [rI_ne (by omega)]; exact (k5 f (by omega)).1.1
    · rw [rI_ne (by omega)]; exact (k5 f (by omega)).2.1.1
    · rw [rI_ne (by omega)]; exact (k5 f (by omega)).2.2.1
    · rw [rI_ne (by omega)]; exact (k6 (28 * f + t) (by omega)).1
  case refine_18 => rw [rI_same]; exact nI_pos (by omega)
  case refine_19 => rw [rI_ne (by omega), k4]; exact i1.2.2.1
  case refine_20 =>
    obtain ⟨F, a, b, c⟩ := i1.2.2.2 f hf
    refine ⟨F, g3 f hf F a, ⟨?_, ?_, ?_, fun t ht => ?_⟩, c⟩
    · rw [rI_ne (by omega)]; exact (k5 f (by omega)).1.2.trans b.1
    · rw [rI_ne (by omega)]; exact (k5 f (by omega)).2.1.2.trans b.2.1
    · rw [rI_ne (by omega)]; exact (k5 f (by omega)).2.2.2.trans b.2.2.1
    · rw [rI_ne (by omega)]; exact (k6 (28 * f + t) (by omega)).2.trans (b.2.2.2 t ht)
  all_goals first | (intros; exact g1 _ _ (by omega) (by omega)) | (intros; rw [rI_ne (by omega)]; exact k1 _ _ (by omega)) | (intros; rw [rI_ne (by omega)]; exact k2 _ (by omega) (by omega) (by omega))
theorem a_back : Ag_back Inv := by
  intro hC hM i
  obtain ⟨n, i1, ⟨m, x, u0, u1, u2, u3, u4, u5⟩, i3, i4, i5, i6, i7⟩ := id i
  unfold f_X10_back f_X11_back
  simp only [bd2_id]
  have q : ∀ x : Int32, x < 0 → ¬ 0 ≤ x := fun x z y => by
    have a := Int32.le_iff_toInt_le.mp y
    have b := Int32.lt_iff_toInt_lt.mp z
    omega
  rcases i6 with ⟨z1, z2⟩ | ⟨k, h0, h1, h2, h3, h4⟩
  · rw [if_neg (q _ z1), if_neg (q _ z2)]
    exact ag_no 3 rfl (by decide) (by decide) i
  obtain ⟨h', e1, g1, g2, g3, g4⟩ := restore_ok h0 h1
  obtain ⟨k', e2, k1, k2, k3, k4, k5, k6⟩ := passes_ok false hM
  have P : ∀ c v, pK false hM c v = rI hM 22 c := fun c v => rfl
  simp only [P] at k3 k4 k5 k6
  rw [if_pos (show (0 : Int32) ≤ rI hC 56 4 by rw [h1]; exact nI_pos' (by omega)), if_pos (Int32.not_lt.mp h2), e1, e2, Option.bind_some, Option.bind_some, hl_d, hl_d, rI_ne (by omega), rI_ne (by omega), g2, k3, h3]
  refine ag_c (nI k) (wI h' 74 0 0) (wI k' 0 8 0) rfl rfl ⟨k, ⟨h0, ?_, ?_, fun f hf => ?_⟩, InvU.nil x u1 (rI_same _ _ _ _) (rI_same _ _ _ _) ?_, i3.fr ?_ ?_ ?_ ?_, i4.fr ?_ ?_, i5.fr ?_ ?_ ?_ ?_, Or.inr ⟨k, h0, ?_, ?_, ?_, fun f hf => ?_⟩, i7.fr g4⟩
  case refine_1 => rw [rI_ne (by omega)]; exact g2
  case refine_2 => rw [rI_ne (by omega), k3]; exact h3
  case refine_3 =>
    obtain ⟨F, a, b, c⟩ := h4 f hf
    refine ⟨F, (g3 f hf F a).fr (fun k => rI_ne (by omega)) (fun k => rI_ne (by omega)), ⟨?_, ?_, ?_, fun t ht => ?_⟩, c⟩
    · rw [rI_ne (by omega)]; exact (k5 f (by omega)).1.1.trans b.1
    · rw [rI_ne (by omega)]; exact (k5 f (by omega)).2.1.1.trans b.2.1
    · rw [rI_ne (by omega)]; exact (k5 f (by omega)).2.2.1.trans b.2.2.1
    · rw [rI_ne (by omega)]; exact (k6 (28 * f + t) (by omega)).1.trans (b.2.2.2 t ht)
  case refine_4 => rw [rI_ne (by omega), g1 _ _ (by omega) (by omega)]; exact u4
  case refine_15 => rw [rI_ne (by omega), g1 _ _ (by omega) (by omega)]; exact h1
  case refine_16 => rw [rI_ne (by omega), k2 _ (by omega) (by omega) (by omega)]; exact h2
  case refine_17 => rw [rI_ne (by omega), k4]; exact h3
  case refine_18 =>
    obtain ⟨F, a, b, c⟩ := h4 f hf
    refine ⟨F, a.fr (fun k => ?_) (fun k => ?_), ⟨?_, ?_, ?_, fun t ht => ?_⟩, c⟩
    · rw [rI_ne (by omega)]; exact g1 _ _ (by omega) (by omega)
    · rw [rI_ne (by omega)]; exact g1 _ _ (by omega) (by omega)
    · rw [rI_ne (by omega)]; exact (k5 f (by omega)).1.2.trans b.1
    · rw [rI_ne (by omega)]; exact (k5 f (by omega)).2.1.2.trans b.2.1
    · rw [rI_ne (by omega)]; exact (k5 f (by omega)).2.2.2.trans b.2.2.1
    · rw [rI_ne (by omega)]; exact (k6 (28 * f + t) (by omega)).2.trans (b.2.2.2 t ht)
  all_goals first | (intros; rw [rI_ne (by omega)]; exact g1 _ _ (by omega) (by omega)) | (intros; rw [rI_ne (by omega)]; exact k1 _ _ (by omega)) | (intros; rw [rI_ne (by omega)]; exact k2 _ (by omega) (by omega) (by omega))
end OPS6
