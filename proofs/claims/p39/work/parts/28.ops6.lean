section OPS6
variable {hC hM : pq_H}
theorem copyOf_ok (p q : Nat) (h1 : p ≠ q) (h2 : p ≠ q + 12) (h3 : p + 12 ≠ q) (h : pq_H) : ok (f_X1_copyOf p q h) (fun h' => (∀ P k, P ≠ p → P ≠ p + 12 → rI h' P k = rI h P k) ∧ rI h' p 1 = rI h q 1 ∧ rI h' p 2 = rI h q 2 ∧ rI h' p 3 = rI h q 3 ∧ (∀ t, t < 28 → rI h' (p + 12) t = rI h (q + 12) t) ∧ ∀ k, rR h' 72 k = rR h 72 k) := by
  unfold f_X1_copyOf
  rw [hl_d, hl_d, hl_d]
  refine lp_forH (fun i h' => (∀ P k, P ≠ p → P ≠ p + 12 → rI h' P k = rI h P k) ∧ rI h' p 1 = rI h q 1 ∧ rI h' p 2 = rI h q 2 ∧ rI h' p 3 = rI h q 3 ∧ (∀ t, t < i → rI h' (p + 12) t = rI h (q + 12) t) ∧ ∀ k, rR h' 72 k = rR h 72 k) 28 ?_ ?_ 1000 0 _ (by omega) (by omega) ⟨?_, ?_, ?_, ?_, ?_, fun _ => rfl⟩
  · intro i h' w hi ⟨g1, g2, g3, g4, g5, g6⟩ hw
    unfold f_X1_copyOf_l26
    rw [show (28 : Int32) = nI 28 from rfl, if_neg (nI_ge hi (by omega)), inbN hi (by decide), gd_t, gd_t, nI_clamp (by omega), nI_1]
    refine hw _ ⟨fun P k e1 e2 => ?_, ?_, ?_, ?_, fun t ht => ?_, g6⟩
    · rw [rI_ne (by omega)]; exact g1 P k e1 e2
    · rw [rI_ne (by omega)]; exact g2
    · rw [rI_ne (by omega)]; exact g3
    · rw [rI_ne (by omega)]; exact g4
    · by_cases e : t = i
      · subst e; rw [rI_same]; exact g1 _ _ (by omega) (by omega)
      · rw [rI_ne (by omega)]; exact g5 t (by omega)
  · intro h' w g
    unfold f_X1_copyOf_l26
    rw [if_pos (show (28 : Int32) ≤ nI 28 from le_nIn (Nat.le_refl _) (by omega))]
    exact ok_some g
  · intro P k e1 e2; rw [rI_ne (by omega), rI_ne (by omega), rI_ne (by omega)]
  · rw [rI_ne (by omega), rI_ne (by omega), rI_same]
  · rw [rI_ne (by omega), rI_same, rI_ne (by omega)]
  · rw [rI_same, rI_ne (by omega), rI_ne (by omega)]
  · intro t ht; omega
theorem FormC.copy {h h' : pq_H} {p q : Nat} {F : pF} (hF : FormC h q F) (a : rI h' p 1 = rI h q 1) (b : rI h' p 2 = rI h q 2) (c : rI h' p 3 = rI h q 3) (d : ∀ t, t < 28 → rI h' (p + 12) t = rI h (q + 12) t) : FormC h' p F := ⟨a.trans hF.1, b.trans hF.2.1, c.trans hF.2.2.1, fun t ht => (d t ht).trans (hF.2.2.2 t ht)⟩
theorem keep_ok {n : Nat} (hn : n ≤ 6) (h1 : rI hC 56 3 = nI n) : ok (f_X6_keepImage hC) (fun h' => (∀ P k, ¬ ((6 ≤ P ∧ P < 12) ∨ (18 ≤ P ∧ P < 24)) → (P ≠ 56 ∨ k ≠ 4) → rI h' P k = rI hC P k) ∧ rI h' 56 4 = nI n ∧ (∀ f, f < n → ∀ F, FormC hC f F → FormC h' (6 + f) F) ∧ ∀ k, rR h' 72 k = rR hC 72 k) := by
  unfold f_X6_keepImage
  refine lp_forH (fun i h' => (∀ P k, ¬ ((6 ≤ P ∧ P < 12) ∨ (18 ≤ P ∧ P < 24)) → rI h' P k = rI hC P k) ∧ (∀ f, f < i → ∀ F, FormC hC f F → FormC h' (6 + f) F) ∧ ∀ k, rR h' 72 k = rR hC 72 k) n ?_ ?_ 1000 0 hC (by omega) (by omega) ⟨fun _ _ _ => rfl, fun f hf => by omega, fun _ => rfl⟩
  · intro i h' w hi ⟨g1, g2, g3⟩ hw
    unfold f_X6_keepImage_l2
    rw [g1 56 3 (by omega), h1, if_neg (nI_ge hi (by omega)), inbN (show i < 6 by omega) (by decide), gd_t, gd_t, nI_clamp (by omega)]
    refine ok_bind (copyOf_ok (6 + i) i (by omega) (by omega) (by omega) h') (fun h2 ⟨k1, k2, k3, k4, k5, k6⟩ => ?_)
    rw [nI_1]
    refine hw _ ⟨fun P k e => (k1 P k (by omega) (by omega)).trans (g1 P k e), fun f hf F hF => ?_, fun k => (k6 k).trans (g3 k)⟩
    by_cases e : f = i
    · subst e
      exact FormC.copy (hF.fr (fun k => g1 f k (by omega)) (fun k => g1 (f + 12) k (by omega))) k2 k3 k4 k5
    · exact (g2 f (by omega) F hF).fr (fun k => k1 _ _ (by omega) (by omega)) (fun k => k1 _ _ (by omega) (by omega))
  · intro h' w ⟨g1, g2, g3⟩
    unfold f_X6_keepImage_l2 f_X6_keepImage_j31
    rw [g1 56 3 (by omega), h1, if_pos (le_nIn (Nat.le_refl _) (by omega))]
    refine ok_some ⟨fun P k e1 e2 => ?_, rI_same _ _ _ _, fun f hf F hF => ?_, g3⟩
    · rw [rI_ne (by omega)]; exact g1 P k e1
    · exact (g2 f hf F hF).fr (fun k => rI_ne (by omega)) (fun k => rI_ne (by omega))
theorem restore_ok {n : Nat} (hn : n ≤ 6) (h1 : rI hC 56 4 = nI n) : ok (f_X6_restoreImage hC) (fun h' => (∀ P k, ¬ (P < 6 ∨ (12 ≤ P ∧ P < 18)) → (P ≠ 56 ∨ k ≠ 3) → rI h' P k = rI hC P k) ∧ rI h' 56 3 = nI n ∧ (∀ f, f < n → ∀ F, FormC hC (6 + f) F → FormC h' f F) ∧ ∀ k, rR h' 72 k = rR hC 72 k) := by
  unfold f_X6_restoreImage
  refine lp_forH (fun i h' => (∀ P k, ¬ (P < 6 ∨ (12 ≤ P ∧ P < 18)) → rI h' P k = rI hC P k) ∧ (∀ f, f < i → ∀ F, FormC hC (6 + f) F → FormC h' f F) ∧ ∀ k, rR h' 72 k = rR hC 72 k) n ?_ ?_ 1000 0 hC (by omega) (by omega) ⟨fun _ _ _ => rfl, fun f hf => by omega, fun _ => rfl⟩
  · intro i h' w hi ⟨g1, g2, g3⟩ hw
    unfold f_X6_restoreImage_l2
    rw [g1 56 4 (by omega), h1, if_neg (nI_ge hi (by omega)), inbN (show i < 6 by omega) (by decide), gd_t, gd_t, nI_clamp (by omega)]
    refine ok_bind (copyOf_ok i (6 + i) (by omega) (by omega) (by omega) h') (fun h2 ⟨k1, k2, k3, k4, k5, k6⟩ => ?_)
    rw [nI_1]
    refine hw _ ⟨fun P k e => (k1 P k (by omega) (by omega)).trans (g1 P k e), fun f hf F hF => ?_, fun k => (k6 k).trans (g3 k)⟩
    by_cases e : f = i
    · subst e
      exact FormC.copy (hF.fr (fun k => g1 (6 + f) k (by omega)) (fun k => g1 (6 + f + 12) k (by omega))) k2 k3 k4 k5
    · exact (g2 f (by omega) F hF).fr (fun k => k1 _ _ (by omega) (by omega)) (fun k => k1 _ _ (by omega) (by omega))
  · intro h' w ⟨g1, g2, g3⟩
    unfold f_X6_restoreImage_l2 f_X6_restoreImage_j31
    rw [g1 56 4 (by omega), h1, if_pos (le_nIn (Nat.le_refl _) (by omega))]
    refine ok_some ⟨fun P k e1 e2 => ?_, rI_same _ _ _ _, fun f hf F hF => ?_, g3⟩
    · rw [rI_ne (by omega)]; exact g1 P k e1
    · exact (g2 f hf F hF).fr (fun k => rI_ne (by omega)) (fun k => rI_ne (by omega))
def pK (b : Bool) (h : pq_H) (c : Nat) (v : Int32) : Int32 := if b = true then v else rI h 22 c
end OPS6
