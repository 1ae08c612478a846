section LEAST
variable {hC hM : pq_H}
def clrN (g D : Nat) (W : Nat → Nat → Int64) (q : Int32) (n : Nat) : Bool := allB (fun p => !ffP g (D + n) (rzN g D W n) q p) (plc g (D + n))
theorem leastC_ok {h : pq_H} {g D : Nat} {W : Nat → Nat → Int64} (h1 : 1 ≤ g) (h2 : g ≤ 7) (hD : D ≤ 6) (hW : WC h D W) (q : Int32) : ok (f_X9_leastLift (nI g) q h) (fun r => frC h r.2 ∧ fstN (clrN g D W q) 13 r.1) := by
  unfold f_X9_leastLift
  have key : ∀ (w : Int32 → pq_H → Option (Int32 × pq_H)) (i : Nat) (h' : pq_H), i < 13 → frC h h' → WC h' (D + i) (rzN g D W i) → (∀ j, j < i → clrN g D W q j = false) → (frC h h' → WC h' (D + i) (rzN g D W i) → (∀ j, j < i + 1 → clrN g D W q j = false) → ok (w (nI (i + 1)) h') (fun r => frC h r.2 ∧ fstN (clrN g D W q) 13 r.1)) → ok (f_X9_leastLift_j17 (nI g) q w (nI i) h') (fun r => frC h r.2 ∧ fstN (clrN g D W q) 13 r.1) := by
    intro w i h' hi a b c hw
    have hp : plc g (D + i) ≤ tri (D + i + 1) := plc_le
    have hb := tri18 (show D + i ≤ 18 by omega)
    have hb2 : tri (D + i + 1) ≤ 190 := tri_mono (show D + i + 1 ≤ 19 by omega)
    unfold f_X9_leastLift_j17
    refine ok_bind (firstC_ok h1 h2 (by omega) b q) (fun r hr => ?_)
    rcases fstN_none (by omega) hr with ⟨e1, e2⟩ | ⟨e1, e2, e3⟩
    · rw [if_pos e1]
      exact ok_some ⟨a, Or.inl ⟨i, hi, e2, c, rfl⟩⟩
    · rw [if_neg e1, nI_1]
      refine hw a b (fun j hj => ?_)
      by_cases z : j = i
      · subst z; exact e3
      · exact c j (by omega)
  refine lp_forH (fun i h' => frC h h' ∧ WC h' (D + (i - 1)) (rzN g D W (i - 1)) ∧ ∀ j, j < i → clrN g D W q j = false) 13 ?_ ?_ 1000 0 h (by omega) (by omega) ⟨frC.rf h, hW, fun j hj => by omega⟩
  · intro i h' w hi ⟨g1, g2, g3⟩ hw
    unfold f_X9_leastLift_l2
    rw [if_neg (show ¬ (12 : Int32) < nI i from nI_nlt (a := 12) (by omega) (by omega))]
    by_cases z : i = 0
    · subst z
      rw [if_pos (by decide)]
      exact key w 0 h' (by omega) g1 g2 g3 (fun a b c => hw _ ⟨a, b, c⟩)
    · rw [if_neg (nI_nle (by omega) (by omega))]
      refine ok_bind (raiseOnce_ok h2 (by omega) g2) (fun h3 ⟨k1, k2⟩ => ?_)
      rw [← rzN_s, show i - 1 + 1 = i by omega, show D + (i - 1) + 1 = D + i by omega] at k2
      exact key w i h3 hi (g1.tr k1) k2 g3 (fun a b c => hw _ ⟨a, b, c⟩)
  · intro h' w ⟨g1, g2, g3⟩
    unfold f_X9_leastLift_l2
    rw [if_pos (show (12 : Int32) < nI 13 from nI_lt (a := 12) (by omega) (by omega))]
    exact ok_some ⟨g1, Or.inr ⟨g3, rfl⟩⟩
end LEAST
