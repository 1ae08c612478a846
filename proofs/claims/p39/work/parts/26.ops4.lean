section OPS4
variable {hC hM : pq_H}
theorem UE.tr {n j k k' : Nat} {hC hM hC' hM' : pq_H} (u : UE n hC hM j k) (c5 : rI hC' 75 j = rI hC 75 j) (c6 : rI hC' 76 j = rI hC 76 j) (c7 : rI hC' 77 j = rI hC 77 j) (c8 : rI hC' 78 j = rI hC 78 j) (m6 : rI hM' 6 k' = rI hM 6 k) (m7 : rI hM' 7 k' = rI hM 7 k) : UE n hC' hM' j k' := by
  unfold UE at u ⊢
  rw [c5, c6, c7, c8, m6, m7]
  exact u
theorem rem16 {i : Nat} (h : i < 1000) : nI i - nI i / 16 * 16 = nI (i % 16) := pk_rem (d := 16) (by omega) (by decide) (by decide)
theorem add_ok {h : pq_H} {x m m0 : Nat} (hx : x < 16) (hd : (m < 16 ∧ m0 = m) ∨ (m = 16 ∧ m0 = 15)) (h0 : rI h 74 0 = nI m) (h5 : rI h 74 5 = nI x) (a b c d : Int32) : ok (f_X8_add a b c d h) (fun h' => (∀ p k, (p < 74 ∨ 78 < p) → rI h' p k = rI h p k) ∧ (∀ p, 75 ≤ p → p ≤ 78 → ∀ k, k ≠ x → rI h' p k = rI h p k) ∧ rI h' 74 0 = nI (m0 + 1) ∧ rI h' 74 5 = nI ((x + 1) % 16) ∧ rI h' 75 x = a ∧ rI h' 76 x = b ∧ rI h' 77 x = c ∧ rI h' 78 x = d ∧ ∀ k, rR h' 72 k = rR h 72 k) := by
  have e : (if 16 < nI m + 1 then 16 else nI m + 1) = nI (m0 + 1) := by
    rw [nI_1]
    by_cases hm : m = 16
    · subst hm
      rw [if_pos (by decide), show m0 = 15 by omega]
      rfl
    · rw [if_neg (show ¬ (16 : Int32) < nI (m + 1) from nI_nlt (a := 16) (by omega) (by omega)), show m0 = m by omega]
  unfold f_X8_add
  simp (disch := omega) only [hl_d, rI_same, rI_ne, h0, h5, nI_clamp, inbN, gd_t]
  rw [e, nI_1, rem16 (by omega)]
  refine ok_some ⟨fun p k hp => ?_, fun p h1 h2 k hk => ?_, ?_, ?_, ?_, ?_, ?_, ?_, fun k => rfl⟩
  all_goals (simp (disch := omega) only [rI_same, rI_ne])
theorem i32_bd {x : Int32} (h1 : -1000000 ≤ x) (h2 : x ≤ 1000000) : bdI x := by
  have a := Int32.le_iff_toInt_le.mp h1
  have b := Int32.le_iff_toInt_le.mp h2
  have c : (-1000000 : Int32).toInt = -1000000 := by decide
  have d : (1000000 : Int32).toInt = 1000000 := by decide
  rw [c] at a
  rw [d] at b
  exact ⟨a, b⟩
end OPS4
