section OPS1
variable {hC hM : pq_H}
theorem rI_same (h : pq_H) (p k : Nat) (v : Int32) : rI (wI h p k v) p k = v := if_pos ⟨rfl, rfl⟩
theorem rI_ne {h : pq_H} {p k q j : Nat} {v : Int32} (hn : q ≠ p ∨ j ≠ k) : rI (wI h p k v) q j = rI h q j := if_neg (by omega)
theorem rJ_same (h : pq_H) (p k : Nat) (v : Int64) : rJ (wJ h p k v) p k = v := if_pos ⟨rfl, rfl⟩
theorem rJ_ne {h : pq_H} {p k q j : Nat} {v : Int64} (hn : q ≠ p ∨ j ≠ k) : rJ (wJ h p k v) q j = rJ h q j := if_neg (by omega)
theorem rR_same (h : pq_H) (p k : Nat) (v : Option Nat) : rR (wR h p k v) p k = v := if_pos ⟨rfl, rfl⟩
theorem rR_ne {h : pq_H} {p k q j : Nat} {v : Option Nat} (hn : q ≠ p ∨ j ≠ k) : rR (wR h p k v) q j = rR h q j := if_neg (by omega)
theorem nb_cases (p : Int32) (N : Nat) (hN : N < 1000000) : (f_X10_notBelow p (nI N) = true ∧ f_X11_isIn p 0 (nI N - 1) = false) ∨ ∃ j, j < N ∧ p = nI j ∧ f_X10_notBelow p (nI N) = false ∧ f_X11_isIn p 0 (nI N - 1) = true := by
  unfold f_X10_notBelow f_X11_isIn
  rcases pk_ix p (n := N) (by omega) with h | h | ⟨j, hj, rfl⟩
  · left
    rw [if_pos h, if_pos h]
    exact ⟨rfl, rfl⟩
  · left
    have h0 : ¬ p < 0 := fun z => by
      have a := Int32.le_iff_toInt_le.mp h
      have b := Int32.lt_iff_toInt_lt.mp z
      rw [nI_toInt (by omega)] at a
      have c : (0 : Int32).toInt = 0 := rfl
      omega
    have h1 : ¬ p < nI N := fun z => by
      have a := Int32.le_iff_toInt_le.mp h
      have b := Int32.lt_iff_toInt_lt.mp z
      omega
    have h2 : nI N - 1 < p := by
      have a := Int32.le_iff_toInt_le.mp h
      refine Int32.lt_iff_toInt_lt.mpr ?_
      rw [nI_toInt (by omega)] at a
      rw [Int32.toInt_sub, nI_toInt (by omega), show (1 : Int32).toInt = 1 from rfl, Int.bmod_eq_of_le (by omega) (by omega)]
      omega
    rw [if_neg h0, if_neg h0, if_neg h1, if_pos h2]
    exact ⟨rfl, rfl⟩
  · right
    refine ⟨j, hj, rfl, ?_, ?_⟩
    · rw [if_neg (nI_pos (by omega)), if_pos (nI_lt hj (by omega))]
    · rw [if_neg (nI_pos (by omega)), i1, pk_sub (by omega), if_neg (nI_nlt (by omega) (by omega))]
theorem form_cases {n : Nat} (i : InvF n hC hM) (p : Int32) : (f_X6_lacks p hC = true ∧ f_X11_isForm p hM = false) ∨ ∃ f, f < n ∧ f < 6 ∧ p = nI f ∧ f_X6_lacks p hC = false ∧ f_X11_isForm p hM = true ∧ ∃ F, FormC hC f F ∧ FormM hM f F ∧ okF F := by
  obtain ⟨h0, h1, h2, h3⟩ := i
  unfold f_X6_lacks f_X11_isForm
  rw [h1, h2]
  rcases nb_cases p n (by omega) with ⟨a, b⟩ | ⟨j, hj, e, a, b⟩
  · exact Or.inl ⟨a, b⟩
  · exact Or.inr ⟨j, hj, by omega, e, a, b, h3 j hj⟩
theorem bd2_id {α : Type} (x : Option (α × pq_H)) : (bd2 x fun r h => some (r, h)) = x := by
  cases x <;> rfl
theorem bind_id {α : Type} (x : Option α) : (x.bind fun r => some r) = x := by
  cases x <;> rfl
theorem ag_no {v : Int32} (k : Nat) (hv : v = -nI k) (h1 : 1 ≤ k) (h2 : k ≤ 6) (i : Inv hC hM) : ag Inv (f_X10_refuse v hC) (f_X11_no v hM) := by
  subst hv
  obtain ⟨a, b, c, d, e⟩ := refuse_ok i k h1 h2
  exact ⟨_, a, b, c, d, e⟩
theorem ag_map {β γ : Type} {x y : Option (β × pq_H)} (g : β → γ) (h : ag Inv x y) : ag Inv (bd2 x fun r h => some (g r, h)) (bd2 y fun r h => some (g r, h)) := by
  obtain ⟨r, a, b, c, d, e⟩ := h
  exact ⟨g r, a, b, by rw [c]; rfl, by rw [d]; rfl, e⟩
theorem ag_far {v : Int32} (k : Nat) (hv : v = -nI k) (h1 : 1 ≤ k) (h2 : k ≤ 6) (i : Inv hC hM) : ag Inv (f_X10_refuseFarInt v hC) (f_X11_far v hM) := ag_map _ (ag_no k hv h1 h2 i)
theorem ag_low {v : Int32} (k : Nat) (hv : v = -nI k) (h1 : 1 ≤ k) (h2 : k ≤ 6) (i : Inv hC hM) : ag Inv (f_X10_refuseFar v hC) (f_X11_lower v hM) := ag_map _ (ag_no k hv h1 h2 i)
theorem ag_c {β : Type} {x y : Option (β × pq_H)} (r : β) (a b : pq_H) (h1 : x = some (r, a)) (h2 : y = some (r, b)) (i : Inv a b) : ag Inv x y := ⟨r, a, b, h1, h2, i⟩
theorem a_letter : Ag_letter Inv := by
  intro hC hM p1 i
  unfold f_X10_letter f_X11_letter f_X10_letter_j30 f_X11_letter_j27
  simp only [bd2_id]
  split
  case isFalse => exact ag_no 4 rfl (by decide) (by decide) i
  split
  case isTrue => exact ag_no 6 rfl (by decide) (by decide) i
  obtain ⟨n, i1, i2, ⟨m, l0, l1, l2, l3⟩, i4, i5, i6, i7⟩ := id i
  rw [l1, l2]
  by_cases hm : m < 72
  · rw [if_pos (show nI m < 72 from nI_lt hm (by decide)), if_neg (show ¬ nI m = 72 by rw [show (72 : Int32) = nI 72 from rfl, ieq (by omega) (by decide)]; omega), inbN hm (by decide), gd_t]
    unfold f_X3_add
    rw [l1, if_pos (show nI m < 72 from nI_lt hm (by decide)), inbN hm (by decide), gd_t, nI_clamp (by omega)]
    simp (disch := omega) only [hl_d, Option.bind_some, rI_same, rI_ne, l1, l2, nI_1]
    refine ag_c (nI (m + 1)) (wI (wI hC 62 m p1) 61 1 (nI (m + 1))) (wI (wI hM 9 m p1) 0 11 (nI (m + 1))) rfl rfl ⟨n, i1.fr ?_ ?_ ?_ ?_, i2.fr ?_ ?_ ?_ ?_, ⟨m + 1, by omega, rfl, rfl, ?_⟩, i4.fr ?_ ?_, i5.fr ?_ ?_ ?_ ?_, i6.fr ?_ ?_ ?_ ?_, i7.fr ?_⟩
    case refine_9 =>
      intro j hj
      by_cases hjm : j = m
      · subst hjm
        simp (disch := omega) only [rI_same, rI_ne]
      · simp (disch := omega) only [rI_ne]
        exact l3 j (by omega)
    all_goals (intros; simp (disch := omega) only [rI_ne, rR_wI])
  · have hm2 : m = 72 := by omega
    subst hm2
    rw [if_neg (by decide), if_pos (show nI 72 = 72 from rfl)]
    exact ag_no 6 rfl (by decide) (by decide) i
theorem a_drop : Ag_drop Inv := by
  intro hC hM i
  obtain ⟨n, ⟨f0, f1, f2, f3⟩, ⟨m, x, u0, u1, u2, u3, u4, u5⟩, i3, i4, i5, i6, i7⟩ := id i
  unfold f_X10_drop f_X11_drop
  simp only [bd2_id, hl_d]
  rw [f1, f2]
  by_cases hn : n = 0
  · subst hn
    rw [if_neg (by decide), if_pos (show nI 0 = 0 from rfl)]
    exact ag_no 3 rfl (by decide) (by decide) i
  · rw [if_pos (show (0 : Int32) < nI n from nI_lt (a := 0) (by omega) (by omega)), if_neg (nI_ne0 (by omega) (by omega))]
    have e : nI n - 1 = nI (n - 1) := by rw [i1, pk_sub (by omega)]
    simp (disch := omega) only [rI_same, rI_ne, f1, f2, e]
    refine ag_c (nI (n - 1)) (wI (wI hC 56 3 (nI (n - 1))) 74 0 0) (wI (wI hM 0 8 0) 0 5 (nI (n - 1))) rfl rfl ⟨n - 1, ⟨by omega, rfl, rfl, fun f hf => ?_⟩, InvU.nil x u1 rfl rfl ?_, i3.fr ?_ ?_ ?_ ?_, i4.fr ?_ ?_, i5.fr ?_ ?_ ?_ ?_, i6.fr ?_ ?_ ?_ ?_, i7.fr ?_⟩
    · obtain ⟨F, a, b, c⟩ := f3 f (by omega)
      refine ⟨F, a.fr ?_ ?_, b.fr ?_ ?_ ?_ ?_, c⟩
      all_goals (intros; simp (disch := omega) only [rI_ne])
    · simp (disch := omega) only [rI_ne, u4]
    all_goals (intros; simp (disch := omega) only [rI_ne, rR_wI])
theorem under_ok : ∀ a, a < 6 → ∀ b, b < 6 → f_X10_isUnder (nI a) (nI b) hC0 = some (decide (b = 0 ∨ b = a ∨ (b = 1 ∧ a = 4) ∨ (b = 2 ∧ a = 5))) := by decide +kernel
theorem a_taken : Ag_taken Inv := by
  intro hC hM p1 p2 i
  obtain ⟨n, i1, -⟩ := id i
  unfold f_X10_taken f_X11_taken f_X11_taken_j27
  simp only [bd2_id]
  rcases form_cases i1 p1 with ⟨a, b⟩ | ⟨f, hf, hf6, rfl, a, b, F, c1, c2, c3⟩
  · rw [if_pos a, if_neg (by rw [b]; decide), if_neg (by decide)]
    exact ag_no 1 rfl (by decide) (by decide) i
  rw [if_neg (by rw [a]; decide), if_pos b]
  rcases nb_cases p2 6 (by decide) with ⟨a2, b2⟩ | ⟨k, hk, rfl, a2, b2⟩
  · rw [if_pos (show f_X10_notBelow p2 6 = true from a2), if_neg (show ¬ f_X11_isIn p2 0 5 = true by rw [show f_X11_isIn p2 0 5 = false from b2]; decide), if_neg (by decide)]
    exact ag_no 2 rfl (by decide) (by decide) i
  rw [if_neg (show ¬ f_X10_notBelow (nI k) 6 = true by rw [show f_X10_notBelow (nI k) 6 = false from a2]; decide), if_pos (show f_X11_isIn (nI k) 0 5 = true from b2), if_pos trivial, inbN hf6 (by decide), gd_t, gd_t, nI_clamp (by omega), c1.1, c2.1]
  have hk5 := c3.1
  have e : f_X10_isUnder (nI F.1) (nI k) hC = f_X10_isUnder (nI F.1) (nI k) hC0 := rfl
  rw [e, under_ok F.1 (by omega) k hk, Option.bind_some]
  unfold f_X11_taken_j78 f_X11_taken_j67 f_X11_taken_j82 f_X11_taken_j78 f_X11_taken_j83
  simp only [if_true]
  have q0 : (nI k = 0) ↔ k = 0 := nI_eq (b := 0) (by omega) (by decide)
  have q1 : (nI k = nI F.1) ↔ k = F.1 := nI_eq (by omega) (by omega)
  have q2 : (nI k = 1) ↔ k = 1 := nI_eq (b := 1) (by omega) (by decide)
  have q3 : (nI k = 2) ↔ k = 2 := nI_eq (b := 2) (by omega) (by decide)
  have q4 : (nI F.1 = 4) ↔ F.1 = 4 := nI_eq (b := 4) (by omega) (by decide)
  have q5 : (nI F.1 = 5) ↔ F.1 = 5 := nI_eq (b := 5) (by omega) (by decide)
  simp only [q0, q1, q2, q3, q4, q5, decide_eq_true_eq]
  by_cases h : k = 0 ∨ k = F.1 ∨ (k = 1 ∧ F.1 = 4) ∨ (k = 2 ∧ F.1 = 5)
  · rw [if_pos h]
    refine ag_c (nI F.1) hC hM rfl ?_ i
    repeat' split
    all_goals first | rfl | (exfalso; omega)
  · rw [if_neg h]
    refine ag_c (-16) hC hM rfl ?_ i
    repeat' split
    all_goals first | rfl | (exfalso; omega) | contradiction
end OPS1
