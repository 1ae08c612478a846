section SETTLE
variable {hC hM : pq_H}
def rgJ (x : Int64) : Bool := !(decide (x < -1000000)) && decide (x ≤ 1000000)
theorem rgJ_iff {x : Int64} : rgJ x = true ↔ (¬ x < -1000000 ∧ x ≤ 1000000) := by
  simp [rgJ]
theorem nought1_ok (p : Nat) (h : pq_H) : ok (f_X1_makeNought p h) (fun h' => (∀ P k, P ≠ p → P ≠ p + 12 → rI h' P k = rI h P k) ∧ (∀ P k, rJ h' P k = rJ h P k) ∧ rI h' p 1 = 0 ∧ rI h' p 2 = 0 ∧ rI h' p 3 = 0 ∧ (∀ t, t < 28 → rI h' (p + 12) t = 0) ∧ ∀ P k, rR h' P k = rR h P k) := by
  unfold f_X1_makeNought
  rw [hl_d, hl_d, hl_d]
  refine lp_forH (fun i h' => (∀ P k, P ≠ p → P ≠ p + 12 → rI h' P k = rI h P k) ∧ (∀ P k, rJ h' P k = rJ h P k) ∧ rI h' p 1 = 0 ∧ rI h' p 2 = 0 ∧ rI h' p 3 = 0 ∧ (∀ t, t < i → rI h' (p + 12) t = 0) ∧ ∀ P k, rR h' P k = rR h P k) 28 ?_ ?_ 1000 0 _ (by omega) (by omega) ⟨?_, fun _ _ => rfl, ?_, ?_, ?_, ?_, fun _ _ => rfl⟩
  · intro i h' w hi ⟨g1, g2, g3, g4, g5, g6, g7⟩ hw
    unfold f_X1_makeNought_l17
    rw [show (28 : Int32) = nI 28 from rfl, if_neg (nI_ge hi (by omega)), inbN hi (by decide), gd_t, nI_clamp (by omega), nI_1]
    refine hw _ ⟨fun P k e1 e2 => ?_, g2, ?_, ?_, ?_, fun t ht => ?_, g7⟩
    · rw [rI_ne (by omega)]; exact g1 P k e1 e2
    · rw [rI_ne (by omega)]; exact g3
    · rw [rI_ne (by omega)]; exact g4
    · rw [rI_ne (by omega)]; exact g5
    · by_cases e : t = i
      · subst e; rw [rI_same]
      · rw [rI_ne (by omega)]; exact g6 t (by omega)
  · intro h' w g
    unfold f_X1_makeNought_l17
    rw [if_pos (show (28 : Int32) ≤ nI 28 from le_nIn (Nat.le_refl _) (by omega))]
    exact ok_some g
  · intro P k e1 e2; rw [rI_ne (by omega), rI_ne (by omega), rI_ne (by omega)]
  · rw [rI_ne (by omega), rI_ne (by omega), rI_same]
  · rw [rI_ne (by omega), rI_same]
  · rw [rI_same]
  · intro t ht; omega
theorem full_ok {n : Nat} (h6 : n ≤ 6) (h : pq_H) (e : rI h 56 3 = nI n) : f_X6_isFull h = decide (n = 6) := by
  unfold f_X6_isFull
  rw [e]
  by_cases z : n = 6
  · subst z; rfl
  · rw [if_pos (show nI n < 6 from nI_lt (b := 6) (by omega) (by decide))]
    simp [z]
theorem settleBig {n D : Nat} (h6 : n ≤ 6) (e : rI hC 56 3 = nI n) (c : rI hC 59 1 = nI D) (hD : 6 < D) (hD2 : D ≤ 18) : f_X6_settle hC = some (false, hC) := by
  unfold f_X6_settle
  rw [full_ok h6 hC e, c]
  by_cases z : n = 6
  · rw [decide_eq_true z, if_pos rfl]
  · rw [decide_eq_false z, if_neg (by decide), if_neg (show ¬ nI D ≤ 6 from nI_ge (a := 6) (by omega) (by omega))]
def newF (D : Nat) (T : Nat → Int64) : pF := (0, 0, D, fun t => if t < tri (D + 1) then (T t).toInt32 else 0)
theorem okF_new {D : Nat} {T : Nat → Int64} (hD : D ≤ 6) (h : ∀ t, t < tri (D + 1) → rgJ (T t) = true) : okF (newF D T) := by
  refine ⟨by show 0 ≤ 5; omega, by show 0 ≤ 9; omega, hD, fun t ht => ?_⟩
  show bdI (if t < tri (D + 1) then (T t).toInt32 else 0)
  by_cases z : t < tri (D + 1)
  · rw [if_pos z]
    obtain ⟨a, b⟩ := rgJ_iff.mp (h t z)
    have a := Int64.le_iff_toInt_le.mp (Int64.not_lt.mp a)
    have b := Int64.le_iff_toInt_le.mp b
    rw [show (-1000000 : Int64).toInt = -1000000 by decide] at a
    rw [show (1000000 : Int64).toInt = 1000000 by decide] at b
    unfold bdI
    rw [Int64.toInt_toInt32, Int.bmod_eq_of_le (by omega) (by omega)]
    exact ⟨a, b⟩
  · rw [if_neg z]
    exact ⟨by decide, by decide⟩
/-- the class's row becomes form n -/
theorem bring_ok {n D : Nat} (hn : n < 6) (hD : D ≤ 6) (e : rI hC 56 3 = nI n) (c : rI hC 59 1 = nI D) : ok (f_X6_settle_j79 (nI (tri (D + 1))) hC) (fun r => r.1 = true ∧ (∀ P k, P ≠ n → P ≠ n + 12 → (P ≠ 56 ∨ k ≠ 3) → rI r.2 P k = rI hC P k) ∧ rI r.2 56 3 = nI (n + 1) ∧ FormC r.2 n (newF D (rJ hC 60)) ∧ ∀ k, rR r.2 72 k = rR hC 72 k) := by
  have hb := tri28 hD
  unfold f_X6_settle_j79
  rw [e, inbN hn (by decide), gd_t, nI_clamp (by omega)]
  refine ok_bind (nought1_ok n hC) (fun h1 ⟨g1, g2, g3, g4, g5, g6, g7⟩ => ?_)
  rw [hl_d, g1 59 1 (by omega) (by omega), c]
  refine lp_forH (fun i h' => (∀ P k, P ≠ n → P ≠ n + 12 → rI h' P k = rI hC P k) ∧ (∀ P k, rJ h' P k = rJ hC P k) ∧ rI h' n 1 = 0 ∧ rI h' n 2 = 0 ∧ rI h' n 3 = nI D ∧ (∀ t, t < 28 → rI h' (n + 12) t = if t < i then (rJ hC 60 t).toInt32 else 0) ∧ ∀ k, rR h' 72 k = rR hC 72 k) (tri (D + 1)) ?_ ?_ 1000 0 _ (by omega) (by omega) ⟨?_, g2, ?_, ?_, ?_, ?_, fun k => g7 72 k⟩
  · intro i h' w hi ⟨k1, k2, k3, k4, k5, k6, k7⟩ hw
    unfold f_X6_settle_l106
    rw [if_neg (nI_ge hi (by omega)), inbN (show i < 190 by omega) (by decide), inbN (show i < 28 by omega) (by decide), gd_t, gd_t, nI_clamp (by omega), nI_1, k2]
    refine hw _ ⟨fun P k e1 e2 => ?_, k2, ?_, ?_, ?_, fun t ht => ?_, k7⟩
    · rw [rI_ne (by omega)]; exact k1 P k e1 e2
    · rw [rI_ne (by omega)]; exact k3
    · rw [rI_ne (by omega)]; exact k4
    · rw [rI_ne (by omega)]; exact k5
    · by_cases z : t = i
      · subst z; rw [rI_same, if_pos (by omega)]
      · rw [rI_ne (by omega), k6 t ht]
        by_cases y : t < i
        · rw [if_pos y, if_pos (by omega)]
        · rw [if_neg y, if_neg (by omega)]
  · intro h' w ⟨k1, k2, k3, k4, k5, k6, k7⟩
    unfold f_X6_settle_l106 f_X6_settle_j133
    rw [if_pos (le_nIn (Nat.le_refl _) (by omega)), k1 56 3 (by omega) (by omega), e, nI_1]
    refine ok_some ⟨rfl, fun P k e1 e2 e3 => ?_, rI_same _ _ _ _, ⟨?_, ?_, ?_, fun t ht => ?_⟩, k7⟩
    · rw [rI_ne (by omega)]; exact k1 P k e1 e2
    · rw [rI_ne (by omega)]; exact k3
    · rw [rI_ne (by omega)]; exact k4
    · rw [rI_ne (by omega)]; exact k5
    · rw [rI_ne (by omega)]; exact k6 t ht
  · intro P k e1 e2; rw [rI_ne (by omega)]; exact g1 P k e1 e2
  · rw [rI_ne (by omega)]; exact g3
  · rw [rI_ne (by omega)]; exact g4
  · rw [rI_same]
  · intro t ht; rw [rI_ne (by omega), if_neg (by omega)]; exact g6 t ht
theorem newF_congr {D : Nat} {T T' : Nat → Int64} (h : ∀ t, t < tri (D + 1) → T t = T' t) : newF D T = newF D T' := by
  unfold newF
  congr 3
  funext t
  by_cases z : t < tri (D + 1)
  · rw [if_pos z, if_pos z, h t z]
  · rw [if_neg z, if_neg z]
theorem allB_congr {p q : Nat → Bool} {n : Nat} (h : ∀ k, k < n → p k = q k) : allB p n = allB q n := by
  induction n with
  | zero => rfl
  | succ n ih => rw [allB_s, allB_s, ih (fun k hk => h k (by omega)), h n (by omega)]
/-- the acts that were read stay -/
def AF (hC hC' hM hM' : pq_H) : Prop := (∀ P k, 65 ≤ P → P ≤ 69 → rI hC' P k = rI hC P k) ∧ ∀ P k, (11 ≤ P ∧ P ≤ 14) ∨ (P = 0 ∧ k = 18) → rI hM' P k = rI hM P k
theorem AF.rf (hC hM : pq_H) : AF hC hC hM hM := ⟨fun _ _ _ _ => rfl, fun _ _ _ => rfl⟩
theorem AF.tr {a b c d e f : pq_H} (h1 : AF a b d e) (h2 : AF b c e f) : AF a c d f := ⟨fun P k x y => (h2.1 P k x y).trans (h1.1 P k x y), fun P k x => (h2.2 P k x).trans (h1.2 P k x)⟩
end SETTLE
