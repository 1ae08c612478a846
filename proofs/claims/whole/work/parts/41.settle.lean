section SETTLE
variable {hC hM : pq_H}
def rgJ (x : Int64) : Bool := !(decide (x < -1000000)) && decide (x ≤ 1000000)
theorem rgJ_iff {x : Int64} : rgJ x = true ↔ (¬ x < -1000000 ∧ x ≤ 1000000) := by
  simp [rgJ]
theorem nought1_ok (p : Nat) (h : pq_H) : ok (f_X1_makeNought p h) (fun h' => (∀ P k, P ≠ p → P ≠ p + 12 → rI h' P k = rI h P k) ∧ (∀ P k, rJ h' P k = rJ h P k) ∧ rI h' p 1 = 0 ∧ rI h' p 2 = 0 ∧ rI h' p 3 = 0 ∧ (∀ t, t < 28 → rI h' (p + 12) t = 0) ∧ ∀ P k, rR h' P k = rR h P k) := by
  unfold f_X1_makeNought
  rw [hl_d, hl_d, hl_d]
  refine lp_forH (fun i h' => (∀ P k, P ≠ p → P ≠ p + 12 → rI h' P k = rI h P k) ∧ (∀ P k, rJ h' P k = rJ h P k) ∧ rI h' p 1 = 0 ∧ rI h' p 2 = 0 ∧ rI h' p 3 = 0 ∧ (∀ t, t < i → rI h' (p + 12) t = 0) ∧ ∀ P k, rR h' P k = rR h P k) 28 ?_ ?_ 1000 0 _ (by omega) (by omega) ⟨?_, fun _ _ => rfl, ?_, ?_, ?_, ?_, fun _ _ => rfl⟩
  · intro i h' w hi ⟨g1, g2, g3, g4, g5, g6, g7⟩ hw
    unfold f_X1_makeNought_l17
    rw [show (28 : Int32) = nI 28 from rfl, if_neg (nI_ge hi (by omega)), inbN hi (by decide), gd_t, nI_clamp (by omega), nI_1]
    refine hw _ ⟨fun P k e1 e2 => ?_, g2, ?_, ?_, ?_, fun t ht => ?_, g7⟩
    · rw [rI_ne (by omega)]; exact g1 P k e1 e2
    · rw [rI_ne (by omega)]; exact g3
    · rw [rI_ne (by omega)]; exact g4
    · rw [rI_ne (by omega)]; exact g5
    · by_cases e : t = i
      · subst e; rw [rI_same]
      · rw [rI_ne (by omega)]; exact g6 t (by omega)
  · intro h' w g
    unfold f_X1_makeNought_l17
    rw [if_pos (show (28 : Int32) ≤ nI 28 from le_nIn (Nat.le_refl _) (by omega))]
    exact ok_some g
  · intro P k e1 e2; rw [rI_ne (by omega), rI_ne (by omega), rI_ne (by omega)]
  · rw [rI_ne (by omega), rI_ne (by omega), rI_same]
  · rw [rI_ne (by omega), rI_same]
  · rw [rI_same]
  · intro t ht; omega
theorem full_ok {n : Nat} (h6 : n ≤ 6) (h : pq_H) (e : rI h 56 3 = nI n) : f_X6_isFull h = decide (n = 6) := by
  unfold f_X6_isFull
  rw [e]
  by_cases z : n = 6
  · subst z; rfl
  · rw [if_pos (show nI n < 6 from nI_lt (b := 6) (by omega) (by decide))]
    simp [z]
theorem settleBig {n D : Nat} (h6 : n ≤ 6) (e : rI hC 56 3 = nI n) (c : rI hC 59 1 = nI D) (hD : 6 < D) (hD2 : D ≤ 18) : f_X6_settle hC = some (false, hC) := by
  unfold f_X6_settle
  rw [full_ok h6 hC e, c]
  by_cases z : n = 6
  · rw [decide_eq_true z, if_pos rfl]
  · rw [decide_eq_false z, if_neg (by decide), if_neg (show ¬ nI D ≤ 6 from nI_ge (a := 6) (by omega) (by omega))]
def newF (D : Nat) (T : Nat → Int64) : pF := (0, 0, D, fun t => if t < tri (D + 1) then (T t).toInt32 else 0)
theorem okF_new {D : Nat} {T : Nat → Int64} (hD : D ≤ 6) (h : ∀ t, t < tri (D + 1) → rgJ (T t) = true) : okF (newF D T) := by
  refine ⟨by show 0 ≤ 5; omega, by show 0 ≤ 9; omega, hD, fun t ht => ?_⟩
  show bdI (if t < tri (D + 1) then (T t).toInt32 else 0)
  by_cases z : t < tri (D + 1)
  · rw [if_pos z]
    obtain ⟨a, b⟩ := rgJ_iff.mp (h t z)
    have a := Int64.le_iff_toInt_le.mp (Int64.not_lt.mp a)
    have b := Int64.le_iff_toInt_le.mp b
    rw [show (-1000000 : Int64).toInt = -1000000 by decide] at a
    rw [show (1000000 : Int64).toInt = 1000000 by decide] at b
    unfold bdI
    rw [Int64.toInt_toInt32, Int.bmod_eq_of_le (by omega) (by omega)]
    exact ⟨a, b⟩
  · rw [if_neg z]
    exact ⟨by decide, by decide⟩
/-- the class's row becomes form n -/
theorem bring_ok {n D : Nat} (hn : n < 6) (hD : D ≤ 6) (e : rI hC 56 3 = nI n) (c : rI hC 59 1 = nI D) : ok (f_X6_settle_j79 (nI (tri (D + 1))) hC) (fun r => r.1 = true ∧ (∀ P k, P ≠ n → P ≠ n + 12 → (P ≠ 56 ∨ k ≠ 3) → rI r.2 P k = rI hC P k) ∧ rI r.2 56 3 = nI (n + 1) ∧ FormC r.2 n (newF D (rJ hC 60)) ∧ ∀ k, rR r.2 72 k = rR hC 72 k) := by
  have hb := tri28 hD
  unfold f_X6_settle_j79
  rw [e, inbN hn (by decide), gd_t, nI_clamp (by omega)]
  refine ok_bind (nought1_ok n hC) (fun h1 ⟨g1, g2, g3, g4, g5, g6, g7⟩ => ?_)
  rw [hl_d, g1 59 1 (by omega) (by omega), c]
  refine lp_forH (fun i h' => (∀ P k, P ≠ n → P ≠ n + 12 → rI h' P k = rI hC P k) ∧ (∀ P k, rJ h' P k = rJ hC P k) ∧ rI h' n 1 = 0 ∧ rI h' n 2 = 0 ∧ rI h' n 3 = nI D ∧ (∀ t, t < 28 → rI h' (n + 12) t = if t < i then (rJ hC 60 t).toInt32 else 0) ∧ ∀ k, rR h' 72 k = rR hC 72 k) (tri (D + 1)) ?_ ?_ 1000 0 _ (by omega) (by omega) ⟨?_, g2, ?_, ?_, ?_, ?_, fun k => g7 72 k⟩
  · intro i h' w hi ⟨k1, k2, k3, k4, k5, k6, k7⟩ hw
    unfold f_X6_settle_l106
    rw [if_neg (nI_ge hi (by omega)), inbN (show i < 190 by omega) (by decide), inbN (show i < 28 by omega) (by decide), gd_t, gd_t, nI_clamp (by omega), nI_1, k2]
    refine hw _ ⟨fun P k e1 e2 => ?_, k2, ?_, ?_, ?_, fun t ht => ?_, k7⟩
    · rw [rI_ne (by omega)]; exact k1 P k e1 e2
    · rw [rI_ne (by omega)]; exact k3
    · rw [rI_ne (by omega)]; exact k4
    · rw [rI_ne (by omega)]; exact k5
    · by_cases z : t = i
      · subst z; rw [rI_same, if_pos (by omega)]
      · rw [rI_ne (by omega), k6 t ht]
        by_cases y : t < i
        · rw [if_pos y, if_pos (by omega)]
        · rw [if_neg y, if_neg (by omega)]
  · intro h' w ⟨k1, k2, k3, k4, k5, k6, k7⟩
    unfold f_X6_settle_l106 f_X6_settle_j133
    rw [if_pos (le_nIn (Nat.le_refl _) (by omega)), k1 56 3 (by omega) (by omega), e, nI_1]
    refine ok_some ⟨rfl, fun P k e1 e2 e3 => ?_, rI_same _ _ _ _, ⟨?_, ?_, ?_, fun t ht => ?_⟩, k7⟩
    · rw [rI_ne (by omega)]; exact k1 P k e1 e2
    · rw [rI_ne (by omega)]; exact k3
    · rw [rI_ne (by omega)]; exact k4
    · rw [rI_ne (by omega)]; exact k5
    · rw [rI_ne (by omega)]; exact k6 t ht
  · intro P k e1 e2; rw [rI_ne (by omega)]; exact g1 P k e1 e2
  · rw [rI_ne (by omega)]; exact g3
  · rw [rI_ne (by omega)]; exact g4
  · rw [rI_same]
  · intro t ht; rw [rI_ne (by omega), if_neg (by omega)]; exact g6 t ht
theorem comes_ok {n D : Nat} (hn : n < 6) (hD : D ≤ 6) (e : rI hM 0 5 = nI n) : ok (f_X11_comes (nI D) hM) (fun r => r.1 = nI n ∧ (∀ P k, (P = 0 ∧ k ≠ 5) ∨ P = 1 ∨ (P = 2 ∧ (k < 28 * n ∨ 28 * n + 28 ≤ k)) ∨ (3 ≤ P ∧ P ≤ 5 ∧ k ≠ n) ∨ 6 ≤ P → rI r.2 P k = rI hM P k) ∧ rI r.2 0 5 = nI (n + 1) ∧ FormM r.2 n (newF D (rJ hM 8))) := by
  have hb := tri28 hD
  unfold f_X11_comes
  refine lp_forH (fun i h' => (∀ P k, P ≠ 2 ∨ k < 28 * n ∨ 28 * n + 28 ≤ k → rI h' P k = rI hM P k) ∧ (∀ P k, rJ h' P k = rJ hM P k) ∧ ∀ t, t < i → rI h' 2 (28 * n + t) = if t < tri (D + 1) then (rJ hM 8 t).toInt32 else 0) 28 ?_ ?_ 1000 0 hM (by omega) (by omega) ⟨fun _ _ _ => rfl, fun _ _ => rfl, fun t ht => by omega⟩
  · intro i h' w hi ⟨k1, k2, k3⟩ hw
    unfold f_X11_comes_l2 f_X11_comes_j40
    rw [show (28 : Int32) = nI 28 from rfl, if_neg (nI_ge hi (by omega)), termsOfM_nI (by omega), k1 0 5 (by omega), e, pk_mul, nI_add, inbN (show 28 * n + i < 168 by omega) (by decide), inbN hi (by decide), nI_clamp (by omega), nI_clamp (by omega), nI_1, k2]
    simp only [gd_t]
    have go : ∀ v : Int32, v = (if i < tri (D + 1) then (rJ hM 8 i).toInt32 else 0) → (∀ P k, P ≠ 2 ∨ k < 28 * n ∨ 28 * n + 28 ≤ k → rI (wI h' 2 (28 * n + i) v) P k = rI hM P k) ∧ (∀ P k, rJ (wI h' 2 (28 * n + i) v) P k = rJ hM P k) ∧ ∀ t, t < i + 1 → rI (wI h' 2 (28 * n + i) v) 2 (28 * n + t) = if t < tri (D + 1) then (rJ hM 8 t).toInt32 else 0 := by
      intro v hv
      refine ⟨fun P k e1 => ?_, k2, fun t ht => ?_⟩
      · rw [rI_ne (by omega)]; exact k1 P k e1
      · by_cases z : t = i
        · subst z; rw [rI_same, hv]
        · rw [rI_ne (by omega)]; exact k3 t (by omega)
    by_cases z : i < tri (D + 1)
    · rw [if_neg (nI_ge z (by omega))]
      exact hw _ (go _ (if_pos z).symm)
    · rw [if_pos (le_nIn (by omega) (by omega))]
      exact hw _ (go _ (if_neg z).symm)
  · intro h' w ⟨k1, k2, k3⟩
    unfold f_X11_comes_l2 f_X11_comes_j47
    have q : rI h' 0 5 = nI n := (k1 0 5 (by omega)).trans e
    rw [if_pos (show (28 : Int32) ≤ nI 28 from le_nIn (Nat.le_refl _) (by omega))]
    simp (disch := omega) only [hl_d, rI_ne, rI_same, q, inbN, gd_t, nI_clamp, nI_1]
    rw [show nI (n + 1) - 1 = nI n by rw [i1, pk_sub (by omega), Nat.add_sub_cancel]]
    refine ok_some ⟨rfl, fun P k hP => ?_, rI_same _ _ _ _, ⟨?_, ?_, ?_, fun t ht => ?_⟩⟩
    · rw [rI_ne (by omega), rI_ne (by omega), rI_ne (by omega), rI_ne (by omega)]; exact k1 P k (by omega)
    · rw [rI_ne (by omega), rI_ne (by omega), rI_ne (by omega), rI_same]; rfl
    · rw [rI_ne (by omega), rI_ne (by omega), rI_same]; rfl
    · rw [rI_ne (by omega), rI_same]; rfl
    · rw [rI_ne (by omega), rI_ne (by omega), rI_ne (by omega), rI_ne (by omega)]; exact k3 t (by omega)
theorem newF_congr {D : Nat} {T T' : Nat → Int64} (h : ∀ t, t < tri (D + 1) → T t = T' t) : newF D T = newF D T' := by
  unfold newF
  congr 3
  funext t
  by_cases z : t < tri (D + 1)
  · rw [if_pos z, if_pos z, h t z]
  · rw [if_neg z, if_neg z]
theorem InvG_new {n m D : Nat} {hC hM hC' hM' : pq_H} (i : InvG n m hC hM) (hn : n < 6) {F : pF} (hF : okF F) (c1 : ∀ P k, P ≠ n → P ≠ n + 12 → (P ≠ 56 ∨ k ≠ 3) → (P < 59 ∨ P = 61 ∨ P = 62 ∨ 73 < P) → rI hC' P k = rI hC P k) (c2 : rI hC' 56 3 = nI (n + 1)) (c3 : FormC hC' n F) (c4 : ∀ k, rR hC' 72 k = rR hC 72 k) (m1 : ∀ P k, (P = 0 ∧ (k = 8 ∨ k = 11 ∨ k = 42)) ∨ P = 1 ∨ (P = 2 ∧ (k < 28 * n ∨ 28 * n + 28 ≤ k)) ∨ (3 ≤ P ∧ P ≤ 5 ∧ k ≠ n) ∨ P = 6 ∨ P = 7 ∨ P = 9 ∨ 20 ≤ P → rI hM' P k = rI hM P k) (m2 : rI hM' 0 5 = nI (n + 1)) (m3 : FormM hM' n F) : InvG (n + 1) m hC' hM' := by
  obtain ⟨i1, i2, i3, i4, i5, i6, i7⟩ := i
  refine ⟨⟨by omega, c2, m2, fun f hf => ?_⟩, i2.fr ?_ ?_ ?_ ?_, i3.fr ?_ ?_ ?_ ?_, i4.fr ?_ ?_, i5.fr ?_ ?_ ?_ ?_, i6.fr ?_ ?_ ?_ ?_, i7.fr c4⟩
  case refine_1 =>
    by_cases z : f = n
    · subst z; exact ⟨F, c3, m3, hF⟩
    · obtain ⟨F', a, b, c⟩ := i1.2.2.2 f (by omega)
      exact ⟨F', a.fr (fun k => c1 _ _ (by omega) (by omega) (by omega) (by omega)) (fun k => c1 _ _ (by omega) (by omega) (by omega) (by omega)), b.fr (m1 _ _ (by omega)) (m1 _ _ (by omega)) (m1 _ _ (by omega)) (fun t ht => m1 _ _ (by omega)), c⟩
  all_goals first | (intros; exact c1 _ _ (by omega) (by omega) (by omega) (by omega)) | (intros; exact m1 _ _ (by omega))
theorem allB_congr {p q : Nat → Bool} {n : Nat} (h : ∀ k, k < n → p k = q k) : allB p n = allB q n := by
  induction n with
  | zero => rfl
  | succ n ih => rw [allB_s, allB_s, ih (fun k hk => h k (by omega)), h n (by omega)]
/-- the acts that were read stay -/
def AF (hC hC' hM hM' : pq_H) : Prop := (∀ P k, 65 ≤ P → P ≤ 69 → rI hC' P k = rI hC P k) ∧ ∀ P k, (11 ≤ P ∧ P ≤ 14) ∨ (P = 0 ∧ k = 18) → rI hM' P k = rI hM P k
theorem AF.rf (hC hM : pq_H) : AF hC hC hM hM := ⟨fun _ _ _ _ => rfl, fun _ _ _ => rfl⟩
theorem AF.tr {a b c d e f : pq_H} (h1 : AF a b d e) (h2 : AF b c e f) : AF a c d f := ⟨fun P k x y => (h2.1 P k x y).trans (h1.1 P k x y), fun P k x => (h2.2 P k x).trans (h1.2 P k x)⟩
theorem AF.of {hC hC' hM hM' : pq_H} (h1 : frC hC hC') (h2 : frM hM hM') : AF hC hC' hM hM' := ⟨fun P k x y => h1.1 P (by omega) k, fun P k x => by
  by_cases z : P = 0 ∧ k = 18
  · rw [z.1, z.2]; exact h2.2.2.2.2.2
  · exact h2.1 P (by omega) k⟩
/-- both sides take the row, or both refuse it -/
theorem settle2 {n m D : Nat} (i : InvG n m hC hM) (hD : D ≤ 6) (c : rI hC 59 1 = nI D) (e : ∀ t, t < tri (D + 1) → rJ hC 60 t = rJ hM 8 t) : (∃ hC' hM', f_X6_settle hC = some (true, hC') ∧ f_X11_comesIf (nI D) hM = some (nI n, hM') ∧ n < 6 ∧ InvG (n + 1) m hC' hM' ∧ AF hC hC' hM hM') ∨ (f_X6_settle hC = some (false, hC) ∧ f_X11_comesIf (nI D) hM = some (-6, hM)) := by
  have hb := tri28 hD
  obtain ⟨⟨h6, f1, f2, f3⟩, -⟩ := id i
  -- what the reference asks
  have canM : f_X11_canCome (nI D) hM = some (decide (n < 6) && allB (fun t => rgJ (rJ hM 8 t)) (tri (D + 1))) := by
    have run : ∀ b : Bool, ok (f_X11_canCome_j20 (nI D) hM b) (fun r => r = (b && allB (fun t => rgJ (rJ hM 8 t)) (tri (D + 1)))) := by
      intro b
      unfold f_X11_canCome_j20
      refine lp_gen (fun (w : Bool → Int32 → Option Bool) (s : Bool × Int32) => w s.1 s.2) (fun i (x : Bool × Int32) => (x.1 = true → b = true ∧ x.2 = nI i ∧ allB (fun t => rgJ (rJ hM 8 t)) i = true) ∧ (x.1 = false → (b && allB (fun t => rgJ (rJ hM 8 t)) (tri (D + 1))) = false)) (tri (D + 1)) ?_ ?_ 1000 0 (b, 0) (by omega) (by omega) ⟨fun z => ⟨z, rfl, rfl⟩, fun z => by have z : b = false := z; rw [z]; rfl⟩
      · intro j x w hj hI hw
        obtain ⟨f, k⟩ := x
        obtain ⟨q1, q2⟩ := hI
        show ok (f_X11_canCome_l23 (nI D) hM w f k) _
        unfold f_X11_canCome_l23 f_X11_canCome_j65 f_X11_canCome_j66
        cases f with
        | false =>
          rw [if_neg (by decide)]
          exact ok_some (q2 rfl).symm
        | true =>
          obtain ⟨r0, r1, r2⟩ := q1 rfl
          simp only at r1
          subst r1
          rw [if_pos rfl, termsOfM_nI (by omega), if_neg (nI_ge hj (by omega)), inbN (show j < 28 by omega) (by decide), gd_t, gd_t, nI_clamp (by omega), nI_1]
          have bad : rgJ (rJ hM 8 j) = false → ok (w false (nI (j + 1))) (fun r => r = (b && allB (fun t => rgJ (rJ hM 8 t)) (tri (D + 1)))) := fun z => by
            refine hw (false, nI (j + 1)) ⟨fun y => ?_, fun _ => ?_⟩
            · have y : false = true := y
              cases y
            · rw [allB_f hj z, Bool.and_false]
          by_cases z1 : rJ hM 8 j < -1000000
          · rw [if_pos z1]
            exact bad (Bool.eq_false_iff.mpr (fun y => (rgJ_iff.mp y).1 z1))
          rw [if_neg z1]
          by_cases z2 : 1000000 < rJ hM 8 j
          · rw [if_pos z2]
            exact bad (Bool.eq_false_iff.mpr (fun y => Int64.not_lt.mpr (rgJ_iff.mp y).2 z2))
          rw [if_neg z2]
          refine hw (true, nI (j + 1)) ⟨fun _ => ⟨r0, rfl, ?_⟩, fun y => ?_⟩
          case refine_2 =>
            have y : true = false := y
            cases y
          rw [allB_s, r2, rgJ_iff.mpr ⟨z1, Int64.not_lt.mp z2⟩]
          rfl
      · intro x w hI
        obtain ⟨f, k⟩ := x
        obtain ⟨q1, q2⟩ := hI
        show ok (f_X11_canCome_l23 (nI D) hM w f k) _
        unfold f_X11_canCome_l23
        cases f with
        | false =>
          rw [if_neg (by decide)]
          exact ok_some (q2 rfl).symm
        | true =>
          obtain ⟨r0, r1, r2⟩ := q1 rfl
          simp only at r1
          subst r1
          rw [if_pos rfl, termsOfM_nI (by omega), if_pos (le_nIn (Nat.le_refl _) (by omega))]
          refine ok_some ?_
          rw [r0, r2]
          rfl
    unfold f_X11_canCome f_X11_canCome_j19
    rw [f2]
    by_cases z : n < 6
    · rw [if_neg (show ¬ (6 : Int32) ≤ nI n from nI_ge (b := 6) z (by omega)), if_neg (show ¬ (6 : Int32) < nI D from nI_nlt (a := 6) hD (by omega)), ok_eq (run true), decide_eq_true z]
    · rw [if_pos (show (6 : Int32) ≤ nI n from le_nIn (a := 6) (by omega) (by omega)), ok_eq (run false), decide_eq_false z]
  have eqA : allB (fun t => rgJ (rJ hC 60 t)) (tri (D + 1)) = allB (fun t => rgJ (rJ hM 8 t)) (tri (D + 1)) := allB_congr (fun t ht => congrArg rgJ (e t ht))
  unfold f_X11_comesIf
  rw [canM, Option.bind_some, bd2_id]
  unfold f_X6_settle
  rw [full_ok h6 hC f1, c, termsOf_nI (by omega)]
  by_cases z : n < 6
  case neg =>
    right
    rw [decide_eq_true (show n = 6 by omega), if_pos rfl, decide_eq_false z, Bool.false_and, if_neg (by decide)]
    exact ⟨rfl, rfl⟩
  rw [decide_eq_false (show ¬ n = 6 by omega), if_neg (by decide), if_pos (show nI D ≤ 6 from le_nIn (b := 6) hD (by omega)), decide_eq_true z, Bool.true_and]
  have runC : ok (lp (fun _ => none) (f_X6_settle_l34 (nI (tri (D + 1))) hC) 1000 0) (fun r => (allB (fun t => rgJ (rJ hC 60 t)) (tri (D + 1)) = true ∧ f_X6_settle_j79 (nI (tri (D + 1))) hC = some r) ∨ (allB (fun t => rgJ (rJ hC 60 t)) (tri (D + 1)) = false ∧ r = (false, hC))) := by
    refine lp_forR (fun i => allB (fun t => rgJ (rJ hC 60 t)) i = true) (tri (D + 1)) ?_ ?_ 1000 0 (by omega) (by omega) rfl
    · intro j w hj hI hw
      unfold f_X6_settle_l34
      rw [if_neg (nI_ge hj (by omega)), inbN (show j < 190 by omega) (by decide), gd_t, gd_t, nI_clamp (by omega), nI_1]
      by_cases z1 : rJ hC 60 j < -1000000
      · rw [if_pos z1]
        exact ok_some (Or.inr ⟨allB_f hj (Bool.eq_false_iff.mpr (fun y => (rgJ_iff.mp y).1 z1)), rfl⟩)
      rw [if_neg z1]
      by_cases z2 : rJ hC 60 j ≤ 1000000
      · rw [if_pos z2]
        refine hw ?_
        rw [allB_s, hI, rgJ_iff.mpr ⟨z1, z2⟩]
        rfl
      · rw [if_neg z2]
        exact ok_some (Or.inr ⟨allB_f hj (Bool.eq_false_iff.mpr (fun y => z2 (rgJ_iff.mp y).2)), rfl⟩)
    · intro w hI
      unfold f_X6_settle_l34
      rw [if_pos (le_nIn (Nat.le_refl _) (by omega))]
      obtain ⟨r, er, -⟩ := bring_ok (hC := hC) z hD f1 c
      rw [er]
      exact ok_some (Or.inl ⟨hI, rfl⟩)
  obtain ⟨r, er, ⟨q1, q2⟩ | ⟨q1, q2⟩⟩ := runC
  · left
    rw [← eqA, q1, if_pos rfl, er]
    obtain ⟨⟨b, h'⟩, er2, k1, k2, k3, k4, k5⟩ := bring_ok (hC := hC) z hD f1 c
    obtain ⟨⟨v, h''⟩, em, m1, m2, m3, m4⟩ := comes_ok (hM := hM) z hD f2
    simp only at k1 k2 k3 k4 k5 m1 m2 m3 m4
    rw [er2] at q2
    cases q2
    subst k1 m1
    refine ⟨h', h'', rfl, em, z, ?_⟩
    rw [newF_congr e] at k4
    have hF : okF (newF D (rJ hM 8)) := okF_new hD (fun t ht => by rw [eqA] at q1; exact allB_t q1 ht)
    exact ⟨InvG_new (D := D) i z hF (fun P k e1 e2 e3 _ => k2 P k e1 e2 e3) k3 k4 k5 (fun P k hP => m2 P k (by omega)) m3 m4, fun P k x y => k2 P k (by omega) (by omega) (by omega), fun P k x => m2 P k (by omega)⟩
  · right
    rw [← eqA, q1, if_neg (by decide), er, q2]
    exact ⟨rfl, rfl⟩
end SETTLE
