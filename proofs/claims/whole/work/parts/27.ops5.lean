section OPS5
variable {hC hM : pq_H}
theorem nkind {k : Nat} (h : k < 6) : f_X11_isIn (nI k) 0 5 = true := by
  unfold f_X11_isIn
  rw [if_neg (nI_pos (by omega)), if_neg (show ¬ (5 : Int32) < nI k from nI_nlt (a := 5) (by omega) (by omega))]
theorem a_turn : Ag_turn Inv := by
  intro hC hM p1 p2 p3 i
  unfold f_X10_turn f_X11_turn f_X11_turn_j33 f_X11_bound
  simp only [bd2_id]
  obtain ⟨n, i1, i2, i3, i4, i5, i6, i7⟩ := id i
  rcases form_cases i1 p1 with ⟨a, b⟩ | ⟨f, hf, hf6, rfl, a, b, F, c1, c2, c3⟩
  · rw [if_pos a, if_neg (Bf b), if_neg (by decide)]
    exact ag_no 1 rfl (by decide) (by decide) i
  rw [if_neg (Bf a), if_pos b]
  rcases nb_cases p2 6 (by decide) with ⟨a2, b2⟩ | ⟨k, hk, rfl, a2, b2⟩
  · rw [if_pos (show f_X10_notBelow p2 6 = true from a2), if_neg (show ¬ f_X11_isIn p2 0 5 = true from Bf b2), if_neg (by decide)]
    exact ag_no 2 rfl (by decide) (by decide) i
  rw [if_neg (show ¬ f_X10_notBelow (nI k) 6 = true from Bf a2), if_pos (nkind hk)]
  by_cases q1 : 0 ≤ p3
  case neg =>
    rw [if_neg q1, if_neg q1, if_neg (by decide)]
    exact ag_no 4 rfl (by decide) (by decide) i
  by_cases q2 : p3 ≤ 9
  case neg =>
    rw [if_pos q1, if_pos q1, if_neg q2, if_neg q2, if_neg (by decide)]
    exact ag_no 6 rfl (by decide) (by decide) i
  obtain ⟨g, hg, rfl⟩ := nI_of2 (M := 9) (n := 9) rfl (by
    intro z
    have a := Int32.le_iff_toInt_le.mp q1
    have b := Int32.lt_iff_toInt_lt.mp z
    omega) q2
  rw [if_pos q1, if_pos q1, if_pos q2, if_pos q2, if_pos rfl, inbN hf6 (by decide), nI_clamp (by omega), c1.1, c1.2.1, c2.1, c2.2.1]
  simp only [gd_t, hl_d]
  obtain ⟨m, x, u0, u1, u2, u3, u4, u5⟩ := i2
  obtain ⟨m0, dl, hdl⟩ : ∃ m0 dl, (m < 16 ∧ m0 = m ∧ dl = 0) ∨ (m = 16 ∧ m0 = 15 ∧ dl = 1) := by
    by_cases z : m < 16
    · exact ⟨m, 0, Or.inl ⟨z, rfl, rfl⟩⟩
    · exact ⟨15, 1, Or.inr ⟨by omega, rfl, rfl⟩⟩
  have b1 := c3.1
  have b2 := c3.2.1
  have e10 : 10 * nI F.1 + nI F.2.1 = nI (10 * F.1 + F.2.1) := by rw [show (10 : Int32) = nI 10 from rfl, pk_mul, nI_add]
  obtain ⟨h', e1, g1, g2, g3, g4, g5, g6, g7, g8, g9⟩ := add_ok (h := hC) (m := m) (m0 := m0) u1 (by omega) u2 u4 (nI f) (-1) (nI F.1) (nI F.2.1)
  obtain ⟨k', e2, k1, k2, k3, k4, k5, k6⟩ := notes_ok hdl u3 (-1 - nI f) (10 * nI F.1 + nI F.2.1)
  rw [e1, e2, Option.bind_some, Option.bind_some, g1 f 1 (by omega), g1 f 2 (by omega), c1.1, c1.2.1]
  refine ag_c _ (wI (wI h' f 1 (nI k)) f 2 (nI g)) (wI (wI k' 3 f (nI k)) 4 f (nI g)) rfl rfl ⟨n, ⟨i1.1, ?_, ?_, fun f' hf' => ?_⟩, InvU.add u0 u1 u5 hdl ?_ ?_ ?_ ?_ ?_ ?_ ?_, i3.fr ?_ ?_ ?_ ?_, i4.fr ?_ ?_, i5.fr ?_ ?_ ?_ ?_, i6.fr ?_ ?_ ?_ ?_, i7.fr g9⟩
  case refine_3 =>
    by_cases e : f' = f
    · subst e
      refine ⟨(k, g, F.2.2.1, F.2.2.2), ⟨?_, ?_, ?_, fun u hu => ?_⟩, ⟨?_, ?_, ?_, fun u hu => ?_⟩, by show k ≤ 5; omega, hg, c3.2.2⟩
      · simp (disch := omega) only [rI_same, rI_ne]
      · simp (disch := omega) only [rI_same]
      · simp (disch := omega) only [rI_ne]; rw [g1 _ _ (by omega)]; exact c1.2.2.1
      · simp (disch := omega) only [rI_ne]; rw [g1 _ _ (by omega)]; exact c1.2.2.2 u hu
      · simp (disch := omega) only [rI_same, rI_ne]
      · simp (disch := omega) only [rI_same]
      · simp (disch := omega) only [rI_ne]; rw [k1 _ _ (by omega) (by omega) (by omega)]; exact c2.2.2.1
      · simp (disch := omega) only [rI_ne]; rw [k1 _ _ (by omega) (by omega) (by omega)]; exact c2.2.2.2 u hu
    · obtain ⟨F', d1, d2, d3⟩ := i1.2.2.2 f' hf'
      have hf'6 := i1.1
      refine ⟨F', d1.fr (fun k => ?_) (fun k => ?_), d2.fr ?_ ?_ ?_ (fun u hu => ?_), d3⟩
      · simp (disch := omega) only [rI_ne]; rw [g1 _ _ (by omega)]
      · simp (disch := omega) only [rI_ne]; rw [g1 _ _ (by omega)]
      all_goals (simp (disch := omega) only [rI_ne]; rw [k1 _ _ (by omega) (by omega) (by omega)])
  case refine_10 => exact ⟨f, hf, by simp (disch := omega) only [rI_ne, g5], Or.inr ⟨by simp (disch := omega) only [rI_ne, g6], F.1, F.2.1, b1, b2, by simp (disch := omega) only [rI_ne, g7], by simp (disch := omega) only [rI_ne, g8], by simp (disch := omega) only [rI_ne, k5], by simp (disch := omega) only [rI_ne, k6, e10]⟩⟩
  case refine_1 => simp (disch := omega) only [rI_ne]; rw [g1 _ _ (by omega)]; exact i1.2.1
  case refine_2 => simp (disch := omega) only [rI_ne]; rw [k1 _ _ (by omega) (by omega) (by omega)]; exact i1.2.2.1
  case refine_4 => intro p a b k hk; simp (disch := omega) only [rI_ne]; rw [g2 p a b k hk]
  case refine_5 => simp (disch := omega) only [rI_ne, g3]
  case refine_6 => simp (disch := omega) only [rI_ne, g4]
  case refine_7 => simp (disch := omega) only [rI_ne, k2]
  case refine_8 => intro k hk; simp (disch := omega) only [rI_ne]; exact k3 k hk
  case refine_9 => intro k hk; simp (disch := omega) only [rI_ne]; exact k4 k hk
  all_goals first | (intros; simp (disch := omega) only [rI_ne]; rw [g1 _ _ (by omega)]) | (intros; simp (disch := omega) only [rI_ne]; rw [k1 _ _ (by omega) (by omega) (by omega)])
theorem lacks_in {n f : Nat} (i : InvF n hC hM) (hf : f < n) : f_X6_lacks (nI f) hC = false := by
  have h6 := i.1
  unfold f_X6_lacks f_X10_notBelow
  rw [i.2.1, if_neg (nI_pos (by omega)), if_pos (nI_lt hf (by omega))]
def UD (hC hM : pq_H) (f j k : Nat) : Prop := (∃ t, t < 28 ∧ rI hC 76 j = nI t ∧ rI hM 6 k = nI (28 * f + t) ∧ rI hM 7 k = rI hC 77 j ∧ bdI (rI hC 77 j)) ∨ (rI hC 76 j = -1 ∧ ∃ a b, a ≤ 5 ∧ b ≤ 9 ∧ rI hC 77 j = nI a ∧ rI hC 78 j = nI b ∧ rI hM 6 k = -1 - nI f ∧ rI hM 7 k = nI (10 * a + b))
theorem UE.get {n j k : Nat} (u : UE n hC hM j k) : ∃ f, f < n ∧ rI hC 75 j = nI f ∧ UD hC hM f j k := u
theorem a_undo : Ag_undo Inv := by
  intro hC hM i
  unfold f_X10_undo f_X11_undo f_X8_takeBack f_X11_undo_j96
  simp only [bd2_id, hl_d]
  obtain ⟨n, i1, ⟨m, x, u0, u1, u2, u3, u4, u5⟩, i3, i4, i5, i6, i7⟩ := id i
  rw [u2, u3, u4]
  by_cases hm : m = 0
  · subst hm
    rw [if_neg (by decide), if_pos (show nI 0 = 0 from rfl)]
    exact ag_no 3 rfl (by decide) (by decide) i
  obtain ⟨j, hj⟩ : ∃ j, j = (x + 16 - 1) % 16 := ⟨_, rfl⟩
  have en : nI x + 16 - 1 - (nI x + 16 - 1) / 16 * 16 = nI j := by
    rw [show (16 : Int32) = nI 16 from rfl, nI_add, show (1 : Int32) = nI 1 from rfl, pk_sub (by omega), ← (show (16 : Int32) = nI 16 from rfl), rem16 (by omega), hj]
  rw [if_pos (show (0 : Int32) < nI m from nI_lt (a := 0) (by omega) (by omega)), if_neg (nI_ne0 (by omega) (by omega)), en]
  have ejm : (x + 16 - m + (m - 1)) % 16 = j := by omega
  have hj16 : j < 16 := by omega
  have em : nI m - 1 = nI (m - 1) := by rw [show (1 : Int32) = nI 1 from rfl, pk_sub (by omega)]
  have z0 : rI (wI hC 74 5 (nI j)) 74 0 = nI m := by rw [rI_ne (by omega)]; exact u2
  rw [z0, em]
  obtain ⟨HC, hHC⟩ : ∃ H, H = wI (wI hC 74 5 (nI j)) 74 0 (nI (m - 1)) := ⟨_, rfl⟩
  obtain ⟨HM, hHM⟩ : ∃ H, H = wI hM 0 8 (nI (m - 1)) := ⟨_, rfl⟩
  rw [← hHC, ← hHM]
  have C0 : ∀ p k, p ≠ 74 → rI HC p k = rI hC p k := fun p k hp => by rw [hHC, rI_ne (by omega), rI_ne (by omega)]
  have C1 : rI HC 74 0 = nI (m - 1) := by rw [hHC, rI_same]
  have C2 : rI HC 74 5 = nI j := by rw [hHC, rI_ne (by omega), rI_same]
  have C3 : ∀ k, rR HC 72 k = rR hC 72 k := fun k => by rw [hHC]; rfl
  have M0 : ∀ p k, (p ≠ 0 ∨ k ≠ 8) → rI HM p k = rI hM p k := fun p k hp => by rw [hHM, rI_ne (by omega)]
  have M1 : rI HM 0 8 = nI (m - 1) := by rw [hHM, rI_same]
  clear hHC hHM
  have u6 := u5 (m - 1) (by omega)
  rw [ejm] at u6
  obtain ⟨f, hf, t1, t2⟩ := u6.get
  have hn6 := i1.1
  have hf6 : f < 6 := by omega
  obtain ⟨F, c1, c2, c3⟩ := i1.2.2.2 f hf
  have lk : f_X6_lacks (nI f) HC = false := by
    have e : f_X6_lacks (nI f) HC = f_X6_lacks (nI f) hC := by
      unfold f_X6_lacks
      rw [C0 56 3 (by omega)]
    rw [e]
    exact lacks_in i1 hf
  rw [C2, M1, inbN hj16 (by decide), gd_t, nI_clamp (n := j) (by omega), C0 75 j (by omega), t1, lk, if_neg (by decide), inbN hf6 (by decide), nI_clamp (n := f) (by omega), nI_clamp (n := m - 1) (by omega), inbN (show m - 1 < 16 by omega) (by decide), M0 6 (m - 1) (by omega), M0 7 (m - 1) (by omega), C0 76 j (by omega), C0 77 j (by omega)]
  rw [gd_t, gd_t, gd_t, gd_t, gd_t, gd_t, gd_t, gd_t]
  have fin : ∀ (HC' HM' : pq_H), (∀ p k, 24 ≤ p → rI HC' p k = rI HC p k) → (∀ p k, (6 ≤ p ∧ p < 12) ∨ (18 ≤ p ∧ p < 24) → rI HC' p k = rI HC p k) → (∀ k, rR HC' 72 k = rR HC 72 k) → (∀ p k, (p < 2 ∨ 6 ≤ p) → rI HM' p k = rI HM p k) → (∀ f', f' < n → ∃ F, FormC HC' f' F ∧ FormM HM' f' F ∧ okF F) → Inv HC' HM' := by
    intro HC' HM' b1 b2 b3 b4 b5
    refine ⟨n, ⟨hn6, ?_, ?_, b5⟩, ⟨m - 1, j, by omega, hj16, ?_, ?_, ?_, fun k hk => ?_⟩, i3.fr ?_ ?_ ?_ ?_, i4.fr ?_ ?_, i5.fr ?_ ?_ ?_ ?_, i6.fr ?_ ?_ ?_ ?_, i7.fr ?_⟩
    case refine_1 => rw [b1 _ _ (by omega), C0 _ _ (by omega)]; exact i1.2.1
    case refine_2 => rw [b4 _ _ (by omega), M0 _ _ (by omega)]; exact i1.2.2.1
    case refine_3 => rw [b1 _ _ (by omega)]; exact C1
    case refine_4 => rw [b4 _ _ (by omega)]; exact M1
    case refine_5 => rw [b1 _ _ (by omega)]; exact C2
    case refine_6 =>
      have z := u5 k (by omega)
      rw [show (x + 16 - m + k) % 16 = (j + 16 - (m - 1) + k) % 16 by omega] at z
      refine z.tr ?_ ?_ ?_ ?_ ?_ ?_
      all_goals first | (rw [b1 _ _ (by omega), C0 _ _ (by omega)]) | (rw [b4 _ _ (by omega), M0 _ _ (by omega)])
    all_goals first | (intros; rw [b3, C3]) | (intros; rw [b1 _ _ (by omega), C0 _ _ (by omega)]) | (intros; rw [b4 _ _ (by omega), M0 _ _ (by omega)]) | (intros; rw [b2 _ _ (by omega), C0 _ _ (by omega)])
  have oth : ∀ f', f' < n → ∃ F, FormC HC f' F ∧ FormM HM f' F ∧ okF F := fun f' hf' => by
    obtain ⟨F', d1, d2, d3⟩ := i1.2.2.2 f' hf'
    exact ⟨F', d1.fr (fun k => C0 _ _ (by omega)) (fun k => C0 _ _ (by omega)), d2.fr (M0 _ _ (by omega)) (M0 _ _ (by omega)) (M0 _ _ (by omega)) (fun u hu => M0 _ _ (by omega)), d3⟩
  rcases t2 with ⟨t, ht, t2, t3, t4, t5⟩ | ⟨t2, a, b, ha, hb, t3, t4, t5, t6⟩
  · rw [t2, t3, t4, if_neg (show ¬ nI t = -1 from fun z => nI_pos (n := t) (by omega) (by rw [z]; decide)), if_pos (nI_pos' (by omega)), inbN ht (by decide), inbN (show 28 * f + t < 168 by omega) (by decide), nI_clamp (n := t) (by omega), nI_clamp (n := 28 * f + t) (by omega), gd_t, gd_t, Option.bind_some, rI_ne (by omega), rI_ne (by omega), C1, M1]
    refine ag_c (nI (m - 1)) (wI HC (f + 12) t (rI hC 77 j)) (wI HM 2 (28 * f + t) (rI hC 77 j)) rfl rfl (fin _ _ ?_ ?_ ?_ ?_ (fun f' hf' => ?_))
    case refine_5 =>
      obtain ⟨F', d1, d2, d3⟩ := oth f' hf'
      by_cases e : f' = f
      · subst e
        refine ⟨(F'.1, F'.2.1, F'.2.2.1, fun u => if u = t then rI hC 77 j else F'.2.2.2 u), ⟨?_, ?_, ?_, fun u hu => ?_⟩, ⟨?_, ?_, ?_, fun u hu => ?_⟩, d3.1, d3.2.1, d3.2.2.1, fun u hu => ?_⟩
        · rw [rI_ne (by omega)]; exact d1.1
        · rw [rI_ne (by omega)]; exact d1.2.1
        · rw [rI_ne (by omega)]; exact d1.2.2.1
        · by_cases eu : u = t
          · subst eu; rw [rI_same]; exact (if_pos rfl).symm
          · rw [rI_ne (by omega)]; exact (d1.2.2.2 u hu).trans (if_neg eu).symm
        · rw [rI_ne (by omega)]; exact d2.1
        · rw [rI_ne (by omega)]; exact d2.2.1
        · rw [rI_ne (by omega)]; exact d2.2.2.1
        · by_cases eu : u = t
          · subst eu; rw [rI_same]; exact (if_pos rfl).symm
          · rw [rI_ne (by omega)]; exact (d2.2.2.2 u hu).trans (if_neg eu).symm
        · show bdI (if u = t then rI hC 77 j else F'.2.2.2 u)
          split
          · exact t5
          · exact d3.2.2.2 u hu
      · exact ⟨F', d1.fr (fun k => rI_ne (by omega)) (fun k => rI_ne (by omega)), d2.fr (rI_ne (by omega)) (rI_ne (by omega)) (rI_ne (by omega)) (fun u hu => rI_ne (by omega)), d3⟩
    case refine_3 => intro k; rfl
    all_goals (intros; exact rI_ne (by omega))
  · have e1 : (-1 : Int32) - (-1 - nI f) = nI f := by
      rw [Int32.sub_eq_add_neg (-1 : Int32) (-1 - nI f), Int32.neg_sub, Int32.add_comm, Int32.sub_add_cancel]
    have e2 : ¬ (0 : Int32) ≤ -1 - nI f := fun z => by
      have a := Int32.le_iff_toInt_le.mp z
      rw [Int32.toInt_sub, nI_toInt (by omega), show (-1 : Int32).toInt = -1 from rfl, show (0 : Int32).toInt = 0 from rfl, Int.bmod_eq_of_le (by omega) (by omega)] at a
      omega
    have e3 : nI (10 * a + b) / 10 = nI a := by
      rw [show (10 : Int32) = nI 10 from rfl, pk_div (by omega) (by decide) (by decide), show (10 * a + b) / 10 = a by omega]
    have e4 : nI (10 * a + b) - nI a * 10 = nI b := by
      rw [show (10 : Int32) = nI 10 from rfl, pk_mul, pk_sub (by omega), show 10 * a + b - a * 10 = b by omega]
    have z1 : rI (wI HC f 1 (nI a)) 74 5 = nI j := by rw [rI_ne (by omega)]; exact C2
    have z2 : rI (wI HC f 1 (nI a)) 78 j = nI b := by rw [rI_ne (by omega), C0 _ _ (by omega)]; exact t4
    have z3 : rI (wI HM 3 f (nI a)) 0 8 = nI (m - 1) := by rw [rI_ne (by omega)]; exact M1
    have z4 : rI (wI HM 3 f (nI a)) 7 (m - 1) = nI (10 * a + b) := by rw [rI_ne (by omega), M0 _ _ (by omega)]; exact t6
    have z5 : rI (wI (wI HC f 1 (nI a)) f 2 (nI b)) 74 0 = nI (m - 1) := by rw [rI_ne (by omega), rI_ne (by omega)]; exact C1
    have z6 : rI (wI (wI HM 3 f (nI a)) 4 f (nI b)) 0 8 = nI (m - 1) := by rw [rI_ne (by omega)]; exact z3
    rw [t2, if_pos rfl, t3, t5, t6, if_neg e2, e1, inbN hf6 (by decide), nI_clamp (n := f) (by omega), e3, z1, inbN hj16 (by decide), nI_clamp (n := j) (by omega), z2, z3, inbN (show m - 1 < 16 by omega) (by decide), nI_clamp (n := m - 1) (by omega), z4, e3, e4]
    simp only [gd_t, Option.bind_some]
    rw [z5, z6]
    refine ag_c (nI (m - 1)) (wI (wI HC f 1 (nI a)) f 2 (nI b)) (wI (wI HM 3 f (nI a)) 4 f (nI b)) rfl rfl (fin _ _ ?_ ?_ ?_ ?_ (fun f' hf' => ?_))
    case refine_5 =>
      obtain ⟨F', d1, d2, d3⟩ := oth f' hf'
      by_cases e : f' = f
      · subst e
        refine ⟨(a, b, F'.2.2.1, F'.2.2.2), ⟨?_, ?_, ?_, fun u hu => ?_⟩, ⟨?_, ?_, ?_, fun u hu => ?_⟩, ha, hb, d3.2.2⟩
        · rw [rI_ne (by omega), rI_same]
        · rw [rI_same]
        · rw [rI_ne (by omega), rI_ne (by omega)]; exact d1.2.2.1
        · rw [rI_ne (by omega), rI_ne (by omega)]; exact d1.2.2.2 u hu
        · rw [rI_ne (by omega), rI_same]
        · rw [rI_same]
        · rw [rI_ne (by omega), rI_ne (by omega)]; exact d2.2.2.1
        · rw [rI_ne (by omega), rI_ne (by omega)]; exact d2.2.2.2 u hu
      · exact ⟨F', d1.fr (fun k => (rI_ne (by omega)).trans (rI_ne (by omega))) (fun k => (rI_ne (by omega)).trans (rI_ne (by omega))), d2.fr ((rI_ne (by omega)).trans (rI_ne (by omega))) ((rI_ne (by omega)).trans (rI_ne (by omega))) ((rI_ne (by omega)).trans (rI_ne (by omega))) (fun u hu => (rI_ne (by omega)).trans (rI_ne (by omega))), d3⟩
    case refine_3 => intro k; rfl
    all_goals (intros; exact (rI_ne (by omega)).trans (rI_ne (by omega)))
end OPS5
