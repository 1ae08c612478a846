section OPS4
variable {hC hM : pq_H}
theorem UE.tr {n j k k' : Nat} {hC hM hC' hM' : pq_H} (u : UE n hC hM j k) (c5 : rI hC' 75 j = rI hC 75 j) (c6 : rI hC' 76 j = rI hC 76 j) (c7 : rI hC' 77 j = rI hC 77 j) (c8 : rI hC' 78 j = rI hC 78 j) (m6 : rI hM' 6 k' = rI hM 6 k) (m7 : rI hM' 7 k' = rI hM 7 k) : UE n hC' hM' j k' := by
  unfold UE at u ⊢
  rw [c5, c6, c7, c8, m6, m7]
  exact u
theorem InvU.add {n m x m0 dl : Nat} {hC hM hC' hM' : pq_H} (hm : m ≤ 16) (hx : x < 16) (h5 : ∀ k, k < m → UE n hC hM ((x + 16 - m + k) % 16) k) (hd : (m < 16 ∧ m0 = m ∧ dl = 0) ∨ (m = 16 ∧ m0 = 15 ∧ dl = 1)) (hc : ∀ p, 75 ≤ p → p ≤ 78 → ∀ k, k ≠ x → rI hC' p k = rI hC p k) (c0 : rI hC' 74 0 = nI (m0 + 1)) (c5 : rI hC' 74 5 = nI ((x + 1) % 16)) (m8 : rI hM' 0 8 = nI (m0 + 1)) (m6 : ∀ k, k < m0 → rI hM' 6 k = rI hM 6 (k + dl)) (m7 : ∀ k, k < m0 → rI hM' 7 k = rI hM 7 (k + dl)) (new : UE n hC' hM' x m0) : InvU n hC' hM' := by
  refine ⟨m0 + 1, (x + 1) % 16, by omega, by omega, c0, m8, c5, fun k hk => ?_⟩
  by_cases e : k = m0
  · subst e
    rw [show ((x + 1) % 16 + 16 - (k + 1) + k) % 16 = x by omega]
    exact new
  · have ej : ((x + 1) % 16 + 16 - (m0 + 1) + k) % 16 = (x + 16 - m + (k + dl)) % 16 := by omega
    have nj : (x + 16 - m + (k + dl)) % 16 ≠ x := by omega
    rw [ej]
    exact (h5 (k + dl) (by omega)).tr (hc 75 (by omega) (by omega) _ nj) (hc 76 (by omega) (by omega) _ nj) (hc 77 (by omega) (by omega) _ nj) (hc 78 (by omega) (by omega) _ nj) (m6 k (by omega)) (m7 k (by omega))
theorem rem16 {i : Nat} (h : i < 1000) : nI i - nI i / 16 * 16 = nI (i % 16) := pk_rem (d := 16) (by omega) (by decide) (by decide)
theorem add_ok {h : pq_H} {x m m0 : Nat} (hx : x < 16) (hd : (m < 16 ∧ m0 = m) ∨ (m = 16 ∧ m0 = 15)) (h0 : rI h 74 0 = nI m) (h5 : rI h 74 5 = nI x) (a b c d : Int32) : ok (f_X8_add a b c d h) (fun h' => (∀ p k, (p < 74 ∨ 78 < p) → rI h' p k = rI h p k) ∧ (∀ p, 75 ≤ p → p ≤ 78 → ∀ k, k ≠ x → rI h' p k = rI h p k) ∧ rI h' 74 0 = nI (m0 + 1) ∧ rI h' 74 5 = nI ((x + 1) % 16) ∧ rI h' 75 x = a ∧ rI h' 76 x = b ∧ rI h' 77 x = c ∧ rI h' 78 x = d ∧ ∀ k, rR h' 72 k = rR h 72 k) := by
  have e : (if 16 < nI m + 1 then 16 else nI m + 1) = nI (m0 + 1) := by
    rw [nI_1]
    by_cases hm : m = 16
    · subst hm
      rw [if_pos (by decide), show m0 = 15 by omega]
      rfl
    · rw [if_neg (show ¬ (16 : Int32) < nI (m + 1) from nI_nlt (a := 16) (by omega) (by omega)), show m0 = m by omega]
  unfold f_X8_add
  simp (disch := omega) only [hl_d, rI_same, rI_ne, h0, h5, nI_clamp, inbN, gd_t]
  rw [e, nI_1, rem16 (by omega)]
  refine ok_some ⟨fun p k hp => ?_, fun p h1 h2 k hk => ?_, ?_, ?_, ?_, ?_, ?_, ?_, fun k => rfl⟩
  all_goals (simp (disch := omega) only [rI_same, rI_ne])
theorem notes_ok {h : pq_H} {m m0 dl : Nat} (hd : (m < 16 ∧ m0 = m ∧ dl = 0) ∨ (m = 16 ∧ m0 = 15 ∧ dl = 1)) (h0 : rI h 0 8 = nI m) (a b : Int32) : ok (f_X11_notes a b h) (fun h' => (∀ p k, p ≠ 6 → p ≠ 7 → (p ≠ 0 ∨ k ≠ 8) → rI h' p k = rI h p k) ∧ rI h' 0 8 = nI (m0 + 1) ∧ (∀ k, k < m0 → rI h' 6 k = rI h 6 (k + dl)) ∧ (∀ k, k < m0 → rI h' 7 k = rI h 7 (k + dl)) ∧ rI h' 6 m0 = a ∧ rI h' 7 m0 = b) := by
  have fin : ∀ h1 : pq_H, rI h1 0 8 = nI m0 → f_X11_notes_j61 a b h1 = some (wI (wI (wI h1 6 m0 a) 7 m0 b) 0 8 (nI (m0 + 1))) := by
    intro h1 e1
    unfold f_X11_notes_j61
    simp (disch := omega) only [hl_d, rI_same, rI_ne, e1, nI_clamp, inbN, gd_t, nI_1]
  unfold f_X11_notes
  rcases hd with ⟨h1, rfl, rfl⟩ | ⟨rfl, rfl, rfl⟩
  · rw [h0, if_neg (show ¬ nI m0 = 16 by rw [show (16 : Int32) = nI 16 from rfl, ieq (by omega) (by omega)]; omega), fin h h0]
    refine ok_some ⟨fun p k h1 h2 h3 => ?_, ?_, fun k hk => ?_, fun k hk => ?_, ?_, ?_⟩
    all_goals (simp (disch := omega) only [rI_same, rI_ne, Nat.add_zero])
  · rw [h0, if_pos (show nI 16 = 16 from rfl)]
    refine lp_forH (fun i h' => 1 ≤ i ∧ (∀ p k, p ≠ 6 → p ≠ 7 → rI h' p k = rI h p k) ∧ (∀ k, k + 1 < i → rI h' 6 k = rI h 6 (k + 1)) ∧ (∀ k, k + 1 < i → rI h' 7 k = rI h 7 (k + 1)) ∧ (∀ k, i ≤ k → rI h' 6 k = rI h 6 k) ∧ (∀ k, i ≤ k → rI h' 7 k = rI h 7 k)) 16 ?_ ?_ 1000 1 h (by omega) (by omega) ⟨Nat.le_refl _, fun _ _ _ _ => rfl, fun k hk => by omega, fun k hk => by omega, fun _ _ => rfl, fun _ _ => rfl⟩
    · intro i h' w hi hI hw
      obtain ⟨hi0, g1, g2, g3, g4, g5⟩ := hI
      unfold f_X11_notes_l11
      rw [show (16 : Int32) = nI 16 from rfl, if_neg (nI_ge hi (by omega)), i1, pk_sub (show 1 ≤ i by omega)]
      simp (disch := omega) only [hl_d, rI_same, rI_ne, nI_clamp, inbN, gd_t, nI_add]
      refine hw _ ⟨by omega, fun p k e1 e2 => ?_, fun k hk => ?_, fun k hk => ?_, fun k hk => ?_, fun k hk => ?_⟩
      · simp (disch := omega) only [rI_ne]; exact g1 p k e1 e2
      · by_cases e : k = i - 1
        · subst e; simp (disch := omega) only [rI_same, rI_ne]; rw [g4 i (by omega), show i - 1 + 1 = i by omega]
        · simp (disch := omega) only [rI_ne]; exact g2 k (by omega)
      · by_cases e : k = i - 1
        · subst e; simp (disch := omega) only [rI_same, rI_ne]; rw [g5 i (by omega), show i - 1 + 1 = i by omega]
        · simp (disch := omega) only [rI_ne]; exact g3 k (by omega)
      · simp (disch := omega) only [rI_ne]; exact g4 k (by omega)
      · simp (disch := omega) only [rI_ne]; exact g5 k (by omega)
    · intro h' w ⟨_, g1, g2, g3, g4, g5⟩
      unfold f_X11_notes_l11 f_X11_notes_j51
      rw [if_pos (show (16 : Int32) ≤ nI 16 from le_nIn (Nat.le_refl _) (by omega)), g1 0 8 (by omega) (by omega), h0, show nI 16 - 1 = nI 15 from rfl, fin _ (by rw [rI_same])]
      refine ok_some ⟨fun p k h1 h2 h3 => ?_, ?_, fun k hk => ?_, fun k hk => ?_, ?_, ?_⟩
      · simp (disch := omega) only [rI_ne]; exact g1 p k h1 h2
      · rw [rI_same]
      · simp (disch := omega) only [rI_ne]; exact g2 k (by omega)
      · simp (disch := omega) only [rI_ne]; exact g3 k (by omega)
      · simp (disch := omega) only [rI_same, rI_ne]
      · simp (disch := omega) only [rI_same, rI_ne]
theorem i32_bd {x : Int32} (h1 : -1000000 ≤ x) (h2 : x ≤ 1000000) : bdI x := by
  have a := Int32.le_iff_toInt_le.mp h1
  have b := Int32.le_iff_toInt_le.mp h2
  have c : (-1000000 : Int32).toInt = -1000000 := by decide
  have d : (1000000 : Int32).toInt = 1000000 := by decide
  rw [c] at a
  rw [d] at b
  exact ⟨a, b⟩
theorem a_change : Ag_change Inv := by
  intro hC hM p1 p2 p3 i
  unfold f_X10_change f_X11_change f_X10_change_j20 f_X11_change_j17 f_X11_change_j29 f_X11_bound
  simp only [bd2_id]
  obtain ⟨n, i1, i2, i3, i4, i5, i6, i7⟩ := id i
  rcases form_cases i1 p1 with ⟨a, b⟩ | ⟨f, hf, hf6, rfl, a, b, F, c1, c2, c3⟩
  · rw [if_pos a, if_neg (Bf b), if_neg (by decide)]
    exact ag_far 1 rfl (by decide) (by decide) i
  rw [if_neg (Bf a), if_pos b]
  have hd := c3.2.2.1
  have hb := tri28 hd
  rcases term_cases c1 c2 c3 hf6 p2 with ⟨a, b⟩ | ⟨s, k, h1, h2, h3, rfl, a, b⟩
  · rw [a, b, Option.bind_some, Option.bind_some, if_pos rfl, if_neg (show ¬ false = true by decide), if_neg (by decide)]
    exact ag_far 1 rfl (by decide) (by decide) i
  rw [a, b, Option.bind_some, Option.bind_some, if_neg (show ¬ false = true by decide), if_pos rfl]
  by_cases q1 : -1000000 ≤ p3
  case neg =>
    rw [if_neg q1, if_neg q1, if_neg (by decide)]
    exact ag_far 4 rfl (by decide) (by decide) i
  by_cases q2 : p3 ≤ 1000000
  case neg =>
    rw [if_pos q1, if_pos q1, if_neg q2, if_neg q2, if_neg (by decide)]
    exact ag_far 6 rfl (by decide) (by decide) i
  obtain ⟨t, ht⟩ : ∃ t, t = tri s + k := ⟨_, rfl⟩
  rw [← ht] at h3 ⊢
  rw [if_pos q1, if_pos q1, if_pos q2, if_pos q2, if_pos rfl, show (28 : Int32) = nI 28 from rfl, pk_mul, nI_add, inbN hf6 (by decide), inbN (show t < 28 by omega) (by decide), inbN (show 28 * f + t < 168 by omega) (by decide), nI_clamp (by omega), nI_clamp (by omega), nI_clamp (by omega), c1.2.2.2 t (by omega), c2.2.2.2 t (by omega)]
  simp only [gd_t, hl_d]
  obtain ⟨m, x, u0, u1, u2, u3, u4, u5⟩ := i2
  obtain ⟨m0, dl, hdl⟩ : ∃ m0 dl, (m < 16 ∧ m0 = m ∧ dl = 0) ∨ (m = 16 ∧ m0 = 15 ∧ dl = 1) := by
    by_cases z : m < 16
    · exact ⟨m, 0, Or.inl ⟨z, rfl, rfl⟩⟩
    · exact ⟨15, 1, Or.inr ⟨by omega, rfl, rfl⟩⟩
  obtain ⟨h', e1, g1, g2, g3, g4, g5, g6, g7, g8, g9⟩ := add_ok (h := wI hC (f + 12) t p3) (m := m) (m0 := m0) u1 (by omega) (by rw [rI_ne (by omega)]; exact u2) (by rw [rI_ne (by omega)]; exact u4) (nI f) (nI t) (F.2.2.2 t) 0
  obtain ⟨k', e2, k1, k2, k3, k4, k5, k6⟩ := notes_ok hdl u3 (nI (28 * f + t)) (F.2.2.2 t)
  rw [e1, e2, Option.bind_some, Option.bind_some]
  refine ag_c _ h' (wI k' 2 (28 * f + t) p3) rfl rfl ⟨n, ⟨i1.1, ?_, ?_, fun f' hf' => ?_⟩, InvU.add u0 u1 u5 hdl ?_ g3 g4 ?_ ?_ ?_ ?_, i3.fr ?_ ?_ ?_ ?_, i4.fr ?_ ?_, i5.fr ?_ ?_ ?_ ?_, i6.fr ?_ ?_ ?_ ?_, i7.fr g9⟩
  case refine_3 =>
    by_cases e : f' = f
    · subst e
      refine ⟨(F.1, F.2.1, F.2.2.1, fun u => if u = t then p3 else F.2.2.2 u), ⟨?_, ?_, ?_, fun u hu => ?_⟩, ⟨?_, ?_, ?_, fun u hu => ?_⟩, c3.1, c3.2.1, c3.2.2.1, fun u hu => ?_⟩
      · rw [g1 _ _ (by omega), rI_ne (by omega)]; exact c1.1
      · rw [g1 _ _ (by omega), rI_ne (by omega)]; exact c1.2.1
      · rw [g1 _ _ (by omega), rI_ne (by omega)]; exact c1.2.2.1
      · rw [g1 _ _ (by omega), rI_wI]
        by_cases eu : u = t
        · rw [if_pos ⟨rfl, eu⟩]; exact (if_pos eu).symm
        · rw [if_neg (fun z => eu z.2)]; exact (c1.2.2.2 u hu).trans (if_neg eu).symm
      · rw [rI_ne (by omega), k1 _ _ (by omega) (by omega) (by omega)]; exact c2.1
      · rw [rI_ne (by omega), k1 _ _ (by omega) (by omega) (by omega)]; exact c2.2.1
      · rw [rI_ne (by omega), k1 _ _ (by omega) (by omega) (by omega)]; exact c2.2.2.1
      · by_cases eu : u = t
        · subst eu; rw [rI_same]; exact (if_pos rfl).symm
        · rw [rI_ne (by omega), k1 _ _ (by omega) (by omega) (by omega)]; exact (c2.2.2.2 u hu).trans (if_neg eu).symm
      · show bdI (if u = t then p3 else F.2.2.2 u)
        split
        · exact i32_bd q1 q2
        · exact c3.2.2.2 u hu
    · obtain ⟨F', d1, d2, d3⟩ := i1.2.2.2 f' hf'
      have hf'6 := i1.1
      refine ⟨F', d1.fr (fun k => ?_) (fun k => ?_), d2.fr ?_ ?_ ?_ (fun u hu => ?_), d3⟩
      · rw [g1 _ _ (by omega), rI_ne (by omega)]
      · rw [g1 _ _ (by omega), rI_ne (by omega)]
      all_goals (rw [rI_ne (by omega), k1 _ _ (by omega) (by omega) (by omega)])
  case refine_8 => exact ⟨f, hf, g5, Or.inl ⟨t, by omega, g6, by rw [rI_ne (by omega)]; exact k5, by rw [rI_ne (by omega), g7]; exact k6, by rw [g7]; exact c3.2.2.2 t (by omega)⟩⟩
  case refine_1 => rw [g1 _ _ (by omega), rI_ne (by omega)]; exact i1.2.1
  case refine_2 => rw [rI_ne (by omega), k1 _ _ (by omega) (by omega) (by omega)]; exact i1.2.2.1
  case refine_4 => intro p a b k hk; rw [g2 p a b k hk, rI_ne (by omega)]
  case refine_5 => rw [rI_ne (by omega)]; exact k2
  case refine_6 => intro k hk; rw [rI_ne (by omega)]; exact k3 k hk
  case refine_7 => intro k hk; rw [rI_ne (by omega)]; exact k4 k hk
  all_goals first | (intros; rw [g1 _ _ (by omega), rI_ne (by omega)]) | (intros; rw [rI_ne (by omega), k1 _ _ (by omega) (by omega) (by omega)])
end OPS4
