section OPS2
variable {hC hM : pq_H}
/-- a loop with a measured state -/
theorem lp_gen {σ S β : Type} {z : σ} {f : σ → σ} {Q : β → Prop} (app : σ → S → Option β) (I : Nat → S → Prop) (n : Nat) (hs : ∀ i s w, i < n → I i s → (∀ s', I (i + 1) s' → ok (app w s') Q) → ok (app (f w) s) Q) (he : ∀ s w, I n s → ok (app (f w) s) Q) (N a : Nat) (s : S) (ha : a ≤ n) (hN : n < a + N) (hI : I a s) : ok (app (lp z f N) s) Q := by
  have key := lp_run (z := z) (f := f) (fun m w => ∀ i s, i ≤ n → n < i + m → I i s → ok (app w s) Q) (fun i s h1 h2 => by omega) (fun m w hw i s h1 h2 h3 => by
    by_cases hi : i = n
    · subst hi
      exact he s w h3
    · exact hs i s w (by omega) h3 (fun s' h4 => hw (i + 1) s' (by omega) (by omega) h4)) N
  exact key a s ha hN hI
theorem lp_forR {β : Type} {z : Int32 → Option β} {f : (Int32 → Option β) → Int32 → Option β} {Q : β → Prop} (I : Nat → Prop) (n : Nat) (hs : ∀ i w, i < n → I i → (I (i + 1) → ok (w (nI (i + 1))) Q) → ok (f w (nI i)) Q) (he : ∀ w, I n → ok (f w (nI n)) Q) (N a : Nat) (ha : a ≤ n) (hN : n < a + N) (hI : I a) : ok (lp z f N (nI a)) Q :=
  lp_gen (fun (w : Int32 → Option β) (s : Int32) => w s) (fun i s => s = nI i ∧ I i) n (fun i s w h1 h2 h3 => by obtain ⟨rfl, h2⟩ := h2; exact hs i w h1 h2 (fun h4 => h3 _ ⟨rfl, h4⟩)) (fun s w h2 => by obtain ⟨rfl, h2⟩ := h2; exact he w h2) N a (nI a) ha hN ⟨rfl, hI⟩
theorem lp_forH {β : Type} {z : Int32 → pq_H → Option β} {f : (Int32 → pq_H → Option β) → Int32 → pq_H → Option β} {Q : β → Prop} (I : Nat → pq_H → Prop) (n : Nat) (hs : ∀ i h w, i < n → I i h → (∀ h', I (i + 1) h' → ok (w (nI (i + 1)) h') Q) → ok (f w (nI i) h) Q) (he : ∀ h w, I n h → ok (f w (nI n) h) Q) (N a : Nat) (h : pq_H) (ha : a ≤ n) (hN : n < a + N) (hI : I a h) : ok (lp z f N (nI a) h) Q :=
  lp_gen (fun (w : Int32 → pq_H → Option β) (s : Int32 × pq_H) => w s.1 s.2) (fun i s => s.1 = nI i ∧ I i s.2) n (fun i s w h1 h2 h3 => by obtain ⟨s1, s2⟩ := s; obtain ⟨e, h2⟩ := h2; simp only at e; subst e; exact hs i s2 w h1 h2 (fun h' h4 => h3 (nI (i + 1), h') ⟨rfl, h4⟩)) (fun s w h2 => by obtain ⟨s1, s2⟩ := s; obtain ⟨e, h2⟩ := h2; simp only at e; subst e; exact he s2 w h2) N a (nI a, h) ha hN ⟨rfl, hI⟩
theorem lp_forA {α β : Type} {z : α → Int32 → Option β} {f : (α → Int32 → Option β) → α → Int32 → Option β} {Q : β → Prop} (I : Nat → α → Prop) (n : Nat) (hs : ∀ i x w, i < n → I i x → (∀ x', I (i + 1) x' → ok (w x' (nI (i + 1))) Q) → ok (f w x (nI i)) Q) (he : ∀ x w, I n x → ok (f w x (nI n)) Q) (N a : Nat) (x : α) (ha : a ≤ n) (hN : n < a + N) (hI : I a x) : ok (lp z f N x (nI a)) Q :=
  lp_gen (fun (w : α → Int32 → Option β) (s : Int32 × α) => w s.2 s.1) (fun i s => s.1 = nI i ∧ I i s.2) n (fun i s w h1 h2 h3 => by obtain ⟨s1, s2⟩ := s; obtain ⟨e, h2⟩ := h2; simp only at e; subst e; exact hs i s2 w h1 h2 (fun h' h4 => h3 (nI (i + 1), h') ⟨rfl, h4⟩)) (fun s w h2 => by obtain ⟨s1, s2⟩ := s; obtain ⟨e, h2⟩ := h2; simp only at e; subst e; exact he s2 w h2) N a (nI a, x) ha hN ⟨rfl, hI⟩
theorem lp_forAH {α β : Type} {z : α → Int32 → pq_H → Option β} {f : (α → Int32 → pq_H → Option β) → α → Int32 → pq_H → Option β} {Q : β → Prop} (I : Nat → α → pq_H → Prop) (n : Nat) (hs : ∀ i x h w, i < n → I i x h → (∀ x' h', I (i + 1) x' h' → ok (w x' (nI (i + 1)) h') Q) → ok (f w x (nI i) h) Q) (he : ∀ x h w, I n x h → ok (f w x (nI n) h) Q) (N a : Nat) (x : α) (h : pq_H) (ha : a ≤ n) (hN : n < a + N) (hI : I a x h) : ok (lp z f N x (nI a) h) Q :=
  lp_gen (fun (w : α → Int32 → pq_H → Option β) (s : Int32 × α × pq_H) => w s.2.1 s.1 s.2.2) (fun i s => s.1 = nI i ∧ I i s.2.1 s.2.2) n (fun i s w h1 h2 h3 => by obtain ⟨s1, s2, s3⟩ := s; obtain ⟨e, h2⟩ := h2; simp only at e h2; subst e; exact hs i s2 s3 w h1 h2 (fun x' h' h4 => h3 (nI (i + 1), x', h') ⟨rfl, h4⟩)) (fun s w h2 => by obtain ⟨s1, s2, s3⟩ := s; obtain ⟨e, h2⟩ := h2; simp only at e h2; subst e; exact he s2 s3 w h2) N a (nI a, x, h) ha hN ⟨rfl, hI⟩
theorem le_nIn {a b : Nat} (h : a ≤ b) (hb : b < 2000000000) : nI a ≤ nI b := nI_le h (by omega)
theorem renew_ok (l s : Nat) (hl : l < 3) (hs : s ≤ 40) (h : pq_H) : ok (f_X4_renew (nI l) (nI s) h) (fun h' => (∀ p k, p ≠ 52 + l → (p ≠ 81 ∨ k ≠ l) → rI h' p k = rI h p k) ∧ rI h' 81 l = nI s ∧ (∀ k, k < s → rI h' (52 + l) k = 0) ∧ ∀ k, rR h' 72 k = rR h 72 k) := by
  unfold f_X4_renew
  rw [inbN hl (by decide), gd_t, nI_clamp (by omega), hl_d]
  refine lp_forH (fun i h' => (∀ p k, p ≠ 52 + l → (p ≠ 81 ∨ k ≠ l) → rI h' p k = rI h p k) ∧ rI h' 81 l = nI s ∧ (∀ k, k < i → rI h' (52 + l) k = 0) ∧ ∀ k, rR h' 72 k = rR h 72 k) s ?_ ?_ 1000 0 _ (by omega) (by omega) ⟨?_, ?_, ?_, ?_⟩
  · intro i h' w hi ⟨g1, g2, g3, g4⟩ hw
    unfold f_X4_renew_l9
    rw [if_neg (nI_ge hi (by omega)), inbN hl (by decide), inbN (show i < 40 by omega) (by decide), gd_t, gd_t, nI_clamp (by omega), nI_clamp (by omega), nI_1]
    refine hw _ ⟨fun p k e1 e2 => ?_, ?_, fun k hk => ?_, g4⟩
    · rw [rI_ne (by omega)]; exact g1 p k e1 e2
    · rw [rI_ne (by omega)]; exact g2
    · by_cases e : k = i
      · subst e; rw [rI_same]
      · rw [rI_ne (by omega)]; exact g3 k (by omega)
  · intro h' w g
    unfold f_X4_renew_l9
    rw [if_pos (le_nIn (Nat.le_refl _) (by omega))]
    exact ok_some g
  · intro p k e1 e2; rw [rI_ne (by omega)]
  · rw [rI_same]
  · intro k hk; omega
  · intro k; rfl
theorem listM_ok (l s : Nat) (hl : l < 3) (h : pq_H) : ok (lp (fun _ _ => none) (f_X11_list_l42 (nI l)) 1000 0 (wI h 20 l (nI s))) (fun r => r.1 = 1 ∧ (∀ p k, (p ≠ 20 ∨ k ≠ l) → (p ≠ 21 ∨ k < 40 * l ∨ 40 * l + 40 ≤ k) → rI r.2 p k = rI h p k) ∧ rI r.2 20 l = nI s ∧ ∀ k, k < 40 → rI r.2 21 (40 * l + k) = 0) := by
  refine lp_forH (fun i h' => (∀ p k, (p ≠ 20 ∨ k ≠ l) → (p ≠ 21 ∨ k < 40 * l ∨ 40 * l + 40 ≤ k) → rI h' p k = rI h p k) ∧ rI h' 20 l = nI s ∧ ∀ k, k < i → rI h' 21 (40 * l + k) = 0) 40 ?_ ?_ 1000 0 _ (by omega) (by omega) ⟨?_, ?_, ?_⟩
  · intro i h' w hi ⟨g1, g2, g3⟩ hw
    unfold f_X11_list_l42
    rw [show (40 : Int32) = nI 40 from rfl, if_neg (nI_ge hi (by omega)), pk_mul, nI_add, inbN (by omega) (by decide), gd_t, nI_clamp (by omega), nI_1]
    refine hw _ ⟨fun p k e1 e2 => ?_, ?_, fun k hk => ?_⟩
    · rw [rI_ne (by omega)]; exact g1 p k e1 e2
    · rw [rI_ne (by omega)]; exact g2
    · by_cases e : k = i
      · subst e; rw [rI_same]
      · rw [rI_ne (by omega)]; exact g3 k (by omega)
  · intro h' w g
    unfold f_X11_list_l42
    rw [if_pos (show (40 : Int32) ≤ nI 40 from le_nIn (Nat.le_refl _) (by omega))]
    exact ok_some ⟨rfl, g⟩
  · intro p k e1 e2; rw [rI_ne (by omega)]
  · rw [rI_same]
  · intro k hk; omega
theorem list_cases (p : Int32) : (f_X10_notBelow p 3 = true ∧ f_X11_isList p = false) ∨ ∃ l, l < 3 ∧ p = nI l ∧ f_X10_notBelow p 3 = false ∧ f_X11_isList p = true := nb_cases p 3 (by decide)
theorem Bf {b : Bool} (h : b = false) : ¬ b = true := by subst h; decide
theorem a_list : Ag_list Inv := by
  intro hC hM p1 p2 i
  unfold f_X10_list f_X11_list
  simp only [bd2_id]
  rcases list_cases p1 with ⟨a, b⟩ | ⟨l, hl, rfl, a, b⟩
  · rw [if_pos a, if_neg (Bf b)]
    exact ag_no 1 rfl (by decide) (by decide) i
  rw [if_neg (Bf a), if_pos b]
  split
  case isFalse => exact ag_no 6 rfl (by decide) (by decide) i
  rename_i h40
  split
  case isFalse => exact ag_c _ _ _ rfl rfl i
  rename_i h0
  obtain ⟨s, hs, rfl⟩ := nI_of2 (M := 40) (n := 40) rfl (by
    intro z
    have a := Int32.le_iff_toInt_le.mp h0
    have b := Int32.lt_iff_toInt_lt.mp z
    omega) h40
  obtain ⟨h', e, g1, g2, g3, g4⟩ := renew_ok l s hl hs hC
  obtain ⟨⟨r, k'⟩, e2, k0, k1, k2, k3⟩ := listM_ok l s hl hM
  rw [e, Option.bind_some, inbN hl (by decide), gd_t, nI_clamp (by omega), hl_d, e2]
  simp only at k0 k1 k2 k3
  subst k0
  refine ag_c 1 h' k' rfl rfl ?_
  obtain ⟨n, i1, i2, i3, i4, i5, i6, i7⟩ := i
  refine ⟨n, i1.fr ?_ ?_ ?_ ?_, i2.fr ?_ ?_ ?_ ?_, i3.fr ?_ ?_ ?_ ?_, i4.fr ?_ ?_, ?_, i6.fr ?_ ?_ ?_ ?_, i7.fr g4⟩
  case refine_15 =>
    intro q hq
    by_cases hql : q = l
    · subst hql
      exact Or.inr ⟨s, hs, g2, k2, fun j hj => by rw [g3 j hj, k3 j (by omega)]⟩
    · rcases i5 q hq with ⟨z1, z2⟩ | ⟨t, z0, z1, z2, z3⟩
      · exact Or.inl ⟨by rw [g1 _ _ (by omega) (by omega)]; exact z1, by rw [k1 _ _ (by omega) (by omega)]; exact z2⟩
      · refine Or.inr ⟨t, z0, by rw [g1 _ _ (by omega) (by omega)]; exact z1, by rw [k1 _ _ (by omega) (by omega)]; exact z2, fun j hj => ?_⟩
        rw [g1 _ _ (by omega) (by omega), k1 _ _ (by omega) (by omega)]
        exact z3 j hj
  all_goals first | (intros; exact g1 _ _ (by omega) (by omega)) | (intros; exact k1 _ _ (by omega) (by omega))
/-- a list is missing on both sides, or there on both -/
theorem miss_cases (i : InvS hC hM) {l : Nat} (hl : l < 3) : (f_X4_misses (nI l) hC = some true ∧ ¬ 0 ≤ rI hM 20 l) ∨ (f_X4_misses (nI l) hC = some false ∧ 0 ≤ rI hM 20 l ∧ ∃ s, s ≤ 40 ∧ rI hC 81 l = nI s ∧ rI hM 20 l = nI s ∧ ∀ i, i < s → rI hM 21 (40 * l + i) = rI hC (52 + l) i) := by
  unfold f_X4_misses
  rw [inbN hl (by decide), gd_t, nI_clamp (by omega)]
  rcases i l hl with ⟨a, b⟩ | ⟨s, h0, h1, h2, h3⟩
  · left
    have q : ∀ x : Int32, x < 0 → ¬ 0 ≤ x := fun x z y => by
      have a := Int32.le_iff_toInt_le.mp y
      have b := Int32.lt_iff_toInt_lt.mp z
      omega
    exact ⟨if_neg (q _ a), q _ b⟩
  · right
    refine ⟨?_, ?_, s, h0, h1, h2, h3⟩
    · rw [h1, if_pos (nI_pos' (by omega))]
    · rw [h2]; exact nI_pos' (by omega)
theorem a_put : Ag_put Inv := by
  intro hC hM p1 p2 p3 i
  unfold f_X10_put f_X11_put f_X11_notPlace
  simp only [bd2_id]
  rcases list_cases p1 with ⟨a, b⟩ | ⟨l, hl, rfl, a, b⟩
  · rw [if_pos a, if_neg (Bf b)]
    exact ag_no 1 rfl (by decide) (by decide) i
  rw [if_neg (Bf a), if_pos b, inbN hl (by decide), nI_clamp (by omega)]
  simp only [gd_t]
  obtain ⟨n, i1, i2, i3, i4, i5, i6, i7⟩ := id i
  rcases miss_cases i5 hl with ⟨a, b⟩ | ⟨a, b, s, h0, h1, h2, h3⟩
  · rw [a, if_neg b]
    simp only [Option.bind_some, if_true]
    rw [if_neg (by decide)]
    exact ag_c _ _ _ rfl rfl i
  rw [a, if_pos b, h1, h2]
  simp only [Option.bind_some]
  rw [if_neg (by decide)]
  rcases nb_cases p2 s (by omega) with ⟨a, b⟩ | ⟨j, hj, rfl, a, b⟩
  · rw [if_pos a, if_neg (Bf b), Option.bind_some, if_neg (by decide)]
    exact ag_c _ _ _ rfl rfl i
  rw [if_neg (Bf a), if_pos b, Option.bind_some, if_pos rfl, show (40 : Int32) = nI 40 from rfl, pk_mul, nI_add, inbN (show j < 40 by omega) (by decide), inbN (show 40 * l + j < 120 by omega) (by decide), gd_t, gd_t, nI_clamp (by omega), nI_clamp (by omega)]
  refine ag_c 1 (wI hC (52 + l) j p3) (wI hM 21 (40 * l + j) p3) rfl rfl ⟨n, i1.fr ?_ ?_ ?_ ?_, i2.fr ?_ ?_ ?_ ?_, i3.fr ?_ ?_ ?_ ?_, i4.fr ?_ ?_, ?_, i6.fr ?_ ?_ ?_ ?_, i7.fr ?_⟩
  case refine_15 =>
    intro q hq
    rcases i5 q hq with ⟨z1, z2⟩ | ⟨t, z0, z1, z2, z3⟩
    · exact Or.inl ⟨by rw [rI_ne (by omega)]; exact z1, by rw [rI_ne (by omega)]; exact z2⟩
    · refine Or.inr ⟨t, z0, by rw [rI_ne (by omega)]; exact z1, by rw [rI_ne (by omega)]; exact z2, fun m hm => ?_⟩
      by_cases e : q = l ∧ m = j
      · obtain ⟨rfl, rfl⟩ := e
        rw [rI_same, rI_same]
      · rw [rI_ne (by omega), rI_ne (by omega)]
        exact z3 m hm
  all_goals (intros; simp (disch := omega) only [rI_ne, rR_wI])
theorem a_look : Ag_look Inv := by
  intro hC hM p1 p2 i
  unfold f_X10_look f_X11_look f_X11_notPlace
  simp only [bd2_id]
  rcases list_cases p1 with ⟨a, b⟩ | ⟨l, hl, rfl, a, b⟩
  · rw [if_pos a, if_neg (Bf b)]
    exact ag_low 1 rfl (by decide) (by decide) i
  rw [if_neg (Bf a), if_pos b, inbN hl (by decide), nI_clamp (by omega)]
  simp only [gd_t]
  obtain ⟨n, i1, i2, i3, i4, i5, i6, i7⟩ := id i
  rcases miss_cases i5 hl with ⟨a, b⟩ | ⟨a, b, s, h0, h1, h2, h3⟩
  · rw [a, if_neg b]
    simp only [Option.bind_some, if_true]
    rw [if_neg (by decide)]
    exact ag_c _ _ _ rfl rfl i
  rw [a, if_pos b, h1, h2]
  simp only [Option.bind_some]
  rw [if_neg (by decide)]
  rcases nb_cases p2 s (by omega) with ⟨a, b⟩ | ⟨j, hj, rfl, a, b⟩
  · rw [if_pos a, if_neg (Bf b), Option.bind_some, if_neg (by decide)]
    exact ag_c _ _ _ rfl rfl i
  rw [if_neg (Bf a), if_pos b, Option.bind_some, if_pos rfl, show (40 : Int32) = nI 40 from rfl, pk_mul, nI_add, inbN (show j < 40 by omega) (by decide), inbN (show 40 * l + j < 120 by omega) (by decide), gd_t, gd_t, nI_clamp (by omega), nI_clamp (by omega), h3 j hj]
  exact ag_c _ _ _ rfl rfl i
theorem term_cases {f : Nat} {F : pF} (c1 : FormC hC f F) (c2 : FormM hM f F) (hk : okF F) (hf : f < 6) (p : Int32) : (f_X10_lacksTerm (nI f) p hC = some true ∧ f_X11_isTerm (nI f) p hM = some false) ∨ ∃ s k, s ≤ F.2.2.1 ∧ k ≤ s ∧ tri s + k < tri (F.2.2.1 + 1) ∧ p = nI (tri s + k) ∧ f_X10_lacksTerm (nI f) p hC = some false ∧ f_X11_isTerm (nI f) p hM = some true := by
  have hd := hk.2.2.1
  unfold f_X10_lacksTerm f_X11_isTerm
  rw [inbN hf (by decide), gd_t, gd_t, nI_clamp (by omega), c1.2.2.1, c2.2.2.1, termsOf_nI (by omega), termsOfM_nI (by omega)]
  have hb := tri_b (show F.2.2.1 + 1 ≤ 40 by omega)
  rcases nb_cases p (tri (F.2.2.1 + 1)) (by omega) with ⟨a, b⟩ | ⟨j, hj, e, a, b⟩
  · exact Or.inl ⟨congrArg some a, congrArg some b⟩
  · obtain ⟨s, k, h1, h2, h3⟩ := tri_exD hj
    exact Or.inr ⟨s, k, h1, h2, by omega, by rw [e, h3], congrArg some a, congrArg some b⟩
theorem a_coefficient : Ag_coefficient Inv := by
  intro hC hM p1 p2 i
  obtain ⟨n, i1, -⟩ := id i
  unfold f_X10_coefficient f_X11_coefficient f_X10_coefficient_j20 f_X11_coefficient_j17
  simp only [bd2_id]
  rcases form_cases i1 p1 with ⟨a, b⟩ | ⟨f, hf, hf6, rfl, a, b, F, c1, c2, c3⟩
  · rw [if_pos a, if_neg (Bf b)]
    exact ag_far 1 rfl (by decide) (by decide) i
  rw [if_neg (Bf a), if_pos b]
  rcases term_cases c1 c2 c3 hf6 p2 with ⟨a, b⟩ | ⟨s, k, h1, h2, h3, rfl, a, b⟩
  · rw [a, b, Option.bind_some, Option.bind_some, if_pos rfl, if_neg (by decide)]
    exact ag_far 1 rfl (by decide) (by decide) i
  rw [a, b, Option.bind_some, Option.bind_some, if_neg (by decide), if_pos rfl, inbN hf6 (by decide), gd_t, nI_clamp (by omega), at_ok c1 c3 h1 h2, coef_ok c2 c3 hf6 h1 h2]
  exact ag_c _ _ _ rfl rfl i
end OPS2
