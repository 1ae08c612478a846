section OPS2
variable {hC hM : pq_H}
/-- a loop with a measured state -/
theorem lp_gen {σ S β : Type} {z : σ} {f : σ → σ} {Q : β → Prop} (app : σ → S → Option β) (I : Nat → S → Prop) (n : Nat) (hs : ∀ i s w, i < n → I i s → (∀ s', I (i + 1) s' → ok (app w s') Q) → ok (app (f w) s) Q) (he : ∀ s w, I n s → ok (app (f w) s) Q) (N a : Nat) (s : S) (ha : a ≤ n) (hN : n < a + N) (hI : I a s) : ok (app (lp z f N) s) Q := by
  have key := lp_run (z := z) (f := f) (fun m w => ∀ i s, i ≤ n → n < i + m → I i s → ok (app w s) Q) (fun i s h1 h2 => by omega) (fun m w hw i s h1 h2 h3 => by
    by_cases hi : i = n
    · subst hi
      exact he s w h3
    · exact hs i s w (by omega) h3 (fun s' h4 => hw (i + 1) s' (by omega) (by omega) h4)) N
  exact key a s ha hN hI
theorem lp_forR {β : Type} {z : Int32 → Option β} {f : (Int32 → Option β) → Int32 → Option β} {Q : β → Prop} (I : Nat → Prop) (n : Nat) (hs : ∀ i w, i < n → I i → (I (i + 1) → ok (w (nI (i + 1))) Q) → ok (f w (nI i)) Q) (he : ∀ w, I n → ok (f w (nI n)) Q) (N a : Nat) (ha : a ≤ n) (hN : n < a + N) (hI : I a) : ok (lp z f N (nI a)) Q :=
  lp_gen (fun (w : Int32 → Option β) (s : Int32) => w s) (fun i s => s = nI i ∧ I i) n (fun i s w h1 h2 h3 => by obtain ⟨rfl, h2⟩ := h2; exact hs i w h1 h2 (fun h4 => h3 _ ⟨rfl, h4⟩)) (fun s w h2 => by obtain ⟨rfl, h2⟩ := h2; exact he w h2) N a (nI a) ha hN ⟨rfl, hI⟩
theorem lp_forH {β : Type} {z : Int32 → pq_H → Option β} {f : (Int32 → pq_H → Option β) → Int32 → pq_H → Option β} {Q : β → Prop} (I : Nat → pq_H → Prop) (n : Nat) (hs : ∀ i h w, i < n → I i h → (∀ h', I (i + 1) h' → ok (w (nI (i + 1)) h') Q) → ok (f w (nI i) h) Q) (he : ∀ h w, I n h → ok (f w (nI n) h) Q) (N a : Nat) (h : pq_H) (ha : a ≤ n) (hN : n < a + N) (hI : I a h) : ok (lp z f N (nI a) h) Q :=
  lp_gen (fun (w : Int32 → pq_H → Option β) (s : Int32 × pq_H) => w s.1 s.2) (fun i s => s.1 = nI i ∧ I i s.2) n (fun i s w h1 h2 h3 => by obtain ⟨s1, s2⟩ := s; obtain ⟨e, h2⟩ := h2; simp only at e; subst e; exact hs i s2 w h1 h2 (fun h' h4 => h3 (nI (i + 1), h') ⟨rfl, h4⟩)) (fun s w h2 => by obtain ⟨s1, s2⟩ := s; obtain ⟨e, h2⟩ := h2; simp only at e; subst e; exact he s2 w h2) N a (nI a, h) ha hN ⟨rfl, hI⟩
theorem lp_forA {α β : Type} {z : α → Int32 → Option β} {f : (α → Int32 → Option β) → α → Int32 → Option β} {Q : β → Prop} (I : Nat → α → Prop) (n : Nat) (hs : ∀ i x w, i < n → I i x → (∀ x', I (i + 1) x' → ok (w x' (nI (i + 1))) Q) → ok (f w x (nI i)) Q) (he : ∀ x w, I n x → ok (f w x (nI n)) Q) (N a : Nat) (x : α) (ha : a ≤ n) (hN : n < a + N) (hI : I a x) : ok (lp z f N x (nI a)) Q :=
  lp_gen (fun (w : α → Int32 → Option β) (s : Int32 × α) => w s.2 s.1) (fun i s => s.1 = nI i ∧ I i s.2) n (fun i s w h1 h2 h3 => by obtain ⟨s1, s2⟩ := s; obtain ⟨e, h2⟩ := h2; simp only at e; subst e; exact hs i s2 w h1 h2 (fun h' h4 => h3 (nI (i + 1), h') ⟨rfl, h4⟩)) (fun s w h2 => by obtain ⟨s1, s2⟩ := s; obtain ⟨e, h2⟩ := h2; simp only at e; subst e; exact he s2 w h2) N a (nI a, x) ha hN ⟨rfl, hI⟩
theorem lp_forAH {α β : Type} {z : α → Int32 → pq_H → Option β} {f : (α → Int32 → pq_H → Option β) → α → Int32 → pq_H → Option β} {Q : β → Prop} (I : Nat → α → pq_H → Prop) (n : Nat) (hs : ∀ i x h w, i < n → I i x h → (∀ x' h', I (i + 1) x' h' → ok (w x' (nI (i + 1)) h') Q) → ok (f w x (nI i) h) Q) (he : ∀ x h w, I n x h → ok (f w x (nI n) h) Q) (N a : Nat) (x : α) (h : pq_H) (ha : a ≤ n) (hN : n < a + N) (hI : I a x h) : ok (lp z f N x (nI a) h) Q :=
  lp_gen (fun (w : α → Int32 → pq_H → Option β) (s : Int32 × α × pq_H) => w s.2.1 s.1 s.2.2) (fun i s => s.1 = nI i ∧ I i s.2.1 s.2.2) n (fun i s w h1 h2 h3 => by obtain ⟨s1, s2, s3⟩ := s; obtain ⟨e, h2⟩ := h2; simp only at e h2; subst e; exact hs i s2 s3 w h1 h2 (fun x' h' h4 => h3 (nI (i + 1), x', h') ⟨rfl, h4⟩)) (fun s w h2 => by obtain ⟨s1, s2, s3⟩ := s; obtain ⟨e, h2⟩ := h2; simp only at e h2; subst e; exact he s2 s3 w h2) N a (nI a, x, h) ha hN ⟨rfl, hI⟩
theorem le_nIn {a b : Nat} (h : a ≤ b) (hb : b < 2000000000) : nI a ≤ nI b := nI_le h (by omega)
theorem renew_ok (l s : Nat) (hl : l < 3) (hs : s ≤ 40) (h : pq_H) : ok (f_X4_renew (nI l) (nI s) h) (fun h' => (∀ p k, p ≠ 52 + l → (p ≠ 81 ∨ k ≠ l) → rI h' p k = rI h p k) ∧ rI h' 81 l = nI s ∧ (∀ k, k < s → rI h' (52 + l) k = 0) ∧ ∀ k, rR h' 72 k = rR h 72 k) := by
  unfold f_X4_renew
  rw [inbN hl (by decide), gd_t, nI_clamp (by omega), hl_d]
  refine lp_forH (fun i h' => (∀ p k, p ≠ 52 + l → (p ≠ 81 ∨ k ≠ l) → rI h' p k = rI h p k) ∧ rI h' 81 l = nI s ∧ (∀ k, k < i → rI h' (52 + l) k = 0) ∧ ∀ k, rR h' 72 k = rR h 72 k) s ?_ ?_ 1000 0 _ (by omega) (by omega) ⟨?_, ?_, ?_, ?_⟩
  · intro i h' w hi ⟨g1, g2, g3, g4⟩ hw
    unfold f_X4_renew_l9
    rw [if_neg (nI_ge hi (by omega)), inbN hl (by decide), inbN (show i < 40 by omega) (by decide), gd_t, gd_t, nI_clamp (by omega), nI_clamp (by omega), nI_1]
    refine hw _ ⟨fun p k e1 e2 => ?_, ?_, fun k hk => ?_, g4⟩
    · rw [rI_ne (by omega)]; exact g1 p k e1 e2
    · rw [rI_ne (by omega)]; exact g2
    · by_cases e : k = i
      · subst e; rw [rI_same]
      · rw [rI_ne (by omega)]; exact g3 k (by omega)
  · intro h' w g
    unfold f_X4_renew_l9
    rw [if_pos (le_nIn (Nat.le_refl _) (by omega))]
    exact ok_some g
  · intro p k e1 e2; rw [rI_ne (by omega)]
  · rw [rI_same]
  · intro k hk; omega
  · intro k; rfl
theorem Bf {b : Bool} (h : b = false) : ¬ b = true := by subst h; decide
end OPS2
