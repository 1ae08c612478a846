section LEAD
theorem PM_sw {h : pq_H} {σ : Nat → Nat} {l t0 : Nat} (p : PM h σ) (hl : l < 28) (ht : t0 < 28) : PM (wR (wR h 72 t0 (some (24 + σ l))) 72 l (some (24 + σ t0))) (fun t => if t = l then σ t0 else if t = t0 then σ l else σ t) := by
  refine ⟨fun t h28 => ?_, fun t t' h1 h2 e => ?_⟩
  · by_cases z : t = l
    · subst z
      rw [rR_same]
      simp only [if_true]
      exact ⟨trivial, (p.1 t0 ht).2⟩
    · rw [rR_ne (by omega)]
      simp only [if_neg z]
      by_cases y : t = t0
      · subst y
        rw [rR_same]
        simp only [if_true]
        exact ⟨trivial, (p.1 l hl).2⟩
      · rw [rR_ne (by omega)]
        simp only [if_neg y]
        exact p.1 t h28
  · have inj := p.2
    by_cases z : t = l
    · by_cases z' : t' = l
      · omega
      · simp only [if_pos z, if_neg z'] at e
        by_cases y' : t' = t0
        · simp only [if_pos y'] at e
          have := inj t0 l ht hl e
          omega
        · simp only [if_neg y'] at e
          have := inj t0 t' ht h2 e
          omega
    · by_cases z' : t' = l
      · simp only [if_neg z, if_pos z'] at e
        by_cases y : t = t0
        · simp only [if_pos y] at e
          have := inj l t0 hl ht e
          omega
        · simp only [if_neg y] at e
          have := inj t t0 h1 ht e
          omega
      · simp only [if_neg z, if_neg z'] at e
        by_cases y : t = t0
        · by_cases y' : t' = t0
          · omega
          · simp only [if_pos y, if_neg y'] at e
            have := inj l t' hl h2 e
            omega
        · by_cases y' : t' = t0
          · simp only [if_neg y, if_pos y'] at e
            have := inj t l h1 hl e
            omega
          · simp only [if_neg y, if_neg y'] at e
            exact inj t t' h1 h2 e
theorem lead_ok {h : pq_H} {σ : Nat → Nat} {R N l c : Nat} {E : Nat → Nat → Int} (p : PM h σ) (hR : rI h 71 2 = nI R) (hR2 : R ≤ 28) (hN : rI h 71 3 = nI N) (hN3 : N ≤ 3) (ce : CEm h σ R (N + 1) E) (hb : BDE R E BIG) (hl : l ≤ R) (hc : c < N) : (∃ t0, l ≤ t0 ∧ t0 < R ∧ E t0 c ≠ 0 ∧ ok (f_X5_lead (nI l) (nI c) h) (fun r => r.1 = nI l ∧ (∀ P k, rI r.2 P k = rI h P k) ∧ ∃ σ', PM r.2 σ' ∧ CEm r.2 σ' R (N + 1) (EL (SW E l t0) l c))) ∨ ((∀ t, t < R → l ≤ t → E t c = 0) ∧ f_X5_lead (nI l) (nI c) h = some (-1, h)) := by
  rcases leader_ok p hR hR2 ce hb hl (show c < N + 1 by omega) (by omega) with ⟨t0, a1, a2, a3, a4⟩ | ⟨a1, a2⟩
  case inr =>
    right
    refine ⟨a1, ?_⟩
    unfold f_X5_lead
    rw [a2, Option.bind_some, if_pos rfl]
  left
  refine ⟨t0, a1, a2, a3, ?_⟩
  have hl28 : l < 28 := by omega
  have ht28 : t0 < 28 := by omega
  unfold f_X5_lead
  rw [a4, Option.bind_some, if_neg (fun q => ch_no (k := 1) (c := t0) (by omega) (by omega) (by omega) q.symm), inbN ht28 (by decide), gd_t, nI_clamp (by omega), (p.1 t0 ht28).1, rowG_ok (p.1 t0 ht28).2, inbN hl28 (by decide), gd_t, nI_clamp (n := l) (by omega), (p.1 l hl28).1, rowG_ok (p.1 l hl28).2, gd_t, hl_d, gd_t, hl_d]
  generalize hH : wR (wR h 72 t0 (some (24 + σ l))) 72 l (some (24 + σ t0)) = H
  have pm : PM H (fun t => if t = l then σ t0 else if t = t0 then σ l else σ t) := by rw [← hH]; exact PM_sw p hl28 ht28
  have eI : ∀ P k, rI H P k = rI h P k := fun P k => by rw [← hH]; rfl
  have eJ : ∀ P k, rJ H P k = rJ h P k := fun P k => by rw [← hH]; rfl
  clear hH
  generalize hs : (fun t => if t = l then σ t0 else if t = t0 then σ l else σ t) = σ' at pm
  have ce1 : CEm H σ' R (N + 1) (SW E l t0) := by
    intro t k ht hk
    rw [eJ, ← hs]
    unfold SW
    by_cases z : t = l
    · simp only [if_pos z]; exact ce t0 k a2 hk
    · simp only [if_neg z]
      by_cases y : t = t0
      · simp only [if_pos y]; exact ce l k (by omega) hk
      · simp only [if_neg y]; exact ce t k ht hk
  clear hs
  have hb1 : BDE R (SW E l t0) BIG := BDE_sw hb (by omega) a2
  refine lp_forH (fun i h' => (∀ P k, rI h' P k = rI h P k) ∧ (∀ P k, rR h' P k = rR H P k) ∧ ∀ t k, t < R → k < N + 1 → rJ h' (24 + σ' t) k = Int64.ofInt (if t < i then EL (SW E l t0) l c t k else SW E l t0 t k)) R ?_ ?_ 1000 0 H (by omega) (by omega) ⟨eI, fun _ _ => rfl, fun t k ht hk => by rw [if_neg (by omega)]; exact ce1 t k ht hk⟩
  · intro i h' w hi ⟨g1, g2, g3⟩ hw
    unfold f_X5_lead_l45 f_X5_lead_j82
    rw [g1, hR, if_neg (nI_ge hi (by omega)), nI_1]
    have skip : EL (SW E l t0) l c i = SW E l t0 i → ok (w (nI (i + 1)) h') (fun r => r.1 = nI l ∧ (∀ P k, rI r.2 P k = rI h P k) ∧ ∃ σ', PM r.2 σ' ∧ CEm r.2 σ' R (N + 1) (EL (SW E l t0) l c)) := by
      intro e
      refine hw h' ⟨g1, g2, fun t k ht hk => ?_⟩
      rw [g3 t k ht hk]
      by_cases z : t = i
      · subst z
        rw [if_neg (by omega), if_pos (by omega), e]
      · by_cases y : t < i
        · rw [if_pos y, if_pos (by omega)]
        · rw [if_neg y, if_neg (by omega)]
    by_cases z : i = l
    · rw [if_pos (by rw [z])]
      refine skip ?_
      unfold EL
      funext k
      rw [if_pos (Or.inl z)]
    rw [if_neg (fun q => z ((ieq (by omega) (by omega)).mp q)), inbN (show i < 28 by omega) (by decide), gd_t, nI_clamp (by omega), g2, (pm.1 i (by omega)).1, rowG_ok (pm.1 i (by omega)).2, inbN (show c < 4 by omega) (by decide), gd_t, nI_clamp (by omega), g3 i c hi (by omega), if_neg (show ¬ i < i by omega)]
    have bb := hb1 i c hi
    unfold BIG at bb
    by_cases y : SW E l t0 i c = 0
    · rw [if_pos ((o0 (by omega)).mpr y)]
      refine skip ?_
      unfold EL
      funext k
      rw [if_pos (Or.inr y)]
    rw [if_neg (fun q => y ((o0 (by omega)).mp q))]
    have pm' : PM h' σ' := pm.fr (fun P k => g2 P k)
    have rl : ∀ k, k ≤ N → rJ h' (24 + σ' l) k = Int64.ofInt (SW E l t0 l k) := fun k hk => by
      rw [g3 l k (by omega) (by omega)]
      by_cases q : l < i
      · rw [if_pos q]
        unfold EL
        rw [if_pos (Or.inl rfl)]
      · rw [if_neg q]
    have ri : ∀ k, k ≤ N → rJ h' (24 + σ' i) k = Int64.ofInt (SW E l t0 i k) := fun k hk => by
      rw [g3 i k hi (by omega), if_neg (by omega)]
    refine ok_bind (takeAway_ok pm' ((g1 _ _).trans hN) hN3 (by omega) hl28 z (show c ≤ N by omega) ri rl) (fun h2 ⟨t1, t2, t3, t4⟩ => ?_)
    refine hw h2 ⟨fun P k => (t1 P k).trans (g1 P k), fun P k => (t2 P k).trans (g2 P k), fun t k ht hk => ?_⟩
    by_cases q : t = i
    · subst q
      rw [if_pos (by omega), t4 k (by omega)]
      unfold EL
      rw [if_neg (fun w => by rcases w with w | w; · exact z w
                              · exact y w)]
    · rw [t3 _ _ (fun w => q (pm.2 t i (by omega) (by omega) (by omega))), g3 t k ht hk]
      by_cases q2 : t < i
      · rw [if_pos q2, if_pos (by omega)]
      · rw [if_neg q2, if_neg (by omega)]
  · intro h' w ⟨g1, g2, g3⟩
    unfold f_X5_lead_l45
    rw [g1, hR, if_pos (le_nIn (Nat.le_refl _) (by omega))]
    refine ok_some ⟨rfl, g1, σ', pm.fr (fun P k => g2 P k), fun t k ht hk => ?_⟩
    rw [g3 t k ht hk, if_pos ht]
end LEAD
