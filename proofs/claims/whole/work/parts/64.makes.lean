section MAKES
variable {hC hM : pq_H}
def AM (FF : Nat → pF) (f q R N : Nat) : Nat → Nat → Int := fun t c => if t < R then (if c < N then (cfT (FF (sel q c)) t).toInt else if c = N then (cfT (FF f) t).toInt else 0) else 0
/-- what holds where it can be made -/
theorem can_t {FF : Nat → pF} {n f q : Nat} (h : CAN FF n f q = true) (hf : f < n) : rk q 6 ≤ 3 ∧ q.testBit f = false ∧ smB (FF f) = true ∧ ∀ v, v < n → q.testBit v = true → (FF v).2.2.1 = (FF f).2.2.1 ∧ smB (FF v) = true := by
  unfold CAN at h
  rw [Bool.and_eq_true, Bool.and_eq_true, decide_eq_true_iff, allB_iff, Bool.not_eq_true'] at h
  obtain ⟨h1, h2, h3⟩ := h
  refine ⟨h1, h2, ?_, fun v hv hb => ?_⟩
  · have := h3 f hf
    unfold ckA ck1 at this
    rw [if_pos (Or.inl rfl), Bool.and_eq_true] at this
    exact this.2
  · have := h3 v hv
    unfold ckA ck1 at this
    rw [if_pos (Or.inr hb), Bool.and_eq_true, decide_eq_true_iff] at this
    exact this
theorem sm_b {F : pF} (h : smB F = true) {t : Nat} (ht : t < tri (F.2.2.1 + 1)) : -99 ≤ (cfT F t).toInt ∧ (cfT F t).toInt ≤ 99 := by
  have := allB_t h ht
  unfold sm1 at this
  exact decide_eq_true_iff.mp this
theorem AM_b {FF : Nat → pF} {n f q N : Nat} (h : CAN FF n f q = true) (hf : f < n) (hq : q < 64) (hqn : q < 2 ^ n) (hN : N = rk q 6) : ∀ t c, -99 ≤ AM FF f q (tri ((FF f).2.2.1 + 1)) N t c ∧ AM FF f q (tri ((FF f).2.2.1 + 1)) N t c ≤ 99 := by
  obtain ⟨c1, c2, c3, c4⟩ := can_t h hf
  intro t c
  unfold AM
  by_cases z : t < tri ((FF f).2.2.1 + 1)
  · rw [if_pos z]
    by_cases y : c < N
    · rw [if_pos y]
      obtain ⟨r1, r2, r3⟩ := rk_sel q hq c (by omega) (by omega)
      obtain ⟨d1, d2⟩ := c4 (sel q c) (bit_lt hqn r1) r1
      exact sm_b d2 (by rw [d1]; exact z)
    · rw [if_neg y]
      split
      · exact sm_b c3 z
      · omega
  · rw [if_neg z]
    omega
theorem makes_ok {n f q : Nat} {FF : Nat → pF} (i : InvF n hC hM) (pm : Perm hC) (hFF : ∀ f, f < n → FormC hC f (FF f) ∧ FormM hM f (FF f) ∧ okF (FF f)) (hf : f < n) (hq : q < 64) (hqn : q < 2 ^ n) (hc : CAN FF n f q = true) : ok (f_X5_makes (nI f) (nI q) hC) (fun r => ∃ k pc σ E h0, MK (tri ((FF f).2.2.1 + 1)) (rk q 6) (rk q 6) k (AM FF f q (tri ((FF f).2.2.1 + 1)) (rk q 6)) pc h0 r.2 σ E ∧ (∀ P j, P ≠ 71 → rI h0 P j = rI hC P j) ∧ rI h0 71 3 = nI (rk q 6) ∧ ((r.1 = true ∧ DEP (tri ((FF f).2.2.1 + 1)) k (colsOf (AM FF f q (tri ((FF f).2.2.1 + 1)) (rk q 6)) pc) (fun t => AM FF f q (tri ((FF f).2.2.1 + 1)) (rk q 6) t (rk q 6))) ∨ (r.1 = false ∧ ¬ DEP (tri ((FF f).2.2.1 + 1)) k (colsOf (AM FF f q (tri ((FF f).2.2.1 + 1)) (rk q 6)) pc) (fun t => AM FF f q (tri ((FF f).2.2.1 + 1)) (rk q 6) t (rk q 6))))) := by
  obtain ⟨h6, e1, e2, -⟩ := i
  obtain ⟨c1, c2, c3, c4⟩ := can_t hc hf
  obtain ⟨a1, a2, a3⟩ := hFF f hf
  have hd := a3.2.2.1
  have hb := tri28 hd
  have rn := rk_n q hq n (by omega) hqn
  have ab := AM_b hc hf hq hqn rfl
  obtain ⟨σ, p⟩ := pm
  have p : PM hC σ := p
  generalize hR : tri ((FF f).2.2.1 + 1) = R at *
  generalize hA : AM FF f q R (rk q 6) = A at *
  unfold f_X5_makes
  rw [inbN (show f < 6 by omega) (by decide), gd_t, nI_clamp (by omega), a1.2.2.1, termsOf_nI (by omega), hR, hl_d, hl_d]
  refine lp_forH (fun v h => (∀ P k, rR h P k = rR hC P k) ∧ (∀ P j, P ≠ 71 → rI h P j = rI hC P j) ∧ rI h 71 2 = nI R ∧ rI h 71 3 = nI (rk q v) ∧ CEm h σ R (rk q v) A) n ?_ ?_ 1000 0 _ (by omega) (by omega) ⟨fun _ _ => rfl, fun P j hP => by rw [rI_ne (by omega), rI_ne (by omega)], by rw [rI_ne (by omega), rI_same], rI_same _ _ _ _, fun t c ht hc => absurd hc (Nat.not_lt_zero _)⟩
  · intro v h w hv ⟨g1, g2, g3, g4, g5⟩ hw
    unfold f_X5_makes_l24 f_X5_makes_j78
    rw [g2 56 3 (by omega), e1, if_neg (nI_ge hv (by omega)), nI_1]
    by_cases u : q.testBit v = false
    · have rv : rk q (v + 1) = rk q v := by show rk q v + (if q.testBit v = true then 1 else 0) = _; rw [u]; rfl
      rw [if_pos ((bitq_nI q hq v (by omega)).mpr u)]
      refine hw h ⟨g1, g2, g3, by rw [rv]; exact g4, by rw [rv]; exact g5⟩
    have ut : q.testBit v = true := by cases h : q.testBit v; exact absurd h u; rfl
    have rv : rk q (v + 1) = rk q v + 1 := by show rk q v + (if q.testBit v = true then 1 else 0) = _; rw [if_pos ut]
    obtain ⟨s1, s2⟩ := sel_rk q hq v (by omega) ut
    obtain ⟨d1, d2⟩ := c4 v hv ut
    obtain ⟨b1, b2, b3⟩ := hFF v hv
    have ph : PM h σ := p.fr g1
    have b1' : FormC h v (FF v) := b1.fr (fun k => g2 v k (by omega)) (fun k => g2 (v + 12) k (by omega))
    rw [if_neg (fun w => u ((bitq_nI q hq v (by omega)).mp w)), g4, if_pos (show nI (rk q v) < 3 from nI_lt (b := 3) (by omega) (by omega)), inbN (show v < 6 by omega) (by decide), gd_t, nI_clamp (by omega)]
    refine ok_bind (fill_ok ph (show rk q v < 4 by omega) (by omega) b1' b3 (by rw [d1, hR]; exact g3)) (fun h' ⟨k1, k2, k3, k4⟩ => ?_)
    rw [k1, g4, nI_1]
    refine hw _ ⟨fun P k => (k2 P k).trans (g1 P k), fun P j hP => ?_, ?_, ?_, fun t c ht hcc => ?_⟩
    · rw [rI_ne (by omega), k1]; exact g2 P j hP
    · rw [rI_ne (by omega), k1]; exact g3
    · rw [rI_same, rv]
    · show rJ h' (24 + σ t) c = _
      rw [rv] at hcc
      by_cases z : c = rk q v
      · subst z
        rw [d1, hR] at k4
        rw [k4 t ht, ← hA]
        unfold AM
        rw [if_pos ht, if_pos s2, s1]
      · rw [k3 _ _ z]
        exact g5 t c ht (by omega)
  · intro h w ⟨g1, g2, g3, g4, g5⟩
    unfold f_X5_makes_l24 f_X5_makes_j84
    have ph : PM h σ := p.fr g1
    have a1' : FormC h f (FF f) := a1.fr (fun k => g2 f k (by omega)) (fun k => g2 (f + 12) k (by omega))
    rw [g2 56 3 (by omega), e1, if_pos (le_nIn (Nat.le_refl _) (by omega)), inbN (show f < 6 by omega) (by decide), gd_t, nI_clamp (by omega), g4, rn]
    rw [rn] at g4 g5
    refine ok_bind (fill_ok ph (show rk q 6 < 4 by omega) (by omega) a1' a3 (by rw [hR]; exact g3)) (fun h' ⟨k1, k2, k3, k4⟩ => ?_)
    rw [hR] at k4
    have ce : CEm h' σ R (rk q 6 + 1) A := by
      intro t c ht hcc
      by_cases z : c = rk q 6
      · subst z
        rw [k4 t ht, ← hA]
        unfold AM
        rw [if_pos ht, if_neg (by omega), if_pos rfl]
      · rw [k3 _ _ z]
        exact g5 t c ht (by omega)
    refine ok_mono (makesLoop (ph.fr k2) ((k1 _ _).trans g3) hb ((k1 _ _).trans g4) c1 ce (fun t c _ => ab t c)) (fun r ⟨k, pc, σ', E, m1, m2⟩ => ?_)
    exact ⟨k, pc, σ', E, h', m1, fun P j hP => (k1 P j).trans (g2 P j hP), (k1 _ _).trans g4, m2⟩
theorem fraction_ok {R k q g : Nat} {A E : Nat → Nat → Int} {pc σ : Nat → Nat} {h0 h : pq_H} (mkk : MK R (rk q 6) (rk q 6) k A pc h0 h σ E) (hR : R ≤ 28) (hN : rI h0 71 3 = nI (rk q 6)) (hN3 : rk q 6 ≤ 3) (hq : q < 64) (hg : g < 6) (P : Int32) : (∃ i, i < k ∧ q.testBit g = true ∧ pc i = rk q g ∧ f_X5_fraction (nI q) (nI g) P h = f_X10_partOf (Int64.ofInt (E i (rk q 6))) (Int64.ofInt (E i (pc i))) P) ∨ ((∀ i, i < k → ¬ (q.testBit g = true ∧ pc i = rk q g)) ∧ f_X5_fraction (nI q) (nI g) P h = f_X10_partOf 0 1 P) := by
  obtain ⟨m1, m2, m3, m4, m5, m6, m7, m8⟩ := mkk
  unfold f_X5_fraction f_X5_fraction_j40
  simp only [bind_id]
  by_cases u : q.testBit g = false
  · right
    refine ⟨fun i hi w => by rw [u] at w; exact absurd w.1 (by decide), ?_⟩
    rw [if_pos ((bitq_nI q hq g hg).mpr u)]
  have ut : q.testBit g = true := by cases h : q.testBit g; exact absurd h u; rfl
  obtain ⟨s1, s2⟩ := sel_rk q hq g hg ut
  rw [if_neg (fun w => u ((bitq_nI q hq g hg).mp w)), bcg_nI q hq g hg, m2 _ _ (by omega), hN, if_neg (nI_ge s2 (by omega)), inbN (show rk q g < 3 by omega) (by decide), gd_t, nI_clamp (by omega)]
  rcases m8 (rk q g) s2 with ⟨i, i1, i2, i3⟩ | ⟨i1, i2⟩
  · left
    refine ⟨i, i1, ut, i2, ?_⟩
    have iR := (m6 i i1).1
    rw [i3, if_neg (fun w => ch_no (k := 1) (c := i) (by omega) (by omega) (by omega) w.symm), gd_t, inbN (show i < 28 by omega) (by decide), gd_t, nI_clamp (by omega), (m1.1 i (by omega)).1, rowG_ok (m1.1 i (by omega)).2, inbN (show rk q 6 < 4 by omega) (by decide), gd_t, inbN (show rk q g < 4 by omega) (by decide), gd_t, nI_clamp (by omega), m3 i _ iR (by omega), m3 i _ iR (by omega), i2]
  · right
    refine ⟨fun i hi w => i1 i hi w.2, ?_⟩
    rw [i2, if_pos rfl]
end MAKES
