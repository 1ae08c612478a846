section SPELLED
variable {hC hM : pq_H}
theorem txt_ok {F : pF} (hF : okF F) : ∃ T : Nat → List Int32, T 0 = [] ∧ ∀ s k, s ≤ F.2.2.1 → k ≤ s → TERMS F s k (T (tri s + k)) (T (tri s + k + 1)) := by
  have st : ∀ (t : Nat) (out : List Int32), ∃ out', ∀ s k, s ≤ F.2.2.1 → k ≤ s → t = tri s + k → TERMS F s k out out' := by
    intro t out
    by_cases c : t < tri (F.2.2.1 + 1)
    · obtain ⟨s, k, h1, h2, h3⟩ := tri_exD c
      obtain ⟨o, ho⟩ := term_ok hF h1 h2 out
      refine ⟨o, fun a b h4 h5 h6 => ?_⟩
      obtain ⟨e1, e2⟩ := tri_inj h2 h5 (h3.symm.trans h6)
      subst e1 e2
      exact ho
    · refine ⟨[], fun a b h4 h5 h6 => ?_⟩
      have := tri_lt (show a < F.2.2.1 + 1 by omega) h5
      omega
  refine ⟨fun t => Nat.rec [] (fun t o => Classical.choose (st t o)) t, rfl, fun s k hs hk => ?_⟩
  exact Classical.choose_spec (st (tri s + k) (Nat.rec [] (fun t o => Classical.choose (st t o)) (tri s + k))) s k hs hk rfl
theorem txt_len {F : pF} {T : Nat → List Int32} (h0 : T 0 = []) (hT : ∀ s k, s ≤ F.2.2.1 → k ≤ s → TERMS F s k (T (tri s + k)) (T (tri s + k + 1))) : ∀ t, t ≤ tri (F.2.2.1 + 1) → (T t).length ≤ 17 * t := by
  intro t
  induction t with
  | zero => intro _; rw [h0]; exact Nat.le_refl _
  | succ t ih =>
    intro ht
    obtain ⟨s, k, h1, h2, h3⟩ := tri_exD (show t < tri (F.2.2.1 + 1) by omega)
    have a := (hT s k h1 h2).1
    rw [← h3] at a
    have := ih (by omega)
    omega
def fin48 (l : List Int32) : List Int32 := if l = [] then [48] else l
theorem spell_ok {hC : pq_H} {F : pF} {T : Nat → List Int32} (hF : okF F) (h0 : T 0 = []) (hT : ∀ s k, s ≤ F.2.2.1 → k ≤ s → TERMS F s k (T (tri s + k)) (T (tri s + k + 1))) {f : Nat} (hf : f < 12) (hC' : FormC hC f F) (w : Int32) : ok (f_X7_spell f w hC) (fun h' => frC hC h' ∧ SPC h' w (fin48 (T (tri (F.2.2.1 + 1))))) := by
  have hd := hF.2.2.1
  have hb := tri28 hd
  have hl := txt_len h0 hT
  unfold f_X7_spell
  simp only [hl_d]
  refine lp_forH (fun s h' => frC hC h' ∧ SPC h' w (T (tri s))) (F.2.2.1 + 1) ?_ ?_ 1000 0 _ (by omega) (by omega) ⟨?_, ?_, ?_, ?_⟩
  · intro s h' w18 hs ⟨f1, s1⟩ hw
    have hF' := hC'.frC hf f1
    unfold f_X7_spell_l18
    rw [hF'.2.2.1, if_neg (nI_nlt (by omega) (by omega))]
    refine lp_forH (fun k h2 => frC hC h2 ∧ SPC h2 w (T (tri s + k))) (s + 1) ?_ ?_ 1000 0 h' (by omega) (by omega) ⟨f1, s1⟩
    · intro k h2 w29 hk ⟨f2, s2⟩ hw2
      have hF2 := hC'.frC hf f2
      have ht : tri s + k < tri (F.2.2.1 + 1) := tri_lt hs (by omega)
      have hll := hl (tri s + k) (by omega)
      unfold f_X7_spell_l29
      rw [if_neg (nI_nlt (by omega) (by omega)), hF2.2.2.1, pk_sub (by omega), pk_sub (by omega)]
      refine ok_bind ((hT s k (by omega) (by omega)).2.1 h2 w (Or.inr trivial) (by omega) s2 f hf hF2) (fun h3 ⟨b1, b2⟩ => ?_)
      rw [nI_1]
      exact hw2 h3 ⟨f2.tr b1, b2⟩
    · intro h2 w29 ⟨f2, s2⟩
      unfold f_X7_spell_l29 f_X7_spell_j58
      rw [if_pos (nI_lt (by omega) (by omega)), nI_1]
      refine hw h2 ⟨f2, ?_⟩
      rw [tri_succ]
      exact s2
  · intro h' w18 ⟨f1, s1⟩
    have hF' := hC'.frC hf f1
    unfold f_X7_spell_l18 f_X7_spell_j64
    have hll := hl _ (Nat.le_refl _)
    rw [hF'.2.2.1, if_pos (nI_lt (by omega) (by omega)), s1.1]
    unfold fin48
    by_cases z : T (tri (F.2.2.1 + 1)) = []
    · rw [if_pos (by rw [z]; rfl), if_pos z]
      refine ok_bind (addC_ok (by omega) s1) (fun h3 ⟨b1, b2⟩ => ?_)
      rw [z] at b2
      exact ok_some ⟨f1.tr b1, b2⟩
    · have zl := List.length_pos_iff.mpr z
      rw [if_neg (nI_ne0 (by omega) (by omega)), if_neg z]
      exact ok_some ⟨f1, s1⟩
  · exact ((frC.wI _ _ _ _ (by omega)).tr (frC.wI _ _ _ _ (by omega))).tr (frC.wI _ _ _ _ (by omega))
  · show _ = nI (T 0).length
    rw [rI_ne (by omega), rI_ne (by omega), rI_same, h0]
    rfl
  · rw [rI_same]
  · rw [rI_ne (by omega), rI_same]
    refine Or.inr ⟨fun j hj => ?_, rfl⟩
    have hj : j < (T 0).length := hj
    rw [h0] at hj
    exact absurd hj (Nat.not_lt_zero _)
theorem spells_ok {hM : pq_H} {F : pF} {T : Nat → List Int32} (hF : okF F) (h0 : T 0 = []) (hT : ∀ s k, s ≤ F.2.2.1 → k ≤ s → TERMS F s k (T (tri s + k)) (T (tri s + k + 1))) {f : Nat} (hf : f < 6) (hM' : FormM hM f F) : ok (f_X11_spells (nI f) hM) (fun h' => frM hM h' ∧ SPM h' (fin48 (T (tri (F.2.2.1 + 1))))) := by
  have hd := hF.2.2.1
  have hb := tri28 hd
  have hl := txt_len h0 hT
  unfold f_X11_spells
  have g0 : frM hM (wI hM 0 36 0) := frM.wI _ _ _ _ (by omega)
  have hF0 := hM'.frM g0
  rw [hl_d, inbN hf (by decide), gd_t, nI_clamp (by omega), hF0.2.2.1]
  refine lp_forH (fun t h' => frM hM h' ∧ SPM h' (T t)) (tri (F.2.2.1 + 1)) ?_ ?_ 1000 0 _ (by omega) (by omega) ⟨g0, ?_, ?_⟩
  · intro t h' w14 ht ⟨f1, s1⟩ hw
    obtain ⟨s, k, h1, h2, rfl⟩ := tri_exD ht
    have hll := hl (tri s + k) (by omega)
    exact (hT s k h1 h2).2.2 h' hM f w14 _ hf (hM'.frM f1) f1 (by omega) s1 (fun h2 f2 s2 => hw h2 ⟨f2, s2⟩)
  · intro h' w14 ⟨f1, s1⟩
    have hll := hl _ (Nat.le_refl _)
    unfold f_X11_spells_l14 f_X11_spells_j165
    rw [isTerm_ok (hM'.frM f1) hF hf _ (by omega), Option.bind_some, if_neg (by simp), s1.1]
    unfold fin48
    by_cases z : T (tri (F.2.2.1 + 1)) = []
    · rw [if_pos (by rw [z]; rfl), if_pos z]
      refine ok_bind (puts_ok (by omega) s1) (fun h3 ⟨b1, b2⟩ => ?_)
      rw [z] at b2
      exact ok_some ⟨f1.tr b1, b2⟩
    · have zl := List.length_pos_iff.mpr z
      rw [if_neg (nI_ne0 (by omega) (by omega)), if_neg z]
      exact ok_some ⟨f1, s1⟩
  · rw [rI_same, h0]; rfl
  · intro j hj
    rw [h0] at hj
    exact absurd hj (Nat.not_lt_zero _)
theorem a_spelled : Ag_spelled Inv := by
  intro hC hM p1 p2 i
  obtain ⟨n, i1, -⟩ := id i
  unfold f_X10_spelled f_X11_spelled f_X11_spelled_j23
  simp only [bd2_id]
  rcases form_cases i1 p1 with ⟨a, b⟩ | ⟨f, hf, hf6, rfl, a, b, F, c1, c2, c3⟩
  · rw [if_pos a, if_neg (Bf b), if_neg (by decide)]
    exact ag_no 1 rfl (by decide) (by decide) i
  rw [if_neg (Bf a), if_pos b]
  by_cases g : -1 ≤ p2
  case neg =>
    rw [if_neg g, if_neg g, if_neg (by decide)]
    exact ag_no 4 rfl (by decide) (by decide) i
  rw [if_pos g, if_pos g, if_pos trivial, inbN hf6 (by decide), gd_t, nI_clamp (by omega)]
  obtain ⟨T, t0, tT⟩ := txt_ok c3
  have hll := txt_len t0 tT _ (Nat.le_refl _)
  have hb := tri28 c3.2.2.1
  obtain ⟨L, hL⟩ : ∃ L, L = fin48 (T (tri (F.2.2.1 + 1))) := ⟨_, rfl⟩
  have lL : L.length < 500 := by
    rw [hL]
    unfold fin48
    split
    · exact (by decide : (1 : Nat) < 500)
    · omega
  obtain ⟨h1, e1, f1, s1⟩ := spell_ok c3 t0 tT (show f < 12 by omega) c1 p2
  obtain ⟨h2, e2, f2, s2⟩ := spells_ok c3 t0 tT hf6 c2
  rw [← hL] at s1 s2
  have iv := i.fr f1 f2
  rw [e1, e2, Option.bind_some, Option.bind_some]
  by_cases z : p2 = -1
  · subst z
    rw [if_pos rfl, if_neg (by decide)]
    exact ag_c (nI L.length) h1 h2 (by rw [s1.1]) (by rw [s2.1]) iv
  · have p0 : 0 ≤ p2 := by
      have a := Int32.le_iff_toInt_le.mp g
      have n : ¬ p2.toInt = -1 := fun y => z (Int32.toInt_inj.mp y)
      refine Int32.le_iff_toInt_le.mpr ?_
      have c : (0 : Int32).toInt = 0 := rfl
      have c2 : (-1 : Int32).toInt = -1 := rfl
      omega
    rw [if_neg z, if_pos p0, s2.1]
    rcases s1.2.2 with ⟨j, j1, rfl, j3⟩ | ⟨j1, j2⟩
    · rw [if_neg (show ¬ nI L.length ≤ nI j from nI_ge j1 (by omega)), inbN (show j < 500 by omega) (by decide), gd_t, nI_clamp (by omega)]
      have q := s2.2 j j1
      rw [j3] at q
      exact ag_c _ h1 h2 rfl (by rw [Option.some.inj q]) iv
    · have q : nI L.length ≤ p2 := by
        rcases pk_ix p2 (n := L.length) (by omega) with h | h | ⟨j, hj, e⟩
        · exfalso
          have a := Int32.le_iff_toInt_le.mp p0
          have b := Int32.lt_iff_toInt_lt.mp h
          omega
        · exact h
        · exact absurd e (j1 j hj)
      rw [if_pos q]
      exact ag_c _ h1 h2 (by rw [j2]) rfl iv
end SPELLED
