section RAISE
variable {hC hM : pq_H}
theorem pm1 (m : Nat) : nI (m + 1) + (-1) = nI m := pk_m1 m
theorem lp_dnH {β : Type} {z : Int32 → pq_H → Option β} {f : (Int32 → pq_H → Option β) → Int32 → pq_H → Option β} {Q : β → Prop} (I : Nat → pq_H → Prop) (n : Nat) (hs : ∀ m h w, m ≤ n → I (m + 1) h → (∀ h', I m h' → ok (w (nI m + (-1)) h') Q) → ok (f w (nI m) h) Q) (he : ∀ h w, I 0 h → ok (f w (-1) h) Q) (N : Nat) (h : pq_H) (hN : n + 2 < N) (hI : I (n + 1) h) : ok (lp z f N (nI n) h) Q :=
  lp_gen (fun (w : Int32 → pq_H → Option β) (s : Int32 × pq_H) => w s.1 s.2) (fun i s => ∃ m, m + i = n + 1 ∧ s.1 = (if m = 0 then -1 else nI (m - 1)) ∧ I m s.2) (n + 1) (fun i s w h1 h2 h3 => by
    obtain ⟨s1, s2⟩ := s
    obtain ⟨m, e1, e2, e3⟩ := h2
    simp only at e2 e3
    rw [if_neg (show ¬ m = 0 by omega)] at e2
    subst e2
    obtain ⟨m, rfl⟩ := Nat.exists_eq_add_of_le' (show 1 ≤ m by omega)
    refine hs m s2 w (by omega) e3 (fun h' h4 => h3 (_, h') ⟨m, by omega, ?_, h4⟩)
    show nI m + (-1) = _
    by_cases z : m = 0
    · subst z; rw [if_pos rfl]; decide
    · obtain ⟨j, rfl⟩ := Nat.exists_eq_add_of_le' (show 1 ≤ m by omega)
      rw [if_neg z, pm1]
      rfl) (fun s w h2 => by
    obtain ⟨s1, s2⟩ := s
    obtain ⟨m, e1, e2, e3⟩ := h2
    simp only at e2 e3
    have : m = 0 := by omega
    subst this
    rw [if_pos rfl] at e2
    subst e2
    exact he s2 w e3) N 0 (nI n, h) (by omega) (by omega) ⟨n + 1, by omega, by rw [if_neg (by omega)]; rfl, hI⟩
/-- a row times the sum of the side's letters -/
def rz (g D : Nat) (W : Nat → Nat → Int64) (s k : Nat) : Int64 := ((if g % 2 = 1 ∧ s ≤ D then W s k else 0) + (if g / 2 % 2 = 1 ∧ k < s then W (s - 1) k else 0)) + (if g / 4 % 2 = 1 ∧ 0 < k then W (s - 1) (k - 1) else 0)
theorem raiseOnce_ok {h : pq_H} {g D : Nat} {W : Nat → Nat → Int64} (h2 : g ≤ 7) (hD : D < 18) (hW : WC h D W) : ok (f_X9_raiseOnce (nI g) h) (fun h' => frC h h' ∧ WC h' (D + 1) (rz g D W)) := by
  unfold f_X9_raiseOnce
  rw [hW.1, if_pos (show nI D < 18 from nI_lt (b := 18) hD (by decide)), hl_d, rI_same, nI_1]
  have b18 : ∀ s k, s ≤ D + 1 → k ≤ s → tri s + k < 190 := fun s k h1 h2 => by
    have := tri18 (show s ≤ 18 by omega)
    omega
  refine lp_dnH (fun m h' => frC h h' ∧ rI h' 59 1 = nI (D + 1) ∧ ∀ s k, s ≤ D + 1 → k ≤ s → (m ≤ s → rJ h' 60 (tri s + k) = rz g D W s k) ∧ (s < m → s ≤ D → rJ h' 60 (tri s + k) = W s k)) (D + 1) ?_ ?_ 1000 _ (by omega) ⟨frC.wI _ _ _ _ (by omega), rI_same _ _ _ _, fun s k hs hk => ⟨fun z => by omega, fun _ hs2 => hW.2 s k hs2 hk⟩⟩
  · intro m h1 w25 hm ⟨g1, g2, g3⟩ hw25
    unfold f_X9_raiseOnce_l25
    rw [if_neg (nI_pos (by omega))]
    refine lp_dnH (fun q h' => frC h h' ∧ rI h' 59 1 = nI (D + 1) ∧ ∀ s k, s ≤ D + 1 → k ≤ s → ((m < s ∨ (s = m ∧ q ≤ k)) → rJ h' 60 (tri s + k) = rz g D W s k) ∧ ((s < m ∨ (s = m ∧ k < q)) → s ≤ D → rJ h' 60 (tri s + k) = W s k)) m ?_ ?_ 1000 h1 (by omega) ⟨g1, g2, fun s k hs hk => ⟨fun z => (g3 s k hs hk).1 (by omega), fun z => (g3 s k hs hk).2 (by omega)⟩⟩
    · intro q h' w31 hq ⟨k1, k2, k3⟩ hw31
      have jt : f_X10_termOf (nI m - nI q) (nI q) = nI (tri m + q) := by rw [pk_sub hq, termOf_nI (by omega), show m - q + q = m by omega]
      have jb := b18 m q hm hq
      have fin : ∀ v : Int64, v = rz g D W m q → ok (f_X9_raiseOnce_j130 w25 w31 (nI q) (nI m - nI q) v h') (fun h' => frC h h' ∧ WC h' (D + 1) (rz g D W)) := by
        intro v hv
        unfold f_X9_raiseOnce_j130
        rw [jt, inbN jb (by decide), gd_t, nI_clamp (by omega)]
        refine hw31 _ ⟨k1.tr (frC.wJ _ _ _ _), k2, fun s k hs hk => ⟨fun z => ?_, fun z hsD => ?_⟩⟩
        · by_cases e : tri s + k = tri m + q
          · obtain ⟨e1, e2⟩ := tri_inj hk hq e
            subst e1 e2
            rw [rJ_same, hv]
          · rw [rJ_ne (by omega)]
            refine (k3 s k hs hk).1 ?_
            rcases z with z | ⟨z1, z2⟩
            · exact Or.inl z
            · refine Or.inr ⟨z1, ?_⟩
              subst z1
              omega
        · have e : tri s + k ≠ tri m + q := fun e => by
            obtain ⟨e1, e2⟩ := tri_inj hk hq e
            omega
          rw [rJ_ne (by omega)]
          exact (k3 s k hs hk).2 (by omega) hsD
      have c4 : ∀ v : Int64, v = (if g % 2 = 1 ∧ m ≤ D then W m q else 0) + (if g / 2 % 2 = 1 ∧ q < m then W (m - 1) q else 0) → ok (f_X9_raiseOnce_j102 (nI g) w25 w31 (nI q) (nI m - nI q) v h') (fun h' => frC h h' ∧ WC h' (D + 1) (rz g D W)) := by
        intro v hv
        unfold f_X9_raiseOnce_j102
        by_cases z1 : g / 4 % 2 = 1
        · rw [if_neg (fun e => (bit4 h2).mp e z1)]
          by_cases z2 : q = 0
          · subst z2
            rw [if_pos (by decide)]
            refine fin v ?_
            unfold rz
            rw [if_neg (show ¬ (g / 4 % 2 = 1 ∧ 0 < 0) by omega), hv, Int64.add_zero]
          · have jt2 : f_X10_termOf (nI m - nI q) (nI q - 1) = nI (tri (m - 1) + (q - 1)) := by rw [i1, pk_sub hq, pk_sub (by omega), termOf_nI (by omega), show m - q + (q - 1) = m - 1 by omega]
            have jb2 := b18 (m - 1) (q - 1) (by omega) (by omega)
            rw [if_neg (nI_nle (by omega) (by omega)), jt2, inbN jb2 (by decide), gd_t, nI_clamp (by omega), (k3 (m - 1) (q - 1) (by omega) (by omega)).2 (by omega) (by omega)]
            refine fin _ ?_
            unfold rz
            rw [if_pos (show g / 4 % 2 = 1 ∧ 0 < q by omega), hv]
        · rw [if_pos ((bit4 h2).mpr z1)]
          refine fin v ?_
          unfold rz
          rw [if_neg (show ¬ (g / 4 % 2 = 1 ∧ 0 < q) by omega), hv, Int64.add_zero]
      have c2 : ∀ v : Int64, v = (if g % 2 = 1 ∧ m ≤ D then W m q else 0) → ok (f_X9_raiseOnce_j73 (nI g) w25 w31 (nI q) (nI m - nI q) v h') (fun h' => frC h h' ∧ WC h' (D + 1) (rz g D W)) := by
        intro v hv
        unfold f_X9_raiseOnce_j73
        by_cases z1 : g / 2 % 2 = 1
        · rw [if_neg (fun e => (bit2 h2).mp e z1)]
          by_cases z2 : q < m
          · have jt2 : f_X10_termOf (nI m - nI q - 1) (nI q) = nI (tri (m - 1) + q) := by rw [i1, pk_sub hq, pk_sub (by omega), termOf_nI (by omega), show m - q - 1 + q = m - 1 by omega]
            have jb2 := b18 (m - 1) q (by omega) (by omega)
            rw [if_neg (show ¬ nI m - nI q ≤ 0 by rw [pk_sub hq]; exact nI_nle (by omega) (by omega)), jt2, inbN jb2 (by decide), gd_t, nI_clamp (by omega), (k3 (m - 1) q (by omega) (by omega)).2 (by omega) (by omega)]
            refine c4 _ ?_
            rw [if_pos (show g / 2 % 2 = 1 ∧ q < m from ⟨z1, z2⟩), hv]
          · rw [if_pos (show nI m - nI q ≤ 0 by rw [pk_sub hq, show m - q = 0 by omega]; decide)]
            refine c4 v ?_
            rw [if_neg (show ¬ (g / 2 % 2 = 1 ∧ q < m) by omega), hv, Int64.add_zero]
        · rw [if_pos ((bit2 h2).mpr z1)]
          refine c4 v ?_
          rw [if_neg (show ¬ (g / 2 % 2 = 1 ∧ q < m) by omega), hv, Int64.add_zero]
      unfold f_X9_raiseOnce_l31
      rw [if_neg (nI_pos (by omega)), k2]
      by_cases z1 : g % 2 = 1
      · rw [if_neg (fun e => (bit1 h2).mp e z1)]
        by_cases z2 : m ≤ D
        · rw [if_neg (nI_ge (by omega) (by omega)), jt, inbN jb (by decide), gd_t, nI_clamp (by omega), (k3 m q hm hq).2 (by omega) z2, Int64.zero_add]
          exact c2 _ (if_pos ⟨z1, z2⟩).symm
        · rw [if_pos (le_nIn (by omega) (by omega))]
          exact c2 _ (if_neg (by omega)).symm
      · rw [if_pos ((bit1 h2).mpr z1)]
        exact c2 _ (if_neg (by omega)).symm
    · intro h' w31 ⟨k1, k2, k3⟩
      unfold f_X9_raiseOnce_l31 f_X9_raiseOnce_j149
      rw [if_pos (by decide)]
      exact hw25 h' ⟨k1, k2, fun s k hs hk => ⟨fun z => (k3 s k hs hk).1 (by omega), fun z => (k3 s k hs hk).2 (by omega)⟩⟩
  · intro h' w ⟨g1, g2, g3⟩
    unfold f_X9_raiseOnce_l25
    rw [if_pos (by decide)]
    exact ok_some ⟨g1, g2, fun s k hs hk => (g3 s k hs hk).1 (by omega)⟩
def rzN (g D : Nat) (W : Nat → Nat → Int64) : Nat → Nat → Nat → Int64
  | 0 => W
  | n + 1 => rz g (D + n) (rzN g D W n)
theorem rzN_s (g D : Nat) (W : Nat → Nat → Int64) (n : Nat) : rzN g D W (n + 1) = rz g (D + n) (rzN g D W n) := rfl
theorem raise_ok {h : pq_H} {g D n : Nat} {W : Nat → Nat → Int64} (h2 : g ≤ 7) (hD : D + n ≤ 18) (hW : WC h D W) : ok (f_X9_raise (nI g) (nI n) h) (fun h' => frC h h' ∧ WC h' (D + n) (rzN g D W n)) := by
  unfold f_X9_raise
  refine lp_forH (fun i h' => frC h h' ∧ WC h' (D + i) (rzN g D W i)) n ?_ ?_ 1000 0 h (by omega) (by omega) ⟨frC.rf h, hW⟩
  · intro i h' w hi ⟨g1, g2⟩ hw
    unfold f_X9_raise_l2
    rw [if_neg (nI_ge hi (by omega))]
    refine ok_bind (raiseOnce_ok h2 (by omega) g2) (fun h1 ⟨k1, k2⟩ => ?_)
    rw [nI_1]
    exact hw _ ⟨g1.tr k1, k2⟩
  · intro h' w g
    unfold f_X9_raise_l2
    rw [if_pos (le_nIn (Nat.le_refl _) (by omega))]
    exact ok_some g
end RAISE
