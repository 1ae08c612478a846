section PRODUCT
variable {hC hM : pq_H}
def pin (F' : pF) (c : Int64) (s1 k1 : Nat) (R : Nat → Int64) : Nat → Nat → Int64
  | 0 => R
  | b + 1 => fun t => if t = tri (s1 + (skT b).1) + (k1 + (skT b).2) then pin F' c s1 k1 R b t + c * (cfT F' b).toInt64 else pin F' c s1 k1 R b t
theorem pin_s (F' : pF) (c : Int64) (s1 k1 : Nat) (R : Nat → Int64) (b t : Nat) : pin F' c s1 k1 R (b + 1) t = if t = tri (s1 + (skT b).1) + (k1 + (skT b).2) then pin F' c s1 k1 R b t + c * (cfT F' b).toInt64 else pin F' c s1 k1 R b t := rfl
theorem pin_0 (F' : pF) (s1 k1 : Nat) (R : Nat → Int64) (b t : Nat) : pin F' 0 s1 k1 R b t = R t := by
  induction b with
  | zero => rfl
  | succ b ih =>
    rw [pin_s, ih, Int64.zero_mul, Int64.add_zero]
    split <;> rfl
def pout (F F' : pF) : Nat → Nat → Int64
  | 0 => fun _ => 0
  | a + 1 => pin F' (cfT F a).toInt64 (skT a).1 (skT a).2 (pout F F' a) (tri (F'.2.2.1 + 1))
theorem pout_s (F F' : pF) (a : Nat) : pout F F' (a + 1) = pin F' (cfT F a).toInt64 (skT a).1 (skT a).2 (pout F F' a) (tri (F'.2.2.1 + 1)) := rfl
def RC (h : pq_H) (D : Nat) (R : Nat → Int64) : Prop := rI h 59 1 = nI D ∧ ∀ t, t < tri (D + 1) → rJ h 60 t = R t
theorem EQ_ok {β : Type} {x : Option β} {P : pq_H → Prop} {f : pq_H → Option β} (h : EQ x P f) : ∃ h', P h' ∧ x = f h' := h
theorem addTimes_ok {h : pq_H} {f s1 k1 D : Nat} {F' : pF} {c : Int64} {R : Nat → Int64} (hF : FormC h f F') (hk : okF F') (hf : f < 12) (hD : D ≤ 12) (hs1 : s1 + F'.2.2.1 ≤ D) (hk1 : k1 ≤ s1) (hR : RC h D R) : ok (f_X6_addTimes c (nI (s1 - k1)) (nI k1) f h) (fun h' => frC h h' ∧ RC h' D (pin F' c s1 k1 R (tri (F'.2.2.1 + 1)))) := by
  have hd := hk.2.2.1
  unfold f_X6_addTimes
  by_cases z : c = 0
  · subst z
    rw [if_pos rfl]
    exact ok_some ⟨frC.rf h, hR.1, fun t ht => by rw [pin_0]; exact hR.2 t ht⟩
  rw [if_neg z]
  have key : EQ (lp (fun _ _ => none) (f_X6_addTimes_l10 c (nI (s1 - k1)) (nI k1) f) 1000 0 h) (fun h' => frC h h' ∧ RC h' D (pin F' c s1 k1 R (tri (F'.2.2.1 + 1)))) (fun h => some h) := by
    refine lp_forE (fun i h' => frC h h' ∧ RC h' D (pin F' c s1 k1 R (tri i))) (F'.2.2.1 + 1) ?_ ?_ 1000 0 h (by omega) (by omega) ⟨frC.rf h, hR⟩
    · intro s2 h' w hs2 ⟨g1, g2⟩
      unfold f_X6_addTimes_l10
      rw [(hF.frC hf g1).2.2.1, if_neg (nI_nlt (by omega) (by omega))]
      obtain ⟨h3, p3, e3⟩ := lp_forE (z := fun _ _ => none) (f := f_X6_addTimes_l23 c (nI (s1 - k1)) (nI k1) f w (nI s2)) (Q := fun h' => frC h h' ∧ RC h' D (pin F' c s1 k1 R (tri (s2 + 1)))) (e := fun h => w (nI (s2 + 1)) h) (fun k2 h' => frC h h' ∧ RC h' D (pin F' c s1 k1 R (tri s2 + k2))) (s2 + 1) (by
        intro k2 h4 w2 hk2 ⟨q1, q2⟩
        have hF4 := hF.frC hf q1
        have hb : tri (s1 + s2) + (k1 + k2) < tri (D + 1) := tri_lt (by omega) (by omega)
        have hb2 : tri (D + 1) ≤ 91 := tri_mono (show D + 1 ≤ 13 by omega)
        unfold f_X6_addTimes_l23
        rw [if_neg (nI_nlt (by omega) (by omega)), nI_add, nI_add, pk_sub (show k2 ≤ s1 - k1 + s2 by omega), termOf_nI (by omega), show s1 - k1 + s2 - k2 + (k1 + k2) = s1 + s2 by omega, hF4.2.2.1, pk_sub (show s2 ≤ F'.2.2.1 by omega), pk_sub (show k2 ≤ s2 by omega), has_ok hF4 hk (by omega), Option.bind_some, inbN (show tri (s1 + s2) + (k1 + k2) < 190 by omega) (by decide), gd_t, gd_t, nI_clamp (by omega), nI_1]
        refine ⟨_, rfl, q1.tr (frC.wJ _ _ _ _), q2.1, fun t ht => ?_⟩
        have ec : cfT F' (tri s2 + k2) = hasV F' (F'.2.2.1 - s2) (s2 - k2) k2 := by
          unfold cfT
          rw [skT_eq (show k2 ≤ s2 by omega)]
          rfl
        rw [show tri s2 + (k2 + 1) = tri s2 + k2 + 1 by omega, pin_s, skT_eq (show k2 ≤ s2 by omega), ec]
        by_cases y : t = tri (s1 + s2) + (k1 + k2)
        · rw [if_pos y, y, rJ_same, q2.2 _ hb]
        · rw [if_neg y, rJ_ne (by omega)]
          exact q2.2 t ht) (by
        intro h4 w2 ⟨q1, q2⟩
        unfold f_X6_addTimes_l23 f_X6_addTimes_j85
        rw [if_pos (nI_lt (by omega) (by omega)), nI_1]
        rw [← tri_succ] at q2
        exact ⟨h4, ⟨q1, q2⟩, rfl⟩) 1000 0 h' (by omega) (by omega) ⟨g1, g2⟩
      exact ⟨h3, e3, p3⟩
    · intro h' w ⟨g1, g2⟩
      unfold f_X6_addTimes_l10
      rw [(hF.frC hf g1).2.2.1, if_pos (nI_lt (by omega) (by omega))]
      exact ⟨h', ⟨g1, g2⟩, rfl⟩
  obtain ⟨h', p, e⟩ := key
  exact ⟨h', e, p⟩
end PRODUCT
