section LEAST
variable {hC hM : pq_H}
def clrN (g D : Nat) (W : Nat → Nat → Int64) (q : Int32) (n : Nat) : Bool := allB (fun p => !ffP g (D + n) (rzN g D W n) q p) (plc g (D + n))
theorem leastC_ok {h : pq_H} {g D : Nat} {W : Nat → Nat → Int64} (h1 : 1 ≤ g) (h2 : g ≤ 7) (hD : D ≤ 6) (hW : WC h D W) (q : Int32) : ok (f_X9_leastLift (nI g) q h) (fun r => frC h r.2 ∧ fstN (clrN g D W q) 13 r.1) := by
  unfold f_X9_leastLift
  have key : ∀ (w : Int32 → pq_H → Option (Int32 × pq_H)) (i : Nat) (h' : pq_H), i < 13 → frC h h' → WC h' (D + i) (rzN g D W i) → (∀ j, j < i → clrN g D W q j = false) → (frC h h' → WC h' (D + i) (rzN g D W i) → (∀ j, j < i + 1 → clrN g D W q j = false) → ok (w (nI (i + 1)) h') (fun r => frC h r.2 ∧ fstN (clrN g D W q) 13 r.1)) → ok (f_X9_leastLift_j17 (nI g) q w (nI i) h') (fun r => frC h r.2 ∧ fstN (clrN g D W q) 13 r.1) := by
    intro w i h' hi a b c hw
    have hp : plc g (D + i) ≤ tri (D + i + 1) := plc_le
    have hb := tri18 (show D + i ≤ 18 by omega)
    have hb2 : tri (D + i + 1) ≤ 190 := tri_mono (show D + i + 1 ≤ 19 by omega)
    unfold f_X9_leastLift_j17
    refine ok_bind (firstC_ok h1 h2 (by omega) b q) (fun r hr => ?_)
    rcases fstN_none (by omega) hr with ⟨e1, e2⟩ | ⟨e1, e2, e3⟩
    · rw [if_pos e1]
      exact ok_some ⟨a, Or.inl ⟨i, hi, e2, c, rfl⟩⟩
    · rw [if_neg e1, nI_1]
      refine hw a b (fun j hj => ?_)
      by_cases z : j = i
      · subst z; exact e3
      · exact c j (by omega)
  refine lp_forH (fun i h' => frC h h' ∧ WC h' (D + (i - 1)) (rzN g D W (i - 1)) ∧ ∀ j, j < i → clrN g D W q j = false) 13 ?_ ?_ 1000 0 h (by omega) (by omega) ⟨frC.rf h, hW, fun j hj => by omega⟩
  · intro i h' w hi ⟨g1, g2, g3⟩ hw
    unfold f_X9_leastLift_l2
    rw [if_neg (show ¬ (12 : Int32) < nI i from nI_nlt (a := 12) (by omega) (by omega))]
    by_cases z : i = 0
    · subst z
      rw [if_pos (by decide)]
      exact key w 0 h' (by omega) g1 g2 g3 (fun a b c => hw _ ⟨a, b, c⟩)
    · rw [if_neg (nI_nle (by omega) (by omega))]
      refine ok_bind (raiseOnce_ok h2 (by omega) g2) (fun h3 ⟨k1, k2⟩ => ?_)
      rw [← rzN_s, show i - 1 + 1 = i by omega, show D + (i - 1) + 1 = D + i by omega] at k2
      exact key w i h3 hi (g1.tr k1) k2 g3 (fun a b c => hw _ ⟨a, b, c⟩)
  · intro h' w ⟨g1, g2, g3⟩
    unfold f_X9_leastLift_l2
    rw [if_pos (show (12 : Int32) < nI 13 from nI_lt (a := 12) (by omega) (by omega))]
    exact ok_some ⟨g1, Or.inr ⟨g3, rfl⟩⟩
theorem leastM_ok {h : pq_H} {f g : Nat} {F : pF} (hF : FormM h f F) (hk : okF F) (hf : f < 6) (h1 : 1 ≤ g) (h2 : g ≤ 7) (q : Int32) : ok (f_X11_leastOf (nI f) (nI g) q h) (fun r => frM h r.2 ∧ fstN (clrN g F.2.2.1 (wr0 F g) q) 13 r.1) := by
  have hD := hk.2.2.1
  unfold f_X11_leastOf
  refine ok_bind (takes_ok (n := 0) hF hk hf h2 (by omega)) (fun h0 ⟨z1, z2⟩ => ?_)
  refine lp_forH (fun i h' => frM h h' ∧ (i ≤ 12 → WM h' (F.2.2.1 + i) (rzN g F.2.2.1 (wr0 F g) i)) ∧ ∀ j, j < i → clrN g F.2.2.1 (wr0 F g) q j = false) 13 ?_ ?_ 1000 0 h0 (by omega) (by omega) ⟨z1, fun _ => z2, fun j hj => by omega⟩
  · intro i h' w hi ⟨g1, g2, g3⟩ hw
    have b := g2 (by omega)
    have hp : plc g (F.2.2.1 + i) ≤ tri (F.2.2.1 + i + 1) := plc_le
    have hb2 : tri (F.2.2.1 + i + 1) ≤ 190 := tri_mono (show F.2.2.1 + i + 1 ≤ 19 by omega)
    unfold f_X11_leastOf_l10 f_X11_leastOf_j41
    rw [if_neg (show ¬ (12 : Int32) < nI i from nI_nlt (a := 12) (by omega) (by omega))]
    refine ok_bind (firstM_ok h1 h2 (by omega) b q) (fun r hr => ?_)
    rcases fstN_none (by omega) hr with ⟨e1, e2⟩ | ⟨e1, e2, e3⟩
    · rw [e1, if_neg (by decide)]
      exact ok_some ⟨g1, Or.inl ⟨i, hi, e2, g3, rfl⟩⟩
    · have c : ∀ j, j < i + 1 → clrN g F.2.2.1 (wr0 F g) q j = false := fun j hj => by
        by_cases z : j = i
        · subst z; exact e3
        · exact g3 j (by omega)
      rw [if_pos e2, nI_1]
      by_cases z : i = 12
      · rw [if_pos (show (12 : Int32) ≤ nI i from le_nIn (a := 12) (by omega) (by omega))]
        exact hw _ ⟨g1, fun y => by omega, c⟩
      · rw [if_neg (show ¬ (12 : Int32) ≤ nI i from nI_ge (b := 12) (by omega) (by omega))]
        refine ok_bind (rises_ok h2 (by omega) b) (fun h3 ⟨k1, k2⟩ => ?_)
        rw [← rzN_s] at k2
        exact hw _ ⟨g1.tr k1, fun _ => k2, c⟩
  · intro h' w ⟨g1, g2, g3⟩
    unfold f_X11_leastOf_l10
    rw [if_pos (show (12 : Int32) < nI 13 from nI_lt (a := 12) (by omega) (by omega))]
    exact ok_some ⟨g1, Or.inr ⟨g3, rfl⟩⟩
theorem a_least : Ag_least Inv := by
  intro hC hM p1 p2 p3 i
  unfold f_X10_least f_X11_least f_X10_least_j18 f_X11_least_j26
  simp only [bd2_id, bind_id]
  obtain ⟨n, i1, -⟩ := id i
  rcases form_cases i1 p1 with ⟨a, b⟩ | ⟨f, hf, hf6, rfl, a, b, F, c1, c2, c3⟩
  · rw [if_pos a, show f_X11_notSide p1 p2 hM = -1 by unfold f_X11_notSide; rw [if_neg (Bf b)], if_neg (by decide), if_neg (by decide)]
    exact ag_no 1 rfl (by decide) (by decide) i
  rw [if_neg (Bf a)]
  rcases side_cases p2 with ⟨sa, sb⟩ | ⟨g, g1, g2, rfl, sa, sb⟩
  · rw [if_neg (Bf sa), show f_X11_notSide (nI f) p2 hM = -1 by unfold f_X11_notSide; rw [if_pos b, if_neg (Bf sb)], if_neg (by decide), if_neg (by decide)]
    exact ag_no 1 rfl (by decide) (by decide) i
  rw [if_pos sa, notSide_t b sb, if_pos rfl]
  rcases nb_cases p3 2 (by decide) with ⟨a2, b2⟩ | ⟨q, hq, rfl, a2, b2⟩
  · rw [if_pos (show f_X10_notBelow p3 2 = true from a2), if_neg (show ¬ f_X11_isSort p3 = true from Bf b2), if_neg (by decide)]
    exact ag_no 2 rfl (by decide) (by decide) i
  rw [if_neg (show ¬ f_X10_notBelow (nI q) 2 = true from Bf a2), if_pos (show f_X11_isSort (nI q) = true from b2)]
  simp only [if_true]
  refine ag_ok (P := fun r => frC hC r.2 ∧ fstN (clrN g F.2.2.1 (wr0 F g) (nI q)) 13 r.1) (R := fun r => frM hM r.2 ∧ fstN (clrN g F.2.2.1 (wr0 F g) (nI q)) 13 r.1) ?_ (leastM_ok c2 c3 hf6 g1 g2 _) (fun x y hx hy => ⟨fstN_eq hx.2 hy.2, i.fr hx.1 hy.1⟩)
  refine ok_bind (workOn_ok c1 c3 hf6 g1 g2) (fun h1 ⟨k1, k2⟩ => ?_)
  exact ok_mono (leastC_ok g1 g2 c3.2.2.1 k2 _) (fun r hr => ⟨k1.tr hr.1, hr.2⟩)
end LEAST
