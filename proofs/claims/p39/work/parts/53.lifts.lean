section LIFTS
variable {h : pq_H} {n f g q : Nat} {Fs : Nat → pF}
theorem nle {a b : Nat} (h : b < a) (ha : a < 2000000000) : ¬ nI a ≤ nI b := by
  rw [ile (by omega) (by omega)]; omega
theorem nI_q0 (hq : q < 2) : nI q = 0 ↔ q = 0 := ieq (b := 0) (by omega) (by decide)
theorem fails_t {v : Int64} (hq : q < 2) (h : f_X10_fails v (nI q) = true) : if q = 0 then v < 0 else v ≤ 0 := by
  have z : (0 : Int64).toInt = 0 := rfl
  have l1 : v < 0 ↔ v.toInt < 0 := lt64
  have l2 : v ≤ 0 ↔ v.toInt ≤ 0 := le64
  have k2 := (not_congr (fails_iff v q hq)).mp (by rw [h]; decide)
  by_cases c : q = 0
  · rw [if_pos c] at k2 ⊢
    exact l1.mpr (by omega)
  · rw [if_neg c] at k2 ⊢
    exact l2.mpr (by omega)
theorem fails_f {v : Int64} (hq : q < 2) (h : f_X10_fails v (nI q) = false) : if q = 0 then 0 ≤ v else 0 < v := by
  have l1 : 0 ≤ v ↔ 0 ≤ v.toInt := le64
  have l2 : 0 < v ↔ 0 < v.toInt := lt64
  have k := (fails_iff v q hq).mp h
  by_cases c : q = 0
  · rw [if_pos c] at k ⊢
    exact l1.mpr k
  · rw [if_neg c] at k ⊢
    exact l2.mpr k
theorem fails_mono {v u : Int64} (hq : q < 2) (hv : v ≤ u) (h : f_X10_fails u (nI q) = true) : f_X10_fails v (nI q) = true := by
  refine (Bool.not_eq_false _).mp (fun k => ?_)
  have k1 := (fails_iff v q hq).mp k
  have k2 := (not_congr (fails_iff u q hq)).mp (by rw [h]; decide)
  have k3 := le64.mp hv
  by_cases c : q = 0
  · rw [if_pos c] at k1 k2; omega
  · rw [if_neg c] at k1 k2; omega
theorem FP_9 {F : pF} {m : Nat} (hm : m ≤ 12) (h : FP F g (nI q) m (-9)) : ∀ p, p < plc g m → f_X10_fails (pv F g m p) (nI q) = false := by
  rcases h with ⟨d, a1, a2, a3, a4⟩ | ⟨a1, -⟩
  · have := plc_b (g := g) hm
    exact absurd a4.symm (nI_ne9 (by omega))
  · exact a1
abbrev LQ (h : pq_H) (r : Bool × pq_H) : Prop := r.1 = true ∧ frC h r.2
theorem j157_ok {r5 : Int32} {w : Int32 → pq_H → Option (Bool × pq_H)} {Q : Bool × pq_H → Prop} (S : St h n Fs) (hf : f < n) (h1 : 1 ≤ g) (h2 : g ≤ 7) (hq : q < 2) (r : FS (Fs f) g (nI q) 0 r5) (hw : ∀ h', frC h h' → ok (w (nI (q + 1)) h') Q) : ok (f_L_lifts_j157 (nI f) (nI g) w (nI q) r5 h) Q := by
  have fin : ∀ h', frC h h' → ok (f_L_lifts_j204 w (nI q) h') Q := fun h' fr => by
    unfold f_L_lifts_j204
    rw [nI_1]
    exact hw h' fr
  unfold f_L_lifts_j157
  rcases r with ⟨m, m1, m2, ⟨v, m3, m4, m5⟩, m6⟩ | ⟨-, e⟩
  · rw [if_pos rfl] at m5
    subst m5
    by_cases c : m = 1
    · subst c
      rw [if_pos (by decide)]
      exact fin h (frC.rf h)
    · rw [if_neg (show ¬ nI m ≤ 1 from nle (b := 1) (by omega) (by omega)), i1, pk_sub (by omega)]
      have nf := FP_9 (by omega) (m6 (m - 1) (by omega) (by omega))
      obtain ⟨⟨r, h'⟩, e, k1, p, hp, k2, -⟩ := lowest_q (m := m - 1) S hf h1 h2 (by omega) (by omega)
      simp only at k1 k2
      have k := fails_f hq (nf p hp)
      rw [← k2] at k
      rw [e, bd2_some, bd2_some]
      by_cases z : q = 0
      · rw [if_pos ((nI_q0 hq).mpr z), if_pos (by rw [if_pos z] at k; exact k)]
        exact fin h' k1
      · rw [if_neg (fun x => z ((nI_q0 hq).mp x)), if_pos (by rw [if_neg z] at k; exact k)]
        exact fin h' k1
  · subst e
    rw [if_pos (by decide)]
    exact fin h (frC.rf h)
theorem j115_ok {r5 : Int32} {w : Int32 → pq_H → Option (Bool × pq_H)} {Q : Bool × pq_H → Prop} (S : St h n Fs) (hf : f < n) (h1 : 1 ≤ g) (h2 : g ≤ 7) (hq : q < 2) (r : FS (Fs f) g (nI q) 0 r5) (hw : ∀ h', frC h h' → ok (w (nI (q + 1)) h') Q) : ok (f_L_lifts_j115 (nI f) (nI g) w (nI q) r5 h) Q := by
  unfold f_L_lifts_j115
  rcases id r with ⟨m, m1, m2, ⟨v, m3, m4, m5⟩, m6⟩ | ⟨-, e⟩
  · rw [if_pos rfl] at m5
    subst m5
    rw [if_neg (show ¬ nI m ≤ 0 from nle (b := 0) (by omega) (by omega))]
    obtain ⟨⟨r', h'⟩, e, k1, p, hp, k2, k3⟩ := lowest_q (m := m) S hf h1 h2 m1 m2
    simp only at k1 k2
    have ff : ∃ d, d < plc g m ∧ f_X10_fails (pv (Fs f) g m d) (nI q) = true := by
      rcases m3 with ⟨d, a1, a2, -, -⟩ | ⟨-, a2⟩
      · exact ⟨d, a1, a2⟩
      · exact absurd a2 m4
    obtain ⟨d, d1, d2⟩ := ff
    have k := fails_t hq (fails_mono hq (k3 d d1) d2)
    rw [← k2] at k
    rw [e, bd2_some, bd2_some]
    have go := j157_ok (w := w) (Q := Q) (S.frC k1) hf h1 h2 hq r (fun h'' fr => hw h'' (k1.tr fr))
    by_cases z : q = 0
    · rw [if_pos ((nI_q0 hq).mpr z), if_pos (by rw [if_pos z] at k; exact k)]
      exact go
    · rw [if_neg (fun x => z ((nI_q0 hq).mp x)), if_pos (by rw [if_neg z] at k; exact k)]
      exact go
  · subst e
    rw [if_pos (by decide)]
    exact j157_ok S hf h1 h2 hq r hw
theorem ok_of {β : Type} {x : Option β} {P Q : β → Prop} (hx : ok x P) (h : ∀ r, P r → Q r) : ok x Q := ok_mono hx h
theorem fault_no {F : pF} {m : Nat} {r : Int32} (h1 : 1 ≤ g) (h2 : g ≤ 7) (hq : q < 2) (hm : m ≤ 12) (hd : F.2.2.1 ≤ 6) (h : fstN (ffP g (F.2.2.1 + m) (rzN g F.2.2.1 (wr0 F g) m) (nI q)) (plc g (F.2.2.1 + m)) r) : (clZ F g q m → r = -9) ∧ (¬ clZ F g q m → 0 ≤ r) := by
  have hb := plc_le (g := g) (n := F.2.2.1 + m)
  have hb2 := tri_b (show F.2.2.1 + m + 1 ≤ 40 by omega)
  have k := fstN_none (by omega) h
  have e := clr_iff (F := F) (n := m) h1 h2 hq (by omega)
  unfold clrN at e
  rcases k with ⟨k1, k2⟩ | ⟨k1, k2, k3⟩
  · exact ⟨fun _ => k1, fun c => absurd (e.mp k2) c⟩
  · refine ⟨fun c => ?_, fun _ => k2⟩
    rw [e.mpr c] at k3
    cases k3
/-- what LEAST tells -/
theorem least_c {F : pF} {r : Int32} (h1 : 1 ≤ g) (h2 : g ≤ 7) (hq : q < 2) (h : fstN (clrN g F.2.2.1 (wr0 F g) (nI q)) 13 r) : (∃ d, d ≤ 12 ∧ r = nI d ∧ clZ F g q d ∧ ∀ j, j < d → ¬ clZ F g q j) ∨ (r = -9 ∧ ∀ j, j ≤ 12 → ¬ clZ F g q j) := by
  rcases h with ⟨d, a1, a2, a3, a4⟩ | ⟨a1, a2⟩
  · refine Or.inl ⟨d, by omega, a4, (clr_iff h1 h2 hq (by omega)).mp a2, fun j hj c => ?_⟩
    have := (clr_iff h1 h2 hq (show j ≤ 13 by omega)).mpr c
    rw [a3 j hj] at this
    cases this
  · refine Or.inr ⟨a2, fun j hj c => ?_⟩
    have := (clr_iff h1 h2 hq (show j ≤ 13 by omega)).mpr c
    rw [a1 j (by omega)] at this
    cases this
theorem fail_none {F : pF} {d : Nat} {r : Int32} (hk : okF F) (h1 : 1 ≤ g) (h2 : g ≤ 7) (hq : q < 2) (c : clZ F g q d) (h : FS F g (nI q) 0 r) : r = -9 := by
  rcases h with ⟨m, m1, m2, ⟨v, m3, m4, m5⟩, m6⟩ | ⟨-, e⟩
  · rcases m3 with ⟨p, a1, a2, a3, a4⟩ | ⟨-, a2⟩
    · have z := pv_ok hk h1 h2 hq m1 m2 a1 c
      rw [show f_X10_fails (pv F g m p) (nI q) = true from a2] at z
      cases z
    · exact absurd a2 m4
  · exact e
theorem lifts_step {w : Int32 → pq_H → Option (Bool × pq_H)} {Q : Bool × pq_H → Prop} (S : St h n Fs) (hf : f < n) (h1 : 1 ≤ g) (h2 : g ≤ 7) (hq : q < 2) (hw : ∀ h', frC h h' → ok (w (nI (q + 1)) h') Q) : ok (f_L_lifts_l2 (nI f) (nI g) w (nI q) h) Q := by
  have h6 := S.1
  obtain ⟨c1, c3⟩ := S.2.2 f hf
  have hd := c3.2.2.1
  unfold f_L_lifts_l2
  rw [if_neg (show ¬ (2 : Int32) ≤ nI q from nI_ge (b := 2) hq (by omega))]
  refine ok_bd2 (least_q S hf h1 h2 hq) (fun r11 x1 ⟨k1, k2⟩ => ?_)
  refine ok_bd2 (failing_q (S.frC k1) hf h1 h2 hq) (fun r21 x2 ⟨k3, k4⟩ => ?_)
  have f2 := k1.tr k3
  have S2 := S.frC f2
  rcases least_c h1 h2 hq k2 with ⟨d, d1, d2, d3, d4⟩ | ⟨d1, d2⟩
  · simp only at d2 k4
    subst d2
    have e9 := fail_none c3 h1 h2 hq d3 k4
    rw [if_neg (nI_pos (by omega)), if_pos e9]
    have tail : ∀ x, frC h x → ok (f_L_lifts_j75 (nI f) (nI g) w (nI q) (nI d) r21 x) Q := fun x fx => by
      have Sx := S.frC fx
      unfold f_L_lifts_j75
      have last : ∀ y, frC h y → ok (f_L_lifts_j96 (nI f) (nI g) w (nI q) (nI d) r21 y) Q := fun y fy => by
        unfold f_L_lifts_j96
        rw [if_pos (nI_pos' (by omega))]
        exact j115_ok (S.frC fy) hf h1 h2 hq k4 (fun h' fr => hw h' (fy.tr fr))
      by_cases z : d = 0
      · subst z
        rw [if_pos (by decide)]
        exact last x fx
      · rw [if_neg (show ¬ nI d ≤ 0 from nle (b := 0) (by omega) (by omega)), i1, pk_sub (by omega)]
        refine ok_bd2 (fault_q Sx hf h1 h2 hq (show d - 1 ≤ 12 by omega)) (fun r y ⟨q1, q2⟩ => ?_)
        rw [if_pos ((fault_no h1 h2 hq (by omega) hd q2).2 (d4 (d - 1) (by omega)))]
        exact last y (fx.tr q1)
    refine ok_bd2 (fault_q S2 hf h1 h2 hq d1) (fun r44 x3 ⟨q1, q2⟩ => ?_)
    rw [if_pos ((fault_no h1 h2 hq (by omega) hd q2).1 d3)]
    have f3 := f2.tr q1
    by_cases z : d = 12
    · subst z
      rw [if_pos (by decide)]
      exact tail x3 f3
    · rw [if_neg (show ¬ (12 : Int32) ≤ nI d from nI_ge (b := 12) (by omega) (by omega)), nI_1]
      refine ok_bd2 (fault_q (S.frC f3) hf h1 h2 hq (show d + 1 ≤ 12 by omega)) (fun r67 x4 ⟨q3, q4⟩ => ?_)
      rw [if_pos ((fault_no h1 h2 hq (by omega) hd q4).1 (clZ_up hq d3))]
      exact tail x4 (f3.tr q3)
  · simp only at d1 k4
    subst d1
    rw [if_pos (by decide)]
    unfold f_L_lifts_j96
    rw [if_neg (by decide), show (12 : Int32) = nI 12 from rfl]
    refine ok_bd2 (fault_q S2 hf h1 h2 hq (show 12 ≤ 12 by omega)) (fun r x3 ⟨q1, q2⟩ => ?_)
    rw [if_pos ((fault_no h1 h2 hq (by omega) hd q2).2 (d2 12 (by omega)))]
    exact j115_ok (S2.frC q1) hf h1 h2 hq k4 (fun h' fr => hw h' ((f2.tr q1).tr fr))
theorem not_neg {d : Nat} (h : d ≤ 12) : ¬ nI d < 0 := nI_pos (by omega)
theorem FS_cases {F : pF} {r : Int32} (h : FS F g (nI q) 0 r) : (∃ m, 1 ≤ m ∧ m ≤ 12 ∧ r = nI m) ∨ r = -9 := by
  rcases h with ⟨m, m1, m2, ⟨v, m3, m4, m5⟩, m6⟩ | ⟨-, e⟩
  · exact Or.inl ⟨m, m1, m2, by rw [m5, if_pos rfl]⟩
  · exact Or.inr e
theorem lifts_end (S : St h n Fs) (hf : f < n) (h1 : 1 ≤ g) (h2 : g ≤ 7) : ok (f_L_lifts_j249 (nI f) (nI g) h) (LQ h) := by
  unfold f_L_lifts_j249
  refine ok_bd2 (proof_q S hf h1 h2) (fun r x1 ⟨k1, r1, r2, r3, p1, p2, p3, p4⟩ => ?_)
  simp only at k1 p4
  refine ok_bd2 (least_q (q := 1) (S.frC k1) hf h1 h2 (by decide)) (fun s1 x2 ⟨k3, k4⟩ => ?_)
  have e1 : s1 = r1 := fstN_eq k4 p1
  subst e1
  have f2 := k1.tr k3
  unfold f_L_lifts_j301
  rcases least_c h1 h2 (by decide) k4 with ⟨d, d1, d2, d3, d4⟩ | ⟨d1, -⟩
  · simp only at d2
    subst d2
    rw [if_neg (not_neg d1), if_pos (by rw [p4, if_pos (nI_ne9 (by omega))])]
    exact ok_some ⟨rfl, f2⟩
  · simp only at d1
    subst d1
    rw [if_pos (by decide)]
    refine ok_bd2 (least_q (q := 0) (S.frC f2) hf h1 h2 (by decide)) (fun s2 x3 ⟨k5, k6⟩ => ?_)
    have e2 : s2 = r2 := fstN_eq k6 p2
    subst e2
    have f3 := f2.tr k5
    rcases least_c h1 h2 (by decide) k6 with ⟨d, d1, d2, d3, d4⟩ | ⟨d1, -⟩
    · simp only at d2
      subst d2
      rw [if_neg (not_neg d1), if_pos (by rw [p4, if_neg (fun x => x rfl), if_pos (nI_ne9 (by omega))])]
      exact ok_some ⟨rfl, f3⟩
    · simp only at d1
      subst d1
      rw [if_pos (by decide)]
      refine ok_bd2 (failing_q (q := 0) (S.frC f3) hf h1 h2 (by decide)) (fun s3 x4 ⟨k7, k8⟩ => ?_)
      have e3 : s3 = r3 := FS_eq k8 p3
      subst e3
      rcases FS_cases k8 with ⟨m, m1, m2, e⟩ | e
      · simp only at e
        subst e
        rw [if_neg (show ¬ nI m ≤ 0 from nle (b := 0) (by omega) (by omega)), if_pos (by rw [p4, if_neg (fun x => x rfl), if_neg (fun x => x rfl), if_pos (nI_ne9 (by omega))])]
        exact ok_some ⟨rfl, f3.tr k7⟩
      · simp only at e
        subst e
        rw [if_pos (by decide), if_pos (by rw [p4, if_neg (fun x => x rfl), if_neg (fun x => x rfl), if_neg (fun x => x rfl)])]
        exact ok_some ⟨rfl, f3.tr k7⟩
theorem lifts_mid (S : St h n Fs) (hf : f < n) (h1 : 1 ≤ g) (h2 : g ≤ 7) : ok (f_L_lifts_j210 (nI f) (nI g) h) (LQ h) := by
  unfold f_L_lifts_j210
  refine ok_bd2 (least_q (q := 1) S hf h1 h2 (by decide)) (fun s1 x1 ⟨k1, k2⟩ => ?_)
  rcases least_c h1 h2 (by decide) k2 with ⟨d, d1, d2, d3, d4⟩ | ⟨d1, -⟩
  · simp only at d2
    subst d2
    rw [if_neg (not_neg d1)]
    refine ok_bd2 (least_q (q := 0) (S.frC k1) hf h1 h2 (by decide)) (fun s2 x2 ⟨k3, k4⟩ => ?_)
    have f2 := k1.tr k3
    rcases least_c h1 h2 (by decide) k4 with ⟨c, b1, b2, b3, b4⟩ | ⟨-, b2⟩
    · simp only at b2
      subst b2
      rw [if_neg (not_neg b1)]
      refine ok_bd2 (least_q (q := 0) (S.frC f2) hf h1 h2 (by decide)) (fun s3 x3 ⟨k5, k6⟩ => ?_)
      have f3 := f2.tr k5
      refine ok_bd2 (least_q (q := 1) (S.frC f3) hf h1 h2 (by decide)) (fun s4 x4 ⟨k7, k8⟩ => ?_)
      have f4 := f3.tr k7
      have e3 : s3 = nI c := fstN_eq k6 k4
      have e4 : s4 = nI d := fstN_eq k8 k2
      subst e3 e4
      have hcd : c ≤ d := Nat.not_lt.mp fun z => b4 d z (clZ_10 d3)
      rw [if_pos (le_nIn hcd (by omega))]
      exact ok_mono (lifts_end (S.frC f4) hf h1 h2) (fun r hr => ⟨hr.1, f4.tr hr.2⟩)
    · exact absurd (clZ_10 d3) (b2 d d1)
  · simp only at d1
    subst d1
    rw [if_pos (by decide)]
    exact ok_mono (lifts_end (S.frC k1) hf h1 h2) (fun r hr => ⟨hr.1, k1.tr hr.2⟩)
/-- what is lifted clear has no point at which it fails, and stays clear -/
theorem lifts_ok (S : St h n Fs) (hf : f < n) (h1 : 1 ≤ g) (h2 : g ≤ 7) : ok (f_L_lifts (nI f) (nI g) h) (LQ h) := by
  unfold f_L_lifts
  refine lp_forH (fun i h' => frC h h') 2 ?_ ?_ 1000 0 h (by omega) (by omega) (frC.rf h)
  · intro i h' w hi fr hw
    exact lifts_step (S.frC fr) hf h1 h2 hi (fun h'' fr2 => hw h'' (fr.tr fr2))
  · intro h' w fr
    unfold f_L_lifts_l2
    rw [if_pos (by decide)]
    exact ok_mono (lifts_mid (S.frC fr) hf h1 h2) (fun r hr => ⟨hr.1, fr.tr hr.2⟩)
end LIFTS
