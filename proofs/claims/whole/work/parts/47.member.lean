section MEMBER
theorem b2n {b : Bool} (h : ¬ b = true) : b = false := by cases b; rfl; exact absurd rfl h
def FRC (i : Nat) (h h' : pq_H) : Prop := (∀ P k, (P ≠ 63 ∨ (k ≠ 2 ∧ k ≠ 3)) → (P ≠ 64 ∨ k ≠ i) → rI h' P k = rI h P k) ∧ ∀ P k, rR h' P k = rR h P k
def FRM (i : Nat) (h h' : pq_H) : Prop := (∀ P k, (P ≠ 0 ∨ k ≠ 12) → (P ≠ 10 ∨ k ≠ i) → rI h' P k = rI h P k) ∧ ∀ P k, rJ h' P k = rJ h P k
theorem fits_ok {h : pq_H} {d lim x : Nat} (hl : lim ≤ 6) (hd : d ≤ 6) (hx : x ≤ 6) (dC : rI h 63 3 = nI d) (fC : (rI h 63 4 = -1 ∧ lim = 6) ∨ rI h 63 4 = nI lim) : f_X2_fits (nI x) h = decide (d + x ≤ lim) := by
  unfold f_X2_fits f_X2_fits_j23
  rw [dC, nI_add]
  have fin : ∀ l : Nat, l ≤ 6 → (if nI l < nI (d + x) then false else true) = decide (d + x ≤ l) := by
    intro l hl
    by_cases z : d + x ≤ l
    · rw [if_neg (nI_nlt z (by omega)), decide_eq_true z]
    · rw [if_pos (nI_lt (by omega) (by omega)), decide_eq_false z]
  rcases fC with ⟨a, b⟩ | a
  · rw [a, if_pos rfl, b]
    exact fin 6 (by omega)
  · rw [a, if_neg (fun z => ch_no (k := 1) (c := lim) (by omega) (by omega) (by omega) z.symm)]
    exact fin lim hl
def PW (m : Nat) (L : Nat → Int32) (i p d lim : Nat) (hC hM : pq_H) (a b : Bool × pq_H) : Prop := a.1 = b.1 ∧ ∃ p', p ≤ p' ∧ p' ≤ m ∧ rI a.2 63 2 = nI p' ∧ rI b.2 0 12 = nI p' ∧ FRC i hC a.2 ∧ FRM i hM b.2 ∧ (a.1 = true → ∃ e, d + e ≤ lim ∧ (e = 0 ↔ p' = p) ∧ rI a.2 63 3 = nI (d + e) ∧ rI a.2 64 i = nI e ∧ rI b.2 10 i = nI e)
theorem power2 {m i p d lim : Nat} {L : Nat → Int32} {hC hM : pq_H} (hm : m ≤ 72) (hi : i < 3) (hp : p ≤ m) (hl : lim ≤ 6) (hd : d ≤ lim) (lc : TPC hC m L) (lm : TPM hM m L) (rC : rR hC 63 1 = some 61) (pC : rI hC 63 2 = nI p) (pM : rI hM 0 12 = nI p) (dC : rI hC 63 3 = nI d) (fC : (rI hC 63 4 = -1 ∧ lim = 6) ∨ rI hC 63 4 = nI lim) : ok2 (f_X2_readPower (nI i) hC) (f_X11_readsPower (nI i) (nI (lim - d)) hM) (PW m L i p d lim hC hM) := by
  unfold f_X2_readPower f_X11_readsPower f_X2_readPower_j133
  rw [inbN hi (by decide), nI_clamp (by omega)]
  simp only [gd_t]
  rw [hl_d (wI hC 64 i 0), hl_d (wI hM 10 i 0)]
  generalize hC1 : wI hC 64 i 0 = C1
  generalize hM1 : wI hM 10 i 0 = M1
  have lc1 : TPC C1 m L := by rw [← hC1]; exact lc.wI _ _ _ (by omega)
  have lm1 : TPM M1 m L := by rw [← hM1]; exact lm.wI _ _ _ (by omega)
  have rC1 : rR C1 63 1 = some 61 := by rw [← hC1]; exact rC
  have pC1 : rI C1 63 2 = nI p := by rw [← hC1, rI_ne (by omega)]; exact pC
  have pM1 : rI M1 0 12 = nI p := by rw [← hM1, rI_ne (by omega)]; exact pM
  have dC1 : rI C1 63 3 = nI d := by rw [← hC1, rI_ne (by omega)]; exact dC
  have fC1 : (rI C1 63 4 = -1 ∧ lim = 6) ∨ rI C1 63 4 = nI lim := by rw [← hC1, rI_ne (by omega)]; exact fC
  have aC1 : rI C1 64 i = nI 0 := by rw [← hC1, rI_same]; rfl
  have aM1 : rI M1 10 i = nI 0 := by rw [← hM1, rI_same]; rfl
  have FC1 : FRC i hC C1 := by rw [← hC1]; exact ⟨fun P k _ h2 => rI_ne (by omega), fun _ _ => rfl⟩
  have FM1 : FRM i hM M1 := by rw [← hM1]; exact ⟨fun P k _ h2 => rI_ne (by omega), fun _ _ => rfl⟩
  clear hC1 hM1
  have g1 : (rR C1 63 1 == some 61) = true := by rw [rC1]; rfl
  have cmp : ∀ x, x ≤ 6 → (nI x ≤ nI (lim - d) ↔ d + x ≤ lim) := fun x hx => by
    rw [ile (by omega) (by omega)]
    omega
  have c97 : (97 : Int32) + nI i = nI (97 + i) := nI_add (a := 97) ..
  rw [g1, gd_t, pC1, at_ch lc1 hm (by omega), next_ch lm1 hm (by omega) pM1, Option.bind_some, Option.bind_some, c97]
  by_cases z : p < m ∧ L p = nI (97 + i)
  case neg =>
    rw [if_neg (fun q => z ((chC (by omega)).mp q)), if_neg (fun q => z ((chM (by omega)).mp q))]
    exact ok2_some ⟨rfl, p, by omega, hp, pC1, pM1, FC1, FM1, fun _ => ⟨0, by omega, by simp, dC1, aC1, aM1⟩⟩
  rw [if_pos ((chC (by omega)).mpr z), if_pos ((chM (by omega)).mpr z), show (1 : Int32) = nI 1 from rfl, fits_ok hl (by omega) (by omega) dC1 fC1]
  by_cases y : d + 1 ≤ lim
  case neg =>
    rw [decide_eq_false y, if_neg (by decide), if_neg (fun q => y ((cmp 1 (by omega)).mp q))]
    exact ok2_some ⟨rfl, p, by omega, hp, pC1, pM1, FC1, FM1, fun q => by cases q⟩
  rw [decide_eq_true y, if_pos rfl, if_pos ((cmp 1 (by omega)).mpr y), pM1, nI_add, hl_d (wI C1 63 2 (nI (p + 1))), hl_d (wI M1 0 12 (nI (p + 1))), hl_d (wI (wI C1 63 2 (nI (p + 1))) 64 i (nI 1)), hl_d (wI (wI M1 0 12 (nI (p + 1))) 10 i (nI 1))]
  generalize hC2 : wI (wI C1 63 2 (nI (p + 1))) 64 i (nI 1) = C2
  generalize hM2 : wI (wI M1 0 12 (nI (p + 1))) 10 i (nI 1) = M2
  have lc2 : TPC C2 m L := by rw [← hC2]; exact (lc1.wI _ _ _ (by omega)).wI _ _ _ (by omega)
  have lm2 : TPM M2 m L := by rw [← hM2]; exact (lm1.wI _ _ _ (by omega)).wI _ _ _ (by omega)
  have rC2 : rR C2 63 1 = some 61 := by rw [← hC2]; exact rC1
  have pC2 : rI C2 63 2 = nI (p + 1) := by rw [← hC2, rI_ne (by omega), rI_same]
  have pM2 : rI M2 0 12 = nI (p + 1) := by rw [← hM2, rI_ne (by omega), rI_same]
  have dC2 : rI C2 63 3 = nI d := by rw [← hC2, rI_ne (by omega), rI_ne (by omega)]; exact dC1
  have fC2 : (rI C2 63 4 = -1 ∧ lim = 6) ∨ rI C2 63 4 = nI lim := by rw [← hC2, rI_ne (by omega), rI_ne (by omega)]; exact fC1
  have aC2 : rI C2 64 i = nI 1 := by rw [← hC2, rI_same]
  have aM2 : rI M2 10 i = nI 1 := by rw [← hM2, rI_same]
  have FC2 : FRC i hC C2 := by rw [← hC2]; exact ⟨fun P k h1 h2 => by rw [rI_ne (by omega), rI_ne (by omega)]; exact FC1.1 P k h1 h2, FC1.2⟩
  have FM2 : FRM i hM M2 := by rw [← hM2]; exact ⟨fun P k h1 h2 => by rw [rI_ne (by omega), rI_ne (by omega)]; exact FM1.1 P k h1 h2, FM1.2⟩
  clear hC2 hM2
  have g2 : (rR C2 63 1 == some 61) = true := by rw [rC2]; rfl
  rw [g2, gd_t, pC2, at_ch lc2 hm (by omega), next_ch lm2 hm (by omega) pM2, Option.bind_some, Option.bind_some, show (94 : Int32) = nI 94 from rfl]
  by_cases z2 : p + 1 < m ∧ L (p + 1) = nI 94
  case neg =>
    rw [if_neg (fun q => z2 ((chC (by omega)).mp q)), if_neg (fun q => z2 ((chM (by omega)).mp q)), dC2, aC2, nI_add]
    refine ok2_some ⟨rfl, p + 1, by omega, by omega, by rw [rI_ne (by omega)]; exact pC2, pM2, ⟨fun P k h1 h2 => by rw [rI_ne (by omega)]; exact FC2.1 P k h1 h2, FC2.2⟩, FM2, fun _ => ⟨1, y, by omega, rI_same _ _ _ _, by rw [rI_ne (by omega)]; exact aC2, aM2⟩⟩
  rw [if_pos ((chC (by omega)).mpr z2), if_pos ((chM (by omega)).mpr z2), pM2, nI_add, hl_d (wI C2 63 2 (nI (p + 1 + 1))), hl_d (wI M2 0 12 (nI (p + 1 + 1)))]
  generalize hC3 : wI C2 63 2 (nI (p + 1 + 1)) = C3
  generalize hM3 : wI M2 0 12 (nI (p + 1 + 1)) = M3
  have lc3 : TPC C3 m L := by rw [← hC3]; exact lc2.wI _ _ _ (by omega)
  have lm3 : TPM M3 m L := by rw [← hM3]; exact lm2.wI _ _ _ (by omega)
  have rC3 : rR C3 63 1 = some 61 := by rw [← hC3]; exact rC2
  have pC3 : rI C3 63 2 = nI (p + 2) := by rw [← hC3, rI_same]
  have pM3 : rI M3 0 12 = nI (p + 2) := by rw [← hM3, rI_same]
  have dC3 : rI C3 63 3 = nI d := by rw [← hC3, rI_ne (by omega)]; exact dC2
  have fC3 : (rI C3 63 4 = -1 ∧ lim = 6) ∨ rI C3 63 4 = nI lim := by rw [← hC3, rI_ne (by omega)]; exact fC2
  have FC3 : FRC i hC C3 := by rw [← hC3]; exact ⟨fun P k h1 h2 => by rw [rI_ne (by omega)]; exact FC2.1 P k h1 h2, FC2.2⟩
  have FM3 : FRM i hM M3 := by rw [← hM3]; exact ⟨fun P k h1 h2 => by rw [rI_ne (by omega)]; exact FM2.1 P k h1 h2, FM2.2⟩
  clear hC3 hM3
  have g3 : (rR C3 63 1 == some 61) = true := by rw [rC3]; rfl
  have bad : ok2 (some (false, C3)) (some (false, M3)) (PW m L i p d lim hC hM) := ok2_some ⟨rfl, p + 2, by omega, by omega, pC3, pM3, FC3, FM3, fun q => by cases q⟩
  rw [g3, gd_t, pC3, at_ch lc3 hm (by omega), next_ch lm3 hm (by omega) pM3, Option.bind_some, Option.bind_some, Option.bind_some, Option.bind_some]
  by_cases z3 : p + 2 < m ∧ f_X11_isIn (L (p + 2)) 49 54 = true
  case neg =>
    have nM : ¬ f_X11_isIn (chr m L (-9) (p + 2)) 49 54 = true := by
      unfold chr
      by_cases q : p + 2 < m
      · rw [if_pos q]; exact fun w => z3 ⟨q, w⟩
      · rw [if_neg q]; decide
    have nC : chr m L (-1) (p + 2) - 48 < nI 1 ∨ 6 < chr m L (-1) (p + 2) - 48 := by
      unfold chr
      by_cases q : p + 2 < m
      · rw [if_pos q]; exact pw_no (b2n (fun w => z3 ⟨q, w⟩))
      · rw [if_neg q]; exact Or.inl (by decide)
    rw [if_neg nM]
    rcases nC with nC | nC
    · rw [if_pos nC]; exact bad
    · rw [if_pos nC]
      split <;> exact bad
  obtain ⟨x, x1, x2, x3⟩ := isIn_ex (a := 49) (b := 54) (by decide) (by decide) z3.2
  obtain ⟨x, rfl⟩ := Nat.exists_eq_add_of_le x1
  have ce : ∀ e, chr m L e (p + 2) = nI (49 + x) := fun e => by unfold chr; rw [if_pos z3.1, x3]
  have cs : nI (49 + x) - 48 = nI (x + 1) := by rw [show (48 : Int32) = nI 48 from rfl, pk_sub (by omega)]; congr 1; omega
  rw [ce, ce, if_pos (show f_X11_isIn (nI (49 + x)) 49 54 = true by rw [← x3]; exact z3.2), cs, if_neg (show ¬ nI (x + 1) < nI 1 from nI_nlt (by omega) (by omega)), if_neg (show ¬ 6 < nI (x + 1) from nI_nlt (a := 6) (by omega) (by omega)), fits_ok hl (by omega) (by omega) dC3 fC3]
  by_cases y2 : d + (x + 1) ≤ lim
  case neg =>
    rw [decide_eq_false y2, if_neg (by decide), if_neg (fun q => y2 ((cmp (x + 1) (by omega)).mp q))]
    exact bad
  rw [decide_eq_true y2, if_pos rfl, if_pos ((cmp (x + 1) (by omega)).mpr y2), hl_d, hl_d, nI_add]
  rw [show rI (wI M3 10 i (nI (x + 1))) 0 12 = nI (p + 2) by rw [rI_ne (by omega)]; exact pM3, show rI (wI (wI C3 63 2 (nI (p + 2 + 1))) 64 i (nI (x + 1))) 63 3 = nI d by rw [rI_ne (by omega), rI_ne (by omega)]; exact dC3, rI_same, nI_add, nI_add]
  refine ok2_some ⟨rfl, p + 3, by omega, by omega, ?_, rI_same _ _ _ _, ⟨fun P k h1 h2 => ?_, FC3.2⟩, ⟨fun P k h1 h2 => ?_, FM3.2⟩, fun _ => ⟨x + 1, y2, by omega, rI_same _ _ _ _, ?_, ?_⟩⟩
  · rw [rI_ne (by omega), rI_ne (by omega), rI_same]
  · rw [rI_ne (by omega), rI_ne (by omega), rI_ne (by omega)]; exact FC3.1 P k h1 h2
  · rw [rI_ne (by omega), rI_ne (by omega)]; exact FM3.1 P k h1 h2
  · rw [rI_ne (by omega), rI_same]
  · rw [rI_ne (by omega), rI_same]
end MEMBER
