section ACT
def F65 (h h' : pq_H) : Prop := (∀ P k, (P ≠ 65 ∨ k ≠ 6) → rI h' P k = rI h P k) ∧ ∀ P k, rR h' P k = rR h P k
theorem num2 {m p : Nat} {L : Nat → Int32} {hC hM : pq_H} (hm : m ≤ 72) (hp : p ≤ m) (lc : TPC hC m L) (lm : TPM hM m L) (rC : rR hC 65 5 = some 61) (pC : rI hC 65 6 = nI p) (pM : rI hM 0 12 = nI p) : ok2 (f_X0_readNumber hC) (f_X11_readsNumber hM) (fun a b => F65 hC a.2 ∧ F12 hM b.2 ∧ ∃ p', p ≤ p' ∧ p' ≤ m ∧ rI a.2 65 6 = nI p' ∧ rI b.2 0 12 = nI p' ∧ ((∃ d, d ≤ 9 ∧ a.1 = nI d ∧ b.1 = nI d ∧ p' = p + 2) ∨ (a.1 = -1 ∧ b.1 = -9))) := by
  unfold f_X0_readNumber f_X11_readsNumber
  have g : (rR hC 65 5 == some 61) = true := by rw [rC]; rfl
  rw [g, gd_t, pC, pM, at_ch lc hm (by omega), next_ch lm hm (by omega) pM, Option.bind_some, Option.bind_some]
  by_cases z : p < m ∧ L p = nI 32
  case neg =>
    rw [if_neg (show ¬ chr m L (-1) p = 32 from fun q => z ((chC (c := 32) (by omega)).mp q)), if_neg (show ¬ chr m L (-9) p = 32 from fun q => z ((chM (c := 32) (by omega)).mp q))]
    exact ok2_some ⟨⟨fun _ _ _ => rfl, fun _ _ => rfl⟩, F12.rf _, p, by omega, hp, pC, pM, Or.inr ⟨rfl, rfl⟩⟩
  rw [if_pos (show chr m L (-1) p = 32 from (chC (c := 32) (by omega)).mpr z), if_pos (show chr m L (-9) p = 32 from (chM (c := 32) (by omega)).mpr z), nI_1, hl_d (wI hC 65 6 (nI (p + 1))), hl_d (wI hM 0 12 (nI (p + 1)))]
  generalize hC1 : wI hC 65 6 (nI (p + 1)) = C1
  generalize hM1 : wI hM 0 12 (nI (p + 1)) = M1
  have lc1 : TPC C1 m L := by rw [← hC1]; exact lc.wI _ _ _ (by omega)
  have lm1 : TPM M1 m L := by rw [← hM1]; exact lm.wI _ _ _ (by omega)
  have rC1 : rR C1 65 5 = some 61 := by rw [← hC1]; exact rC
  have pC1 : rI C1 65 6 = nI (p + 1) := by rw [← hC1, rI_same]
  have pM1 : rI M1 0 12 = nI (p + 1) := by rw [← hM1, rI_same]
  have FC1 : F65 hC C1 := by rw [← hC1]; exact ⟨fun P k h => rI_ne (by omega), fun _ _ => rfl⟩
  have FM1 : F12 hM M1 := by rw [← hM1]; exact ⟨fun P k h => rI_ne (by omega), fun _ _ => rfl⟩
  clear hC1 hM1
  have g1 : (rR C1 65 5 == some 61) = true := by rw [rC1]; rfl
  rw [g1, gd_t, pC1, pM1, digitC lc1 hm (by omega), digitM lm1 hm (by omega) pM1, Option.bind_some, Option.bind_some]
  by_cases y : dg m L (p + 1) = true
  case neg =>
    rw [if_neg y, if_neg y]
    exact ok2_some ⟨FC1, FM1, p + 1, by omega, by omega, pC1, pM1, Or.inr ⟨rfl, rfl⟩⟩
  obtain ⟨y1, y2, y3⟩ := dgv_ok y
  rw [if_pos y, if_pos y, nI_1, hl_d (wI C1 65 6 (nI (p + 1 + 1))), hl_d (wI M1 0 12 (nI (p + 1 + 1))), rI_same, rI_same, show nI (p + 1 + 1) - 1 = nI (p + 1) by rw [show (1 : Int32) = nI 1 from rfl, pk_sub (by omega)]; rfl, at_ch (lc1.wI _ _ _ (by omega)) hm (by omega), Option.bind_some, inbN (show p + 1 < 72 by omega) (by decide), gd_t, nI_clamp (by omega), rI_ne (by omega), lm1.2 _ y1, show (rR (wI C1 65 6 (nI (p + 1 + 1))) 65 5 == some 61) = true from g1, gd_t]
  unfold chr
  rw [if_pos y1, y3, show nI (48 + dgv L (p + 1)) - 48 = nI (dgv L (p + 1)) by rw [show (48 : Int32) = nI 48 from rfl, pk_sub (by omega)]; congr 1; omega]
  exact ok2_some ⟨⟨fun P k h => by rw [rI_ne (by omega)]; exact FC1.1 P k h, FC1.2⟩, FM1.wI _, p + 2, by omega, by omega, rI_same _ _ _ _, rI_same _ _ _ _, Or.inl ⟨_, y2, rfl, rfl, rfl⟩⟩
/-- the acts that were read, both sides -/
def AJ (s : Nat) (hC hM : pq_H) : Prop := ∀ j, j < s → ∃ w x y q, w < 5 ∧ x ≤ 9 ∧ y ≤ 9 ∧ q ≤ 72 ∧ rI hC 66 j = nI w ∧ rI hC 68 j = nI x ∧ rI hC 69 j = nI y ∧ rI hC 67 j = nI q ∧ rI hM 11 j = nI w ∧ rI hM 13 j = nI x ∧ rI hM 14 j = nI y ∧ rI hM 12 j = nI q
def GC (h h' : pq_H) : Prop := (∀ P k, (P < 65 ∨ 69 < P ∨ (P = 65 ∧ k ≠ 6 ∧ k ≠ 4)) → rI h' P k = rI h P k) ∧ ∀ P k, rR h' P k = rR h P k
def GM (h h' : pq_H) : Prop := ∀ P k, (P ≠ 0 ∨ (k ≠ 12 ∧ k ≠ 18)) → (P < 11 ∨ 14 < P) → rI h' P k = rI h P k
def ACT (m p s : Nat) (hC hM : pq_H) (a b : Bool × pq_H) : Prop := a.1 = b.1 ∧ GC hC a.2 ∧ GM hM b.2 ∧ ∃ p', p ≤ p' ∧ p' ≤ m ∧ rI a.2 65 6 = nI p' ∧ rI b.2 0 12 = nI p' ∧ (a.1 = true → p + 7 ≤ p' ∧ rI a.2 65 4 = nI s ∧ rI b.2 0 18 = nI (s + 1) ∧ AJ (s + 1) a.2 b.2)
theorem act2 {m p s : Nat} {L : Nat → Int32} {hC hM : pq_H} (hm : m ≤ 72) (hp : p ≤ m) (hs : s < 9) (lc : TPC hC m L) (lm : TPM hM m L) (rC : rR hC 65 5 = some 61) (pC : rI hC 65 6 = nI p) (pM : rI hM 0 12 = nI p) (sC : rI hC 65 4 = nI s) (sM : rI hM 0 18 = nI s) (aj : AJ s hC hM) : ok2 (f_X0_readAct hC) (f_X11_readsAct hM) (ACT m p s hC hM) := by
  obtain ⟨e, e1, e2, e3, e4⟩ := end_ex m L p hp
  unfold f_X0_readAct f_X11_readsAct
  rw [sC, pC, pM, inbN hs (by decide), gd_t, nI_clamp (by omega), hl_d (wI hC 67 s (nI p))]
  generalize hC1 : wI hC 67 s (nI p) = C1
  have lc1 : TPC C1 m L := by rw [← hC1]; exact lc.wI _ _ _ (by omega)
  have rC1 : rR C1 65 5 = some 61 := by rw [← hC1]; exact rC
  have pC1 : rI C1 65 6 = nI p := by rw [← hC1, rI_ne (by omega)]; exact pC
  have sC1 : rI C1 65 4 = nI s := by rw [← hC1, rI_ne (by omega)]; exact sC
  have q67 : rI C1 67 s = nI p := by rw [← hC1, rI_same]
  have o1 : ∀ P k, (P ≠ 67 ∨ k ≠ s) → rI C1 P k = rI hC P k := fun P k h => by rw [← hC1]; exact rI_ne (by omega)
  have R1 : ∀ P k, rR C1 P k = rR hC P k := fun P k => by rw [← hC1]; rfl
  clear hC1
  rw [pC1, wordC lc1 hm rC1 e1 e2 e3 e4, Option.bind_some, sC1, inbN hs (by decide), gd_t, nI_clamp (by omega), hl_d (wI C1 66 s (wd L p e))]
  generalize hC2 : wI C1 66 s (wd L p e) = C2
  have lc2 : TPC C2 m L := by rw [← hC2]; exact lc1.wI _ _ _ (by omega)
  have rC2 : rR C2 65 5 = some 61 := by rw [← hC2]; exact rC1
  have pC2 : rI C2 65 6 = nI p := by rw [← hC2, rI_ne (by omega)]; exact pC1
  have sC2 : rI C2 65 4 = nI s := by rw [← hC2, rI_ne (by omega)]; exact sC1
  have q66 : rI C2 66 s = wd L p e := by rw [← hC2, rI_same]
  have q67' : rI C2 67 s = nI p := by rw [← hC2, rI_ne (by omega)]; exact q67
  have o2 : ∀ P k, ((P ≠ 66 ∧ P ≠ 67) ∨ k ≠ s) → rI C2 P k = rI hC P k := fun P k h => by rw [← hC2, rI_ne (by omega)]; exact o1 P k (by omega)
  have R2 : ∀ P k, rR C2 P k = rR hC P k := fun P k => by rw [← hC2]; exact R1 P k
  clear hC2
  obtain ⟨⟨w0, M1⟩, em, f1, wm⟩ := wordM lm hm pM e1 e2 e3 e4
  simp only at f1 wm
  have lm1 : TPM M1 m L := lm.fr (fun P k hP => f1.1 P k (by omega))
  rw [em, bd2_some, sC2, inbN hs (by decide), gd_t, gd_t, nI_clamp (by omega), q66]
  rcases wm with ⟨w, hw, ew, el, rfl, pM1⟩ | ⟨ew, rfl, pM1⟩
  case inr =>
    rw [ew, if_pos rfl, if_neg (by decide)]
    refine ok2_some ⟨rfl, ⟨fun P k h => o2 P k (by omega), R2⟩, fun P k x y => f1.1 P k (by omega), p, by omega, hp, pC2, pM1, fun q => by cases q⟩
  have ht : f_X0_textOf (nI w) = w ∧ txL.getD w 0 = (twd w).length ∧ (twd w).length ≤ 5 ∧ 3 ≤ (twd w).length ∧ (w = 3 → (twd w).length = 5) := by
    have : w = 0 ∨ w = 1 ∨ w = 2 ∨ w = 3 ∨ w = 4 := by omega
    rcases this with rfl | rfl | rfl | rfl | rfl <;> decide
  rw [ew, if_neg (fun q => ch_no (k := 1) (c := w) (by omega) (by omega) (by omega) q.symm), if_pos (nI_pos' (by omega)), ht.1, ht.2.1, pC2, nI_add, el, hl_d (wI C2 65 6 (nI e))]
  generalize hC3 : wI C2 65 6 (nI e) = C3
  have lc3 : TPC C3 m L := by rw [← hC3]; exact lc2.wI _ _ _ (by omega)
  have rC3 : rR C3 65 5 = some 61 := by rw [← hC3]; exact rC2
  have pC3 : rI C3 65 6 = nI e := by rw [← hC3, rI_same]
  have sC3 : rI C3 65 4 = nI s := by rw [← hC3, rI_ne (by omega)]; exact sC2
  have q66a : rI C3 66 s = nI w := by rw [← hC3, rI_ne (by omega), q66, ew]
  have q67a : rI C3 67 s = nI p := by rw [← hC3, rI_ne (by omega)]; exact q67'
  have o3 : ∀ P k, ((P ≠ 66 ∧ P ≠ 67) ∨ k ≠ s) → (P ≠ 65 ∨ k ≠ 6) → rI C3 P k = rI hC P k := fun P k h h' => by rw [← hC3, rI_ne (by omega)]; exact o2 P k (by omega)
  have R3 : ∀ P k, rR C3 P k = rR hC P k := fun P k => by rw [← hC3]; exact R2 P k
  clear hC3
  refine ok2_bd2 (num2 hm e2 lc3 lm1 rC3 pC3 pM1) (fun x C4 y M4 ⟨g1, g2, p4, t1, t2, t3, t4, t5⟩ => ?_)
  simp only at g1 g2 t3 t4 t5
  have lm4 : TPM M4 m L := lm1.fr (fun P k hP => g2.1 P k (by omega))
  rw [sC3, inbN hs (by decide), gd_t, nI_clamp (by omega), hl_d (wI C4 68 s x)]
  generalize hC5 : wI C4 68 s x = C5
  have lc5 : TPC C5 m L := by rw [← hC5]; exact (lc3.fr (fun P k hP => g1.1 P k (by omega))).wI _ _ _ (by omega)
  have rC5 : rR C5 65 5 = some 61 := by rw [← hC5]; exact (g1.2 _ _).trans rC3
  have pC5 : rI C5 65 6 = nI p4 := by rw [← hC5, rI_ne (by omega)]; exact t3
  have sC5 : rI C5 65 4 = nI s := by rw [← hC5, rI_ne (by omega), g1.1 _ _ (by omega)]; exact sC3
  have q66b : rI C5 66 s = nI w := by rw [← hC5, rI_ne (by omega), g1.1 _ _ (by omega)]; exact q66a
  have q67b : rI C5 67 s = nI p := by rw [← hC5, rI_ne (by omega), g1.1 _ _ (by omega)]; exact q67a
  have q68 : rI C5 68 s = x := by rw [← hC5, rI_same]
  have o5 : ∀ P k, ((P ≠ 66 ∧ P ≠ 67 ∧ P ≠ 68) ∨ k ≠ s) → (P ≠ 65 ∨ k ≠ 6) → rI C5 P k = rI hC P k := fun P k h h' => by rw [← hC5, rI_ne (by omega), g1.1 P k h']; exact o3 P k (by omega) h'
  have R5 : ∀ P k, rR C5 P k = rR hC P k := fun P k => by rw [← hC5]; exact (g1.2 P k).trans (R3 P k)
  clear hC5
  have m4 : ∀ P k, (P ≠ 0 ∨ k ≠ 12) → rI M4 P k = rI hM P k := fun P k h => (g2.1 P k h).trans (f1.1 P k h)
  rw [sC5, inbN hs (by decide), gd_t, nI_clamp (by omega), q68, q66b]
  rcases t5 with ⟨d, hd, rfl, rfl, ep⟩ | ⟨rfl, rfl⟩
  case inr =>
    rw [if_neg (by decide), if_neg (by decide)]
    exact ok2_some ⟨rfl, ⟨fun P k h => o5 P k (by omega) (by omega), R5⟩, fun P k h1 h2 => m4 P k (by omega), p4, by omega, t2, pC5, t4, fun q => by cases q⟩
  rw [if_pos (nI_pos' (by omega)), if_pos (nI_pos' (by omega))]
  simp only [gd_t]
  have good : ∀ (C6 M6 : pq_H) (y p6 : Nat), y ≤ 9 → p6 ≤ m → p + 7 ≤ p6 → (∀ P k, (P ≠ 65 ∨ k ≠ 6) → rI C6 P k = rI C5 P k) → (∀ P k, rR C6 P k = rR C5 P k) → (∀ P k, (P ≠ 0 ∨ k ≠ 12) → rI M6 P k = rI hM P k) → rI C6 65 6 = nI p6 → rI M6 0 12 = nI p6 → ok2 (f_X0_readAct_j125 (nI s) (nI y) C6) (f_X11_readsAct_j40 (nI p) (nI w) (nI d) (nI y) M6) (ACT m p s hC hM) := by
    intro C6 M6 y p6 hy h6 h7 k1 k2 k3 k4 k5
    unfold f_X0_readAct_j125 f_X11_readsAct_j40
    have sC6 : rI (wI C6 69 s (nI y)) 65 4 = nI s := by rw [rI_ne (by omega), k1 _ _ (by omega)]; exact sC5
    have s0 : rI M6 0 18 = nI s := (k3 _ _ (by omega)).trans sM
    rw [inbN hs (by decide), gd_t, nI_clamp (by omega), hl_d, sC6, inbN hs (by decide), gd_t, nI_clamp (by omega), rI_same, if_neg (nI_pos (by omega)), if_pos (nI_pos' (by omega)), s0, inbN (show s < 16 by omega) (by decide), gd_t, nI_clamp (by omega)]
    have e1 : rI (wI M6 11 s (nI w)) 0 18 = nI s := by rw [rI_ne (by omega)]; exact s0
    have e2 : rI (wI (wI M6 11 s (nI w)) 12 s (nI p)) 0 18 = nI s := by rw [rI_ne (by omega)]; exact e1
    have e3 : rI (wI (wI (wI M6 11 s (nI w)) 12 s (nI p)) 13 s (nI d)) 0 18 = nI s := by rw [rI_ne (by omega)]; exact e2
    have e4 : rI (wI (wI (wI (wI M6 11 s (nI w)) 12 s (nI p)) 13 s (nI d)) 14 s (nI y)) 0 18 = nI s := by rw [rI_ne (by omega)]; exact e3
    rw [hl_d, e1, inbN (show s < 16 by omega) (by decide), gd_t, nI_clamp (by omega), hl_d, e2, inbN (show s < 16 by omega) (by decide), gd_t, nI_clamp (by omega), hl_d, e3, inbN (show s < 16 by omega) (by decide), gd_t, nI_clamp (by omega), hl_d, e4, nI_1]
    refine ok2_some ⟨rfl, ⟨fun P k h => ?_, fun P k => (k2 P k).trans (R5 P k)⟩, fun P k h1 h2 => ?_, p6, by omega, h6, ?_, ?_, fun _ => ⟨h7, sC6, rI_same _ _ _ _, fun j hj => ?_⟩⟩
    · rw [rI_ne (by omega), k1 P k (by omega)]; exact o5 P k (by omega) (by omega)
    · rw [rI_ne (by omega), rI_ne (by omega), rI_ne (by omega), rI_ne (by omega), rI_ne (by omega)]; exact k3 P k (by omega)
    · rw [rI_ne (by omega)]; exact k4
    · rw [rI_ne (by omega), rI_ne (by omega), rI_ne (by omega), rI_ne (by omega), rI_ne (by omega)]; exact k5
    · by_cases z : j = s
      · subst z
        refine ⟨w, d, y, p, hw, hd, hy, by omega, ?_, ?_, rI_same _ _ _ _, ?_, ?_, ?_, ?_, ?_⟩
        · rw [rI_ne (by omega), k1 _ _ (by omega)]; exact q66b
        · rw [rI_ne (by omega), k1 _ _ (by omega)]; exact q68
        · rw [rI_ne (by omega), k1 _ _ (by omega)]; exact q67b
        · rw [rI_ne (by omega), rI_ne (by omega), rI_ne (by omega), rI_ne (by omega), rI_same]
        · rw [rI_ne (by omega), rI_ne (by omega), rI_same]
        · rw [rI_ne (by omega), rI_same]
        · rw [rI_ne (by omega), rI_ne (by omega), rI_ne (by omega), rI_same]
      · obtain ⟨w', x', y', q', a1, a2, a3, a4, a5, a6, a7, a8, a9, a10, a11, a12⟩ := aj j (by omega)
        have cc : ∀ P, 66 ≤ P → P ≤ 69 → rI (wI C6 69 s (nI y)) P j = rI hC P j := fun P h1 h2 => by
          rw [rI_ne (by omega), k1 _ _ (by omega)]; exact o5 P j (by omega) (by omega)
        have mm : ∀ P, 11 ≤ P → P ≤ 14 → rI (wI (wI (wI (wI (wI M6 11 s (nI w)) 12 s (nI p)) 13 s (nI d)) 14 s (nI y)) 0 18 (nI (s + 1))) P j = rI hM P j := fun P h1 h2 => by
          rw [rI_ne (by omega), rI_ne (by omega), rI_ne (by omega), rI_ne (by omega), rI_ne (by omega)]; exact k3 P j (by omega)
        exact ⟨w', x', y', q', a1, a2, a3, a4, (cc 66 (by omega) (by omega)).trans a5, (cc 68 (by omega) (by omega)).trans a6, (cc 69 (by omega) (by omega)).trans a7, (cc 67 (by omega) (by omega)).trans a8, (mm 11 (by omega) (by omega)).trans a9, (mm 13 (by omega) (by omega)).trans a10, (mm 14 (by omega) (by omega)).trans a11, (mm 12 (by omega) (by omega)).trans a12⟩
  by_cases z : w = 3
  · have z2 : nI w = 3 := by rw [z]; rfl
    have z3 := ht.2.2.2.2 z
    rw [if_pos z2, if_pos z2]
    exact good C5 M4 0 p4 (by omega) t2 (by omega) (fun _ _ _ => rfl) (fun _ _ => rfl) m4 pC5 t4
  · have z2 : ¬ nI w = 3 := fun q => z ((nI_eq (b := 3) (by omega) (by omega)).mp q)
    rw [if_neg z2, if_neg z2]
    refine ok2_bd2 (num2 hm t2 lc5 lm4 rC5 pC5 t4) (fun x C6 y M6 ⟨u1, u2, p6, v1, v2, v3, v4, v5⟩ => ?_)
    simp only at u1 u2 v3 v4 v5
    rcases v5 with ⟨d2, hd2, rfl, rfl, ep2⟩ | ⟨rfl, rfl⟩
    · exact good C6 M6 d2 p6 hd2 v2 (by omega) u1.1 u1.2 (fun P k h => (u2.1 P k h).trans (m4 P k h)) v3 v4
    · unfold f_X0_readAct_j125 f_X11_readsAct_j40
      have sC6 : rI (wI C6 69 s (-1)) 65 4 = nI s := by rw [rI_ne (by omega), u1.1 _ _ (by omega)]; exact sC5
      rw [inbN hs (by decide), gd_t, nI_clamp (by omega), hl_d, sC6, inbN hs (by decide), gd_t, nI_clamp (by omega), rI_same, if_pos (by decide), if_neg (by decide)]
      refine ok2_some ⟨rfl, ⟨fun P k h => ?_, fun P k => (u1.2 P k).trans (R5 P k)⟩, fun P k h1 h2 => (u2.1 P k (by omega)).trans (m4 P k (by omega)), p6, by omega, v2, ?_, v4, fun q => by cases q⟩
      · rw [rI_ne (by omega), u1.1 P k (by omega)]; exact o5 P k (by omega) (by omega)
      · rw [rI_ne (by omega)]; exact v3
end ACT
