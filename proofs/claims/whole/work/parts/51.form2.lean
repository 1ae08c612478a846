section AFORM
theorem InvG_read {n m : Nat} {hC hM hC' hM' : pq_H} (i : InvG n m hC hM) (hn : n < 6) (c1 : ∀ P k, P ≠ 63 → P ≠ 64 → P ≠ n → P ≠ n + 12 → (P ≠ 61 ∨ k ≠ 1) → rI hC' P k = rI hC P k) (c2 : rI hC' 61 1 = 0) (c3 : ∀ k, rR hC' 72 k = rR hC 72 k) (m1 : ∀ P k, (P ≠ 0 ∨ (k ≠ 11 ∧ k ≠ 12)) → P ≠ 10 → rI hM' P k = rI hM P k) (m2 : rI hM' 0 11 = 0) : InvG n m hC' hM' := by
  obtain ⟨⟨a1, a2, a3, a4⟩, i2, i3, i4, i5, i6, i7⟩ := i
  refine ⟨⟨a1, ?_, ?_, fun f hf => ?_⟩, i2.fr ?_ ?_ ?_ ?_, ⟨0, by omega, c2, m2, fun i hi => by omega⟩, i4.fr ?_ ?_, i5.fr ?_ ?_ ?_ ?_, i6.fr ?_ ?_ ?_ ?_, i7.fr c3⟩
  case refine_1 => rw [c1 _ _ (by omega) (by omega) (by omega) (by omega) (by omega)]; exact a2
  case refine_2 => rw [m1 _ _ (by omega) (by omega)]; exact a3
  case refine_3 =>
    obtain ⟨F, b1, b2, b3⟩ := a4 f hf
    exact ⟨F, b1.fr (fun k => c1 _ _ (by omega) (by omega) (by omega) (by omega) (by omega)) (fun k => c1 _ _ (by omega) (by omega) (by omega) (by omega) (by omega)), b2.fr (m1 _ _ (by omega) (by omega)) (m1 _ _ (by omega) (by omega)) (m1 _ _ (by omega) (by omega)) (fun t ht => m1 _ _ (by omega) (by omega)), b3⟩
  all_goals first | (intros; exact c1 _ _ (by omega) (by omega) (by omega) (by omega) (by omega)) | (intros; exact m1 _ _ (by omega) (by omega))
theorem InvG_log {n m m' : Nat} {hC hM : pq_H} (i : InvG n m hC hM) : InvG n m' (wI hC 74 0 0) (wI hM 0 8 0) := by
  obtain ⟨i1, ⟨_, x, u0, u1, u2, u3, u4, u5⟩, i3, i4, i5, i6, i7⟩ := i
  refine ⟨i1.fr ?_ ?_ ?_ ?_, InvU.nil x u1 (rI_same _ _ _ _) (rI_same _ _ _ _) ?_, i3.fr ?_ ?_ ?_ ?_, i4.fr ?_ ?_, i5.fr ?_ ?_ ?_ ?_, i6.fr ?_ ?_ ?_ ?_, i7.fr ?_⟩
  case refine_5 => rw [rI_ne (by omega)]; exact u4
  all_goals (intros; first | exact rI_ne (by omega) | rfl)
theorem zeroM_ok (h : pq_H) (R : Option (Int32 × pq_H) → Prop) (k : ∀ h', (∀ P k, rI h' P k = rI h P k) → (∀ t, t < 28 → rJ h' 8 t = 0) → R (f_X11_readsForm_j21 h')) : R (f_X11_readsForm h) := by
  unfold f_X11_readsForm
  refine lp_genE (R := R) (fun (w : Int32 → pq_H → Option (Int32 × pq_H)) (s : Int32 × pq_H) => w s.1 s.2) (fun i s => s.1 = nI i ∧ (∀ P k, rI s.2 P k = rI h P k) ∧ ∀ t, t < i → rJ s.2 8 t = 0) 28 ?_ ?_ 1000 0 (0, h) (by omega) (by omega) ⟨rfl, fun _ _ => rfl, fun t ht => by omega⟩
  · intro i s w hi ⟨e1, e2, e3⟩
    obtain ⟨a, b⟩ := s
    simp only at e1 e2 e3
    subst e1
    refine ⟨(nI (i + 1), wJ b 8 i 0), ?_, rfl, e2, fun t ht => ?_⟩
    · show f_X11_readsForm_l2 w (nI i) b = w (nI (i + 1)) (wJ b 8 i 0)
      unfold f_X11_readsForm_l2
      rw [show (28 : Int32) = nI 28 from rfl, if_neg (nI_ge hi (by omega)), inbN hi (by decide), gd_t, nI_clamp (by omega), nI_1]
    · by_cases z : t = i
      · subst z; exact rJ_same _ _ _ _
      · show rJ (wJ b 8 i 0) 8 t = 0
        rw [rJ_ne (by omega)]
        exact e3 t (by omega)
  · intro s w ⟨e1, e2, e3⟩
    obtain ⟨a, b⟩ := s
    simp only at e1 e2 e3
    subst e1
    show R (f_X11_readsForm_l2 w (nI 28) b)
    unfold f_X11_readsForm_l2
    rw [if_pos (show (28 : Int32) ≤ nI 28 from le_nIn (Nat.le_refl _) (by omega))]
    exact k b e2 e3
theorem read2 {m n : Nat} {L : Nat → Int32} {hC hM : pq_H} (hm : m ≤ 72) (hn : n < 6) (lc : TPC hC m L) (lm : TPM hM m L) (p0 : rI hM 0 12 = 0) : ok2 (f_X2_read n hC) (f_X11_readsForm hM) (fun a b => ∃ B B', QF m n B B' a b ∧ (∀ P k, P ≠ 63 → P ≠ n → P ≠ n + 12 → rI B P k = rI hC P k) ∧ rI B n 1 = 0 ∧ rI B n 2 = 0 ∧ (∀ k, rR B 72 k = rR hC 72 k) ∧ ∀ P k, rI B' P k = rI hM P k) := by
  refine zeroM_ok hM (fun x => ok2 (f_X2_read n hC) x _) (fun B' z1 z2 => ?_)
  unfold f_X2_read
  rw [hl_d (wR hC 63 1 (some 61)), hl_d, hl_d]
  obtain ⟨B, eB, b1, b2, b3, b4, b5, b6, b7⟩ := nought1_ok n (wI (wI (wR hC 63 1 (some 61)) 63 2 0) 63 4 (-1))
  rw [eB, Option.bind_some]
  have fB : ∀ P k, P ≠ 63 → P ≠ n → P ≠ n + 12 → rI B P k = rI hC P k := fun P k x y z => by
    rw [b1 P k y z, rI_ne (by omega), rI_ne (by omega)]
    rfl
  have rB : rR B 63 1 = some 61 := by rw [b7]; exact rR_same _ _ _ _
  have rB2 : ∀ k, rR B 72 k = rR hC 72 k := fun k => by rw [b7]; exact rR_ne (by omega)
  have pB : rI B 63 2 = nI 0 := by rw [b1 _ _ (by omega) (by omega), rI_ne (by omega), rI_same]; rfl
  have fd : rI B 63 4 = -1 := by rw [b1 _ _ (by omega) (by omega), rI_same]
  have lcB : TPC B m L := lc.fr (fun P k hP => fB P k (by omega) (by omega) (by omega))
  have lmB : TPM B' m L := lm.fr (fun P k hP => z1 P k)
  have gB : (rR B 63 1 == some 61) = true := by rw [rB]; rfl
  have p0' : rI B' 0 12 = nI 0 := (z1 _ _).trans p0
  have b6' := b6
  have ti0 : TI 0 n B B' := fun t ht => by rw [b6' t ht, z2 t ht]; decide
  have tz0 : TZ n B := fun D _ _ t _ ht => b6' t ht
  -- from the first member on
  have go : ∀ (sg : Bool) (p : Nat) (C M : pq_H), ST m n p 0 L B B' C M → rI C 63 4 = -1 → ok2 (f_X2_read_j52 n sg C) (bd2 (f_X11_readsMember sg (-9) M) fun r58 h58 => lp (fun _ _ => none) (f_X11_readsForm_l64 r58) 1000 r58 h58) (QF m n B B') := by
    intro sg p C M s hF
    unfold f_X2_read_j52
    have hp := s.hp
    rw [show (1000 : Nat) = 999 + 1 from rfl, lp_s]
    have e : ∀ w, f_X2_read_l55 n w sg 0 C = bd2 (f_X2_readMember n sg C) fun r65 h65 => if r65 = true then (gd (rR h65 63 1 == some 61) (if (rI h65 63 2) < (rI h65 61 1) then (gd (rR h65 63 1 == some 61) ((f_X3_at (rI h65 63 2) h65).bind fun r101 => if r101 = 43 then (f_X2_read_j125 w (nI 0) r101 h65) else (if r101 = 45 then (f_X2_read_j125 w (nI 0) r101 h65) else (f_X2_read_j120 h65)))) else (f_X2_read_j90 n h65))) else (f_X2_read_j71 h65) := by
      intro w
      show (if (72 : Int32) ≤ 0 then _ else _) = _
      rw [if_neg (by decide)]
      rfl
    rw [e]
    refine ok2_bd2 (member2 hm hn hp (Nat.le_refl 6) s.lc s.lm s.rC s.pC s.pM (Or.inl ⟨hF, rfl, rfl⟩)) (fun a h1 b h2 mb => ?_)
    rw [lp_s]
    exact after2 (rest2 _ _ hm hn 999) hm hn s (by omega) mb (Or.inr rfl)
  have st : ∀ (p : Nat) (C M : pq_H), (C = B ∧ p = 0 ∨ C = wI B 63 2 (nI 1) ∧ p = 1) → (M = wI B' 0 12 (nI p)) → p ≤ m → ST m n p 0 L B B' C M ∧ rI C 63 4 = -1 := by
    intro p C M hc hM' hp
    subst hM'
    have lmm : TPM (wI B' 0 12 (nI p)) m L := lmB.wI _ _ _ (by omega)
    have fmm : FM2 B' (wI B' 0 12 (nI p)) := fun P k x y => rI_ne (by omega)
    rcases hc with ⟨rfl, rfl⟩ | ⟨rfl, rfl⟩
    · exact ⟨⟨lcB, lmm, rB, pB, rI_same _ _ _ _, ti0, tz0, ⟨fun _ _ _ _ _ => rfl, fun _ _ => rfl⟩, fmm, hp, by omega⟩, fd⟩
    · refine ⟨⟨lcB.wI _ _ _ (by omega), lmm, rB, rI_same _ _ _ _, rI_same _ _ _ _, fun t ht => ?_, fun D hD hD' t h1 h2 => ?_, ⟨fun P k x y z => rI_ne (by omega), fun _ _ => rfl⟩, fmm, hp, by omega⟩, ?_⟩
      · rw [rI_ne (by omega)]; exact ti0 t ht
      · rw [rI_ne (by omega)] at hD' ⊢
        exact tz0 D hD hD' t h1 h2
      · rw [rI_ne (by omega)]; exact fd
  have fin : ∀ (sg : Bool) (p : Nat) (C : pq_H), (C = B ∧ p = 0 ∨ C = wI B 63 2 (nI 1) ∧ p = 1) → p ≤ m → ok2 (f_X2_read_j52 n sg C) (bd2 (f_X11_readsMember sg (-9) (wI B' 0 12 (nI p))) fun r58 h58 => lp (fun _ _ => none) (f_X11_readsForm_l64 r58) 1000 r58 h58) (fun a b => ∃ B B', QF m n B B' a b ∧ (∀ P k, P ≠ 63 → P ≠ n → P ≠ n + 12 → rI B P k = rI hC P k) ∧ rI B n 1 = 0 ∧ rI B n 2 = 0 ∧ (∀ k, rR B 72 k = rR hC 72 k) ∧ ∀ P k, rI B' P k = rI hM P k) := by
    intro sg p C hc hp
    obtain ⟨s1, s2⟩ := st p C _ hc rfl hp
    obtain ⟨a, b, e1, e2, q⟩ := go sg p C _ s1 s2
    exact ⟨a, b, e1, e2, B, B', q, fB, b3, b4, rB2, z1⟩
  have nx := next_ch lmB hm (show 0 < 1000 by omega) p0'
  have at0 := at_ch lcB hm (show 0 < 1000 by omega)
  unfold f_X11_readsForm_j21 f_X11_readsForm_j35 f_X11_readsForm_j50 f_X2_read_j37
  rw [gB, gd_t, show (0 : Int32) = nI 0 from rfl, at0, nx, Option.bind_some, Option.bind_some, p0', pB]
  by_cases z : 0 < m ∧ L 0 = nI 45
  · rw [if_pos (show chr m L (-1) 0 = 45 from (chC (c := 45) (by omega)).mpr z), if_pos (show chr m L (-9) 0 = 45 from (chM (c := 45) (by omega)).mpr z), if_pos rfl, if_pos rfl, nI_1]
    exact fin true 1 _ (Or.inr ⟨rfl, rfl⟩) z.1
  · rw [if_neg (show ¬ chr m L (-1) 0 = 45 from fun x => z ((chC (c := 45) (by omega)).mp x)), if_neg (show ¬ chr m L (-9) 0 = 45 from fun x => z ((chM (c := 45) (by omega)).mp x)), if_neg (by decide), if_neg (by decide)]
    exact fin false 0 _ (Or.inl ⟨rfl, rfl⟩) (by omega)
theorem a_form : Ag_form Inv := by
  intro hC hM i
  obtain ⟨n, iG⟩ := id i
  obtain ⟨⟨h6, f1, f2, f3⟩, -, ⟨m, hm, l1, l2, l3⟩, -⟩ := id iG
  unfold f_X10_form f_X11_form
  simp only [bd2_id]
  rw [full_ok h6 hC f1, f1, f2]
  by_cases z : n = 6
  · subst z
    rw [decide_eq_true rfl, if_pos rfl, if_pos (by decide)]
    exact ag_no 6 rfl (by decide) (by decide) i
  have hn : n < 6 := by omega
  rw [decide_eq_false z, if_neg (by decide), if_neg (show ¬ nI n = 6 from fun y => z ((nI_eq (b := 6) (by omega) (by decide)).mp y)), inbN hn (by decide), gd_t, nI_clamp (by omega), hl_d (wI hM 0 12 0)]
  have lc : TPC hC m (fun i => rI hC 62 i) := ⟨l1, fun _ _ => rfl⟩
  have lm : TPM (wI hM 0 12 0) m (fun i => rI hC 62 i) := ⟨by rw [rI_ne (by omega)]; exact l2, fun i hi => by rw [rI_ne (by omega)]; exact l3 i hi⟩
  obtain ⟨⟨a, C⟩, ⟨b, M⟩, e1, e2, B, B', ⟨p', w1, w2, w3, w4⟩, b1, b2, b3, b4, b5⟩ := read2 hm hn lc lm (rI_same _ _ _ _)
  simp only at w2 w3 w4
  rw [e1, e2, bd2_some, bd2_some, hl_d (wI C 61 1 0), hl_d (wI M 0 11 0)]
  have mM : ∀ P k, (P ≠ 0 ∨ (k ≠ 11 ∧ k ≠ 12)) → P ≠ 10 → rI (wI M 0 11 0) P k = rI hM P k := fun P k x y => by
    rw [rI_ne (by omega), w3 P k (by omega) y, b5, rI_ne (by omega)]
  rcases w4 with ⟨rfl, rfl, f⟩ | ⟨rfl, D, rfl, hD, c1, c2, c3, c4, c5⟩
  · rw [if_neg (show ¬ nI p' = -1 from fun y => ch_no (k := 1) (c := p') (by omega) (by omega) (by omega) y.symm), if_neg (show ¬ (0 : Int32) ≤ -9 by decide), rI_ne (by omega), w2]
    refine ag_c _ _ _ rfl rfl ⟨n, InvG_read iG hn (fun P k x1 x2 x3 x4 x5 => ?_) (rI_same _ _ _ _) (fun k => ?_) mM (rI_same _ _ _ _)⟩
    · rw [rI_ne (by omega), f.1 P k x1 x2 x4]; exact b1 P k x1 x3 x4
    · exact (f.2 72 k).trans (b4 k)
  · rw [if_pos rfl, if_pos (nI_pos' (by omega))]
    have cC : ∀ P k, P ≠ 63 → P ≠ 64 → P ≠ n → P ≠ n + 12 → rI C P k = rI hC P k := fun P k x1 x2 x3 x4 => (c1 P k x1 x2 x4 (by omega)).trans (b1 P k x1 x3 x4)
    have q56 : rI (wI C 61 1 0) 56 3 = nI n := by rw [rI_ne (by omega), cC _ _ (by omega) (by omega) (by omega) (by omega)]; exact f1
    rw [q56, nI_1, hl_d (wI (wI C 61 1 0) 56 3 (nI (n + 1))), hl_d (wI (wI M 0 11 0) 0 8 0)]
    unfold f_X10_cameOr
    rw [if_pos rfl, hl_d]
    have n5 : rI (wI (wI M 0 11 0) 0 8 0) 0 5 = nI n := by rw [rI_ne (by omega), mM _ _ (by omega) (by omega)]; exact f2
    obtain ⟨⟨r, M'⟩, em, rfl, g1, g2, g3⟩ := comes_ok (hM := wI (wI M 0 11 0) 0 8 0) hn hD n5
    simp only at g1 g2 g3
    rw [em]
    have q57 : rI (wI (wI (wI C 61 1 0) 56 3 (nI (n + 1))) 74 0 0) 56 3 = nI (n + 1) := by rw [rI_ne (by omega), rI_same]
    rw [q57, show nI (n + 1) - 1 = nI n by rw [show (1 : Int32) = nI 1 from rfl, pk_sub (by omega), Nat.add_sub_cancel]]
    -- a state from which the form is new
    have iv : InvG n (n + 1) (wI (wI hC 61 1 0) 74 0 0) (wI (wI hM 0 11 0) 0 8 0) := InvG_log (InvG_read iG hn (fun P k x1 x2 x3 x4 x5 => rI_ne (by omega)) (rI_same _ _ _ _) (fun _ => rfl) (fun P k x y => rI_ne (by omega)) (rI_same _ _ _ _))
    refine ag_c (nI n) _ M' rfl rfl ⟨n + 1, InvG_new (D := 0) iv hn (F := newF D (rJ M 8)) (okF_new hD c5) (fun P k x1 x2 x3 x4 => ?_) q57 ⟨?_, ?_, ?_, fun t ht => ?_⟩ (fun k => ?_) (fun P k hP => ?_) g2 g3⟩
    · by_cases y : P = 74 ∧ k = 0
      · obtain ⟨rfl, rfl⟩ := y
        rw [rI_same, rI_same]
      · rw [rI_ne (by omega), rI_ne (by omega), rI_ne (h := wI hC 61 1 0) (by omega)]
        by_cases y2 : P = 61 ∧ k = 1
        · obtain ⟨rfl, rfl⟩ := y2
          rw [rI_same, rI_same]
        · rw [rI_ne (by omega), rI_ne (by omega)]
          exact cC P k (by omega) (by omega) x1 x2
    · rw [rI_ne (by omega), rI_ne (by omega), rI_ne (by omega), c1 _ _ (by omega) (by omega) (by omega) (by omega)]; exact b2
    · rw [rI_ne (by omega), rI_ne (by omega), rI_ne (by omega), c1 _ _ (by omega) (by omega) (by omega) (by omega)]; exact b3
    · rw [rI_ne (by omega), rI_ne (by omega), rI_ne (by omega)]; exact c3
    · rw [rI_ne (by omega), rI_ne (by omega), rI_ne (by omega)]; exact c4 t ht
    · show rR C 72 k = rR hC 72 k
      rw [c2, b4]
    · rw [g1 P k (by omega)]
      by_cases y : P = 0 ∧ k = 8
      · obtain ⟨rfl, rfl⟩ := y
        rw [rI_same, rI_same]
      · rw [rI_ne (by omega), rI_ne (h := wI hM 0 11 0) (by omega)]
        by_cases y2 : P = 0 ∧ k = 11
        · obtain ⟨rfl, rfl⟩ := y2
          rw [rI_same, rI_same]
        · rw [mM P k (by omega) (by omega), rI_ne (by omega)]
end AFORM
