section MEMBER2
theorem lp_genE {σ S β : Type} {z : σ} {f : σ → σ} {R : Option β → Prop} (app : σ → S → Option β) (I : Nat → S → Prop) (n : Nat) (hs : ∀ i s w, i < n → I i s → ∃ s', app (f w) s = app w s' ∧ I (i + 1) s') (he : ∀ s w, I n s → R (app (f w) s)) (N a : Nat) (s : S) (ha : a ≤ n) (hN : n < a + N) (hI : I a s) : R (app (lp z f N) s) := by
  induction N generalizing a s with
  | zero => omega
  | succ N ih =>
    rw [lp_s]
    by_cases c : a = n
    · subst c; exact he s _ hI
    · obtain ⟨s', e1, e2⟩ := hs a s (lp z f N) (by omega) hI
      rw [e1]
      exact ih (a + 1) s' (by omega) (by omega) e2
def dgv (L : Nat → Int32) (p : Nat) : Nat := (L p).toNatClampNeg - 48
theorem dgv_ok {m p : Nat} {L : Nat → Int32} (h : dg m L p = true) : p < m ∧ dgv L p ≤ 9 ∧ L p = nI (48 + dgv L p) := by
  obtain ⟨a, d, h1, h2⟩ := dg_ex h
  have e : dgv L p = d := by
    unfold dgv
    rw [h2, nI_clamp (by omega)]
    omega
  rw [e]
  exact ⟨a, h1, h2⟩
def dvl (L : Nat → Int32) (p : Nat) : Nat → Nat
  | 0 => 0
  | j + 1 => dvl L p j * 10 + dgv L (p + j)
theorem dvl_s (L : Nat → Int32) (p j : Nat) : dvl L p (j + 1) = dvl L p j * 10 + dgv L (p + j) := rfl
theorem dvl_b {m p : Nat} {L : Nat → Int32} {j : Nat} (hj : j ≤ 3) (h : ∀ i, i < j → dg m L (p + i) = true) : dvl L p j ≤ 999 := by
  have a : ∀ i, i < j → dgv L (p + i) ≤ 9 := fun i hi => (dgv_ok (h i hi)).2.1
  have : j = 0 ∨ j = 1 ∨ j = 2 ∨ j = 3 := by omega
  rcases this with rfl | rfl | rfl | rfl
  · exact Nat.zero_le _
  · have a0 := a 0 (by omega)
    show (0 * 10 + dgv L (p + 0)) ≤ 999
    omega
  · have a0 := a 0 (by omega)
    have a1 := a 1 (by omega)
    show ((0 * 10 + dgv L (p + 0)) * 10 + dgv L (p + 1)) ≤ 999
    omega
  · have a0 := a 0 (by omega)
    have a1 := a 1 (by omega)
    have a2 := a 2 (by omega)
    show (((0 * 10 + dgv L (p + 0)) * 10 + dgv L (p + 1)) * 10 + dgv L (p + 2)) ≤ 999
    omega
theorem run_ex (m : Nat) (L : Nat → Int32) (p : Nat) : ∃ q, q ≤ 3 ∧ (∀ i, i < q → dg m L (p + i) = true) ∧ (q = 3 ∨ dg m L (p + q) = false) := by
  by_cases a : dg m L (p + 0) = true
  case neg => exact ⟨0, by omega, fun i hi => by omega, Or.inr (b2n a)⟩
  by_cases b : dg m L (p + 1) = true
  case neg => exact ⟨1, by omega, fun i hi => by rw [show i = 0 by omega]; exact a, Or.inr (b2n b)⟩
  by_cases c : dg m L (p + 2) = true
  case neg => exact ⟨2, by omega, fun i hi => by
                            have : i = 0 ∨ i = 1 := by omega
                            rcases this with rfl | rfl
                            · exact a
                            · exact b, Or.inr (b2n c)⟩
  refine ⟨3, by omega, fun i hi => ?_, Or.inl rfl⟩
  have : i = 0 ∨ i = 1 ∨ i = 2 := by omega
  rcases this with rfl | rfl | rfl
  · exact a
  · exact b
  · exact c
theorem dg_step {v d : Nat} : nI v * 10 + nI (48 + d) - 48 = nI (v * 10 + d) ∧ (10 : Int32) * nI v + nI (48 + d) - 48 = nI (v * 10 + d) := by
  have a : nI v * 10 + nI (48 + d) - 48 = nI (v * 10 + d) := by
    rw [show (10 : Int32) = nI 10 from rfl, pk_mul, nI_add, show (48 : Int32) = nI 48 from rfl, pk_sub (by omega)]
    congr 1
    omega
  refine ⟨a, ?_⟩
  rw [Int32.mul_comm, a]
def F63 (h h' : pq_H) : Prop := (∀ P k, (P ≠ 63 ∨ k ≠ 2) → rI h' P k = rI h P k) ∧ ∀ P k, rR h' P k = rR h P k
def F12 (h h' : pq_H) : Prop := (∀ P k, (P ≠ 0 ∨ k ≠ 12) → rI h' P k = rI h P k) ∧ ∀ P k, rJ h' P k = rJ h P k
theorem F63.wI {h h' : pq_H} (f : F63 h h') (v : Int32) : F63 h (wI h' 63 2 v) := ⟨fun P k e => by rw [rI_ne (by omega)]; exact f.1 P k e, f.2⟩
theorem F12.wI {h h' : pq_H} (f : F12 h h') (v : Int32) : F12 h (wI h' 0 12 v) := ⟨fun P k e => by rw [rI_ne (by omega)]; exact f.1 P k e, f.2⟩
theorem F63.rf (h : pq_H) : F63 h h := ⟨fun _ _ _ => rfl, fun _ _ => rfl⟩
theorem F12.rf (h : pq_H) : F12 h h := ⟨fun _ _ _ => rfl, fun _ _ => rfl⟩
theorem number2 {m p : Nat} {L : Nat → Int32} {hC hM : pq_H} (hm : m ≤ 72) (hp : p ≤ m) (lc : TPC hC m L) (lm : TPM hM m L) (rC : rR hC 63 1 = some 61) (pC : rI hC 63 2 = nI p) (pM : rI hM 0 12 = nI p) : ∃ v p', v ≤ 999 ∧ p ≤ p' ∧ p' ≤ m ∧ (dg m L p = true ↔ p < p') ∧ ok (f_X2_readNumber hC) (fun r => r.1 = nI v ∧ rI r.2 63 2 = nI p' ∧ F63 hC r.2) ∧ ∀ p1 p2, ∃ hM', f_X11_readsMember p1 p2 hM = f_X11_readsMember_j60 p1 p2 (nI v) (dg m L p) hM' ∧ rI hM' 0 12 = nI p' ∧ F12 hM hM' := by
  obtain ⟨q, q1, q2, q3⟩ := run_ex m L p
  have g : (rR hC 63 1 == some 61) = true := by rw [rC]; rfl
  unfold f_X2_readNumber f_X11_readsMember
  rw [g, gd_t, pC, digitC lc hm (by omega), digitM lm hm (by omega) pM]
  simp only [Option.bind_some]
  by_cases z : dg m L p = true
  case neg =>
    refine ⟨1, p, by omega, by omega, hp, ⟨fun y => absurd y z, fun y => by omega⟩, ?_, fun p1 p2 => ?_⟩
    · rw [if_neg z]
      exact ok_some ⟨rfl, pC, F63.rf _⟩
    · rw [if_neg z]
      exact ⟨hM, rfl, pM, F12.rf _⟩
  have q0 : 1 ≤ q := by
    rcases q3 with h | h
    · omega
    · by_cases y : q = 0
      · subst y
        have h : dg m L p = false := h
        rw [h] at z
        cases z
      · omega
  have pq : p + q ≤ m := by
    have := (dgv_ok (q2 (q - 1) (by omega))).1
    omega
  refine ⟨dvl L p q, p + q, dvl_b q1 q2, by omega, pq, ⟨fun _ => by omega, fun _ => z⟩, ?_, fun p1 p2 => ?_⟩
  · rw [if_pos z]
    refine lp_gen (fun (w : Int32 → Int32 → pq_H → Option (Int32 × pq_H)) (s : Int32 × Int32 × pq_H) => w s.1 s.2.1 s.2.2) (fun j s => s.1 = nI (dvl L p j) ∧ s.2.1 = nI j ∧ rI s.2.2 63 2 = nI (p + j) ∧ F63 hC s.2.2) q ?_ ?_ 1000 0 (0, 0, hC) (by omega) (by omega) ⟨rfl, rfl, pC, F63.rf _⟩
    · intro j s w hj ⟨e1, e2, e3, e4⟩ hw
      obtain ⟨a, b, h⟩ := s
      simp only at e1 e2 e3 e4
      subst e1 e2
      show ok (f_X2_readNumber_l20 w (nI (dvl L p j)) (nI j) h) _
      unfold f_X2_readNumber_l20
      have g' : (rR h 63 1 == some 61) = true := by rw [e4.2, rC]; rfl
      have lc' : TPC h m L := lc.fr (fun P k hP => e4.1 P k (by omega))
      obtain ⟨y1, y2, y3⟩ := dgv_ok (q2 j hj)
      rw [if_neg (show ¬ (3 : Int32) ≤ nI j from nI_ge (b := 3) (by omega) (by omega)), g', gd_t, e3, digitC lc' hm (by omega), Option.bind_some, q2 j hj, if_pos rfl, gd_t, at_ch lc' hm (by omega), Option.bind_some]
      unfold chr
      rw [if_pos y1, y3, dg_step.1, nI_1, nI_1]
      exact hw (_, _, _) ⟨rfl, rfl, rI_same _ _ _ _, e4.wI _⟩
    · intro s w ⟨e1, e2, e3, e4⟩
      obtain ⟨a, b, h⟩ := s
      simp only at e1 e2 e3 e4
      subst e1 e2
      show ok (f_X2_readNumber_l20 w (nI (dvl L p q)) (nI q) h) _
      unfold f_X2_readNumber_l20
      have g' : (rR h 63 1 == some 61) = true := by rw [e4.2, rC]; rfl
      have lc' : TPC h m L := lc.fr (fun P k hP => e4.1 P k (by omega))
      by_cases y : q = 3
      · rw [if_pos (show (3 : Int32) ≤ nI q from le_nIn (a := 3) (by omega) (by omega))]
        exact ok_some ⟨rfl, e3, e4⟩
      · have q4 : dg m L (p + q) = false := by
          rcases q3 with h | h
          · exact absurd h y
          · exact h
        rw [if_neg (show ¬ (3 : Int32) ≤ nI q from nI_ge (b := 3) (by omega) (by omega)), g', gd_t, e3, digitC lc' hm (by omega), Option.bind_some, q4, if_neg (by decide)]
        exact ok_some ⟨rfl, e3, e4⟩
  · rw [if_pos z]
    refine lp_genE (R := fun x => ∃ hM', x = f_X11_readsMember_j60 p1 p2 (nI (dvl L p q)) (dg m L p) hM' ∧ rI hM' 0 12 = nI (p + q) ∧ F12 hM hM') (fun (w : Int32 → Int32 → pq_H → Option (Int32 × pq_H)) (s : Int32 × Int32 × pq_H) => w s.1 s.2.1 s.2.2) (fun j s => s.1 = nI (dvl L p j) ∧ s.2.1 = nI j ∧ rI s.2.2 0 12 = nI (p + j) ∧ F12 hM s.2.2) q ?_ ?_ 1000 0 (0, 0, hM) (by omega) (by omega) ⟨rfl, rfl, pM, F12.rf _⟩
    · intro j s w hj ⟨e1, e2, e3, e4⟩
      obtain ⟨a, b, h⟩ := s
      simp only at e1 e2 e3 e4
      subst e1 e2
      have lm' : TPM h m L := lm.fr (fun P k hP => e4.1 P k (by omega))
      obtain ⟨y1, y2, y3⟩ := dgv_ok (q2 j hj)
      refine ⟨(nI (dvl L p (j + 1)), nI (j + 1), wI h 0 12 (nI (p + j + 1))), ?_, rfl, rfl, rI_same _ _ _ _, e4.wI _⟩
      show f_X11_readsMember_l18 p1 p2 (dg m L p) w (nI (dvl L p j)) (nI j) h = w (nI (dvl L p (j + 1))) (nI (j + 1)) (wI h 0 12 (nI (p + j + 1)))
      unfold f_X11_readsMember_l18
      rw [if_neg (show ¬ (3 : Int32) ≤ nI j from nI_ge (b := 3) (by omega) (by omega)), digitM lm' hm (by omega) e3, Option.bind_some, q2 j hj, if_pos rfl, next_ch lm' hm (by omega) e3, Option.bind_some]
      unfold chr
      rw [if_pos y1, y3, dg_step.2, e3, nI_1, nI_1]
      rfl
    · intro s w ⟨e1, e2, e3, e4⟩
      obtain ⟨a, b, h⟩ := s
      simp only at e1 e2 e3 e4
      subst e1 e2
      have lm' : TPM h m L := lm.fr (fun P k hP => e4.1 P k (by omega))
      refine ⟨h, ?_, e3, e4⟩
      show f_X11_readsMember_l18 p1 p2 (dg m L p) w (nI (dvl L p q)) (nI q) h = _
      unfold f_X11_readsMember_l18
      by_cases y : q = 3
      · rw [if_pos (show (3 : Int32) ≤ nI q from le_nIn (a := 3) (by omega) (by omega))]
      · have q4 : dg m L (p + q) = false := by
          rcases q3 with h | h
          · exact absurd h y
          · exact h
        rw [if_neg (show ¬ (3 : Int32) ≤ nI q from nI_ge (b := 3) (by omega) (by omega)), digitM lm' hm (by omega) e3, Option.bind_some, q4, if_neg (by decide)]
end MEMBER2
