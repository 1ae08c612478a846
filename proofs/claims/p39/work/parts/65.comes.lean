section COMES
variable {h : pq_H} {n : Nat} {Fs : Nat → pF}
theorem St.congr {Gs : Nat → pF} (S : St h n Fs) (e : ∀ f, f < n → Fs f = Gs f) : St h n Gs := ⟨S.1, S.2.1, fun f hf => by rw [← e f hf]; exact S.2.2 f hf⟩
theorem upF_up {Fs : Nat → pF} {k : Nat} {F G : pF} (f : Nat) : upF (upF Fs k F) k G f = upF Fs k G f := by
  unfold upF
  split <;> rfl
/-- a small number -/
def sm1 (v : Int32) : Prop := -50 ≤ v.toInt ∧ v.toInt ≤ 50 + 9
theorem sm1_bd {v : Int32} (s : sm1 v) : -1000000 ≤ v ∧ v ≤ 1000000 := by
  unfold sm1 at s
  refine ⟨Int32.le_iff_toInt_le.mpr ?_, Int32.le_iff_toInt_le.mpr ?_⟩
  · rw [show (-1000000 : Int32).toInt = -1000000 by decide]; omega
  · rw [show (1000000 : Int32).toInt = 1000000 by decide]; omega
theorem sm1_pos {r : Nat} (h : r < 60) : sm1 (nI r) := by
  unfold sm1
  rw [nI_toInt (by omega)]
  omega
theorem sm1_neg : ∀ r, r < 20 → sm1 (-nI r) := by
  intro r hr
  have : ∀ r, r < 20 → (-nI r).toInt = -(r : Int) := by decide +kernel
  unfold sm1
  rw [this r hr]
  omega
theorem small_cf {a b D : Nat} {T : Nat → Int32} (ha : a ≤ 5) (hb : b ≤ 9) (hD : D ≤ 6) (hT : ∀ u, u < tri (D + 1) → sm1 (T u)) : smB 60 (a, b, D, T) := fun t ht => by
  obtain ⟨s, k, hs, hk, rfl⟩ := tri_exD ht
  have hs : s ≤ D := hs
  have e : cfT (a, b, D, T) (tri s + k) = cfV (a, b, D, T) s k := by
    unfold cfT
    rw [skT_eq hk]
  rw [e]
  have q1 := hT (tri (k + (D - s)) + (D - s)) (tri_lt (by omega) (by omega))
  have q2 := hT (tri (s - k + k) + k) (tri_lt (by omega) (by omega))
  have q3 := hT (tri (D - s + (s - k)) + (s - k)) (tri_lt (by omega) (by omega))
  have z : (0 : Int32).toInt = 0 := rfl
  have q4 : (T (tri (s - k + k) + k) - nI b).toInt = (T (tri (s - k + k) + k)).toInt - b := by
    unfold sm1 at q2
    rw [Int32.toInt_sub, nI_toInt (by omega)]
    exact Int.bmod_eq_of_le (by omega) (by omega)
  unfold sm1 at q1 q2 q3
  unfold cfV hasV
  simp only
  split
  · omega
  split
  · split
    · omega
    · rw [z]; omega
  split
  · rw [q4]; omega
  split
  · omega
  split
  · split
    · split
      · omega
      · rw [z]; omega
    · rw [z]; omega
  · omega
def T0 : Nat → Int32 := fun u => if u = 0 then 1 else 0
theorem T0_bd (u : Nat) : bdI (T0 u) := by
  unfold T0
  split
  · exact ⟨by decide, by decide⟩
  · exact ⟨by decide, by decide⟩
/-- the letters are read: one term -/
theorem comes_form {D x : Nat} (hD : D ≤ 3) (S : St h n Fs) (hn : n < 6) (h0 : rI h 61 1 = 0) (hx : x < 16) (h5 : rI h 74 5 = nI x) {Q : Bool × pq_H → Prop} {G : Int32 → pq_H → Option (Bool × pq_H)} (hG : ∀ H, St H (n + 1) (upF Fs n (0, 0, D, T0)) → rI H 61 1 = 0 → Lg H 0 x → ok (G (nI n) H) Q) : ok (if nI D ≤ 0 then (if nI D ≤ 0 then (bd2 (f_X10_letter (48 + (if 1 < nI D then nI D else 1)) h) fun r31 h31 => bd2 (f_X10_form h31) fun r36 h36 => G r36 h36) else (bd2 (f_X10_letter 94 h) fun r18 h18 => bd2 (f_X10_letter (48 + (if 1 < nI D then nI D else 1)) h18) fun r31 h31 => bd2 (f_X10_form h31) fun r36 h36 => G r36 h36)) else (bd2 (f_X10_letter 97 h) fun r7 h7 => if nI D ≤ 0 then (bd2 (f_X10_letter (48 + (if 1 < nI D then nI D else 1)) h7) fun r31 h31 => bd2 (f_X10_form h31) fun r36 h36 => G r36 h36) else (bd2 (f_X10_letter 94 h7) fun r18 h18 => bd2 (f_X10_letter (48 + (if 1 < nI D then nI D else 1)) h18) fun r31 h31 => bd2 (f_X10_form h31) fun r36 h36 => G r36 h36))) Q := by
  have lT : TPC h 0 (fun _ => 0) := ⟨h0, fun i hi => absurd hi (Nat.not_lt_zero _)⟩
  have st : ∀ {H : pq_H}, (∀ P k, P ≠ 61 → P ≠ 62 → rI H P k = rI h P k) → St H n Fs := fun fr => by
    have h6 := S.1
    exact ⟨h6, (fr _ _ (by omega) (by omega)).trans S.2.1, fun f hf => ⟨(S.2.2 f hf).1.fr (fun k => fr _ _ (by omega) (by omega)) (fun k => fr _ _ (by omega) (by omega)), (S.2.2 f hf).2⟩⟩
  have bd28 : ∀ u, u < 28 → bdI (T0 u) := fun u _ => T0_bd u
  by_cases c : D = 0
  · subst c
    rw [if_pos (by decide), if_pos (by decide), show (48 : Int32) + (if 1 < nI 0 then nI 0 else 1) = nI 49 by decide]
    refine ok_bd2 (letter_q (c := 49) lT (by decide) (by decide)) (fun r H ⟨a1, a2, a3⟩ => ?_)
    simp only at a1 a2 a3
    refine ok_bd2 (form_q (D := 0) (T := T0) (st a3) hn (by decide) bd28 (ok_mono (read_one (nl := [nI (48 + 1)]) (la := []) (by decide) hn (by decide) a2 (Or.inr (Or.inl ⟨by decide, rfl⟩)) (Or.inl ⟨rfl, rfl⟩) ⟨by decide, fun i c hi => ?_⟩ rfl (by decide) (by decide)) (fun r hr => hr))) (fun r H2 ⟨b1, b2, b3, b4, b5⟩ => ?_)
    · match i, hi with
      | 0, hi => cases hi; rfl
      | i + 1, hi => cases hi
    · simp only at b1 b2 b3 b4 b5
      subst b1
      exact hG H2 b2 b3 ⟨by omega, hx, b4, b5.trans ((a3 _ _ (by omega) (by omega)).trans h5)⟩
  · have n0 : ¬ nI D ≤ 0 := nle (b := 0) (by omega) (by omega)
    rw [if_neg n0]
    refine ok_bd2 (letter_q (c := 97) lT (by decide) (by decide)) (fun r H1 ⟨a1, a2, a3⟩ => ?_)
    simp only at a1 a2 a3
    rw [if_neg n0]
    refine ok_bd2 (letter_q (c := 94) a2 (by decide) (by decide)) (fun r H2 ⟨d1, d2, d3⟩ => ?_)
    simp only at d1 d2 d3
    have e48 : (48 : Int32) + (if 1 < nI D then nI D else 1) = nI (48 + D) := by
      by_cases y : D = 1
      · subst y; decide
      · rw [if_pos (show (1 : Int32) < nI D from nI_lt (a := 1) (by omega) (by omega))]
        exact nI_add 48 D
    rw [e48]
    refine ok_bd2 (letter_q (c := 48 + D) d2 (by decide) (by omega)) (fun r H3 ⟨g1, g2, g3⟩ => ?_)
    simp only at g1 g2 g3
    have fr : ∀ P k, P ≠ 61 → P ≠ 62 → rI H3 P k = rI h P k := fun P k x y => ((g3 P k x y).trans (d3 P k x y)).trans (a3 P k x y)
    refine ok_bd2 (form_q (D := D) (T := T0) (st fr) hn (by omega) bd28 (ok_mono (read_one (nl := []) (la := [nI (97 + 0), 94, nI (48 + D)]) (by decide) hn (by omega) g2 (Or.inl ⟨rfl, rfl⟩) (Or.inr (Or.inr ⟨by omega, by omega, rfl⟩)) ⟨Nat.le_refl 3, fun i c hi => ?_⟩ rfl (by decide) (fun e => absurd (show nI 97 = 45 from e) (by decide))) (fun r hr => hr))) (fun r H4 ⟨b1, b2, b3, b4, b5⟩ => ?_)
    · match i, hi with
      | 0, hi => cases hi; rfl
      | 1, hi => cases hi; rfl
      | 2, hi => cases hi; rfl
      | i + 3, hi => cases hi
    · simp only at b1 b2 b3 b4 b5
      subst b1
      exact hG H4 b2 b3 ⟨by omega, hx, b4, b5.trans ((fr _ _ (by omega) (by omega)).trans h5)⟩
theorem comes_ok {sc : Nat × (Nat → Int32)} {D x at' : Nat} (hsc : sc.1 ≤ 260) (hat : at' < 100) (hD : D ≤ 3) (S : St h n Fs) (hn : n < 6) (h0 : rI h 61 1 = 0) (hx : x < 16) (h5 : rI h 74 5 = nI x) : ok (f_L_comes sc (nI at') (nI D) h) (fun r => r.1 = true ∧ ∃ F : pF, F.2.2.1 = D ∧ smB 60 F ∧ St r.2 (n + 1) (upF Fs n F) ∧ rI r.2 61 1 = 0 ∧ ∃ y, y < 16 ∧ rI r.2 74 5 = nI y) := by
  unfold f_L_comes f_L_comes_j11 f_L_comes_j22
  refine comes_form (G := fun r36 h36 => if r36 < 0 then (some (false, h36)) else (bd2 (f_X10_of r36 2 h36) fun r61 h61 => if r61 = nI D then (bd2 (f_X10_of r36 3 h61) fun r72 h72 => if r72 = (((nI D + 1) * (nI D + 2)) / 2) then (lp (fun _ _ => none) (f_L_comes_l85 sc (nI at') r36 (((nI D + 1) * (nI D + 2)) / 2)) 1000 0 h72) else (some (false, h72))) else (some (false, h61)))) hD S hn h0 hx h5 (fun H S1 z1 L1 => ?_)
  have eF : ∀ {F : pF}, upF Fs n F n = F := fun {F} => upF_s Fs n F
  have h28 : tri (D + 1) ≤ 10 := tri_mono (show D + 1 ≤ 4 by omega)
  have eT : ((nI D + 1) * (nI D + 2)) / 2 = nI (tri (D + 1)) := termsOf_nI (by omega)
  have o2 := of2_q S1 (show n < n + 1 by omega)
  have o3 := of3_q S1 (show n < n + 1 by omega)
  rw [eF] at o2 o3
  rw [if_neg (nI_pos (by omega)), o2, bd2_some, if_pos rfl, o3, bd2_some, eT, if_pos rfl]
  refine lp_forH (fun i H => ∃ T m y, St H (n + 1) (upF Fs n (0, 0, D, T)) ∧ rI H 61 1 = 0 ∧ Lg H m y ∧ (∀ u, u < i → sm1 (T u)) ∧ ∀ u, i ≤ u → T u = T0 u) (tri (D + 1)) ?_ ?_ 1000 0 H (by omega) (by omega) ⟨T0, 0, x, S1, z1, L1, fun u hu => absurd hu (Nat.not_lt_zero _), fun u _ => rfl⟩
  · intro i H w hi ⟨T, m, y, S2, z2, L2, t1, t2⟩ hw
    unfold f_L_comes_l85
    rw [if_neg (nI_ge hi (by omega)), nI_add]
    obtain ⟨v, ev⟩ := cell_ok hsc (at' + i) (by omega)
    rw [ev, Option.bind_some]
    have go : ∀ u : Int32, sm1 u → ok (f_L_comes_j150 (nI n) w (nI i) u H) (fun r => r.1 = true ∧ ∃ F : pF, F.2.2.1 = D ∧ smB 60 F ∧ St r.2 (n + 1) (upF Fs n F) ∧ rI r.2 61 1 = 0 ∧ ∃ y, y < 16 ∧ rI r.2 74 5 = nI y) := by
      intro u su
      unfold f_L_comes_j150
      have ht : i < tri ((upF Fs n (0, 0, D, T) n).2.2.1 + 1) := by rw [eF]; exact hi
      refine ok_bd2 (change_q S2 (show n < n + 1 by omega) ht L2 (sm1_bd su).1 (sm1_bd su).2) (fun r K ⟨b1, b2, b3, b4, _, _, _, _⟩ => ?_)
      simp only at b1 b2 b3 b4
      rw [eF] at b1 b2
      have b1 : r = T0 i := b1.trans (t2 i (Nat.le_refl _))
      have nx : ok (w (nI (i + 1)) K) (fun r => r.1 = true ∧ ∃ F : pF, F.2.2.1 = D ∧ smB 60 F ∧ St r.2 (n + 1) (upF Fs n F) ∧ rI r.2 61 1 = 0 ∧ ∃ y, y < 16 ∧ rI r.2 74 5 = nI y) := by
        refine hw K ⟨fun u' => if u' = i then u else T u', _, _, b2.congr (fun f _ => upF_up f), (b3 _ _ (by omega) (by omega) (by omega)).trans z2, b4, fun u' hu' => ?_, fun u' hu' => ?_⟩
        · show sm1 (if u' = i then u else T u')
          split
          · exact su
          · exact t1 u' (by omega)
        · show (if u' = i then u else T u') = T0 u'
          rw [if_neg (by omega)]
          exact t2 u' (by omega)
      unfold f_L_comes_j172
      rw [nI_1]
      subst b1
      by_cases c : i = 0
      · subst c
        rw [if_pos (show nI 0 = 0 from rfl), if_pos (show T0 0 = 1 from rfl)]
        exact nx
      · rw [if_neg (show ¬ nI i = 0 from fun x => c ((ieq (b := 0) (by omega) (by decide)).mp x)), if_pos (show T0 i = 0 from if_neg c)]
        exact nx
    obtain ⟨r1, k1, e1⟩ := pick_ok v (m := 4) (by decide) (by decide)
    obtain ⟨r2, k2, e2⟩ := pick_ok (v >>> (2 &&& 31)) (m := 5) (by decide) (by decide)
    obtain ⟨r3, k3, e3⟩ := pick_ok (v >>> (6 &&& 31)) (m := 20) (by decide) (by decide)
    obtain ⟨r4, k4, e4⟩ := pick_ok (v >>> (6 &&& 31)) (m := 60) (by decide) (by decide)
    rw [show (4 : Int32) = nI 4 from rfl, e1, Option.bind_some]
    refine ok_ite (fun _ => go 0 (sm1_pos (r := 0) (by decide))) (fun _ => ?_)
    rw [show (5 : Int32) = nI 5 from rfl, e2, Option.bind_some]
    refine ok_ite (fun _ => ?_) (fun _ => ?_)
    · rw [show (20 : Int32) = nI 20 from rfl, e3, Option.bind_some]
      exact go _ (sm1_neg r3 k3)
    · rw [show (60 : Int32) = nI 60 from rfl, e4, Option.bind_some]
      exact go _ (sm1_pos k4)
  · intro H w ⟨T, m, y, S2, z2, L2, t1, t2⟩
    unfold f_L_comes_l85
    rw [if_pos (le_nIn (Nat.le_refl _) (by omega))]
    unfold f_L_comes_j183
    obtain ⟨v, ev⟩ := cell_ok hsc at' (by omega)
    obtain ⟨r1, k1, e1⟩ := pick_ok (v >>> (20 &&& 31)) (m := 3) (by decide) (by decide)
    obtain ⟨r2, k2, e2⟩ := pick_ok (v >>> (22 &&& 31)) (m := 6) (by decide) (by decide)
    obtain ⟨r3, k3, e3⟩ := pick_ok (v >>> (26 &&& 31)) (m := 10) (by decide) (by decide)
    have go : ∀ a, a < 6 → ok (f_L_comes_j218 sc (nI at') (nI n) (nI a) H) (fun r => r.1 = true ∧ ∃ F : pF, F.2.2.1 = D ∧ smB 60 F ∧ St r.2 (n + 1) (upF Fs n F) ∧ rI r.2 61 1 = 0 ∧ ∃ y, y < 16 ∧ rI r.2 74 5 = nI y) := by
      intro a ha
      unfold f_L_comes_j218
      rw [ev, Option.bind_some, show (10 : Int32) = nI 10 from rfl, e3, Option.bind_some]
      refine ok_bd2 (turn_q S2 (show n < n + 1 by omega) L2 ha (show r3 ≤ 9 by omega)) (fun r K ⟨b1, b2, b3, b4, _, _, _, _, _⟩ => ?_)
      simp only at b1 b2 b3 b4
      rw [eF] at b1 b2
      rw [if_pos (show r = 0 from b1)]
      exact ok_some ⟨rfl, (a, r3, D, T), rfl, small_cf (by omega) (by omega) (by omega) t1, b2.congr (fun f _ => upF_up f), (b3 _ _ (by omega) (by omega) (by omega)).trans z2, _, b4.2.1, b4.2.2.2⟩
    rw [ev, Option.bind_some, show (3 : Int32) = nI 3 from rfl, e1, Option.bind_some]
    refine ok_ite (fun _ => ?_) (fun _ => go 0 (by decide))
    rw [Option.bind_some, show (6 : Int32) = nI 6 from rfl, e2, Option.bind_some]
    exact go r2 k2
end COMES
