section ACTS
theorem GC.tr {a b c : pq_H} (h1 : GC a b) (h2 : GC b c) : GC a c := ⟨fun P k h => (h2.1 P k h).trans (h1.1 P k h), fun P k => (h2.2 P k).trans (h1.2 P k)⟩
theorem GM.tr {a b c : pq_H} (h1 : GM a b) (h2 : GM b c) : GM a c := fun P k h h' => (h2 P k h h').trans (h1 P k h h')
def RQ (m : Nat) (B B' : pq_H) (a : Int32 × pq_H) (b : Bool × pq_H) : Prop := GC B a.2 ∧ GM B' b.2 ∧ ∃ p', p' ≤ m ∧ rI b.2 0 12 = nI p' ∧ ((a.1 = nI p' ∧ b.1 = false) ∨ (a.1 = -1 ∧ b.1 = true ∧ ∃ s, s ≤ 9 ∧ rI a.2 65 4 = nI s ∧ rI b.2 0 18 = nI s ∧ AJ s a.2 b.2))
theorem lateM {m : Nat} {L : Nat → Int32} {hM : pq_H} (hm : m ≤ 72) (lm : TPM hM m L) (pM : rI hM 0 12 = nI m) : ok (f_X11_readsAct hM) (fun b => b.1 = false ∧ GM hM b.2 ∧ rI b.2 0 12 = nI m) := by
  obtain ⟨⟨w0, M1⟩, em, f1, wm⟩ := wordM lm hm pM (Nat.le_refl m) (Nat.le_refl m) (fun i h1 h2 => by omega) (b2n (fun y => by have := small_lt y; omega))
  simp only at f1 wm
  unfold f_X11_readsAct
  rw [em, bd2_some]
  rcases wm with ⟨w, hw, ew, el, rfl, pM1⟩ | ⟨ew, rfl, pM1⟩
  · exfalso
    have : 3 ≤ (twd w).length := by
      have : w = 0 ∨ w = 1 ∨ w = 2 ∨ w = 3 ∨ w = 4 := by omega
      rcases this with rfl | rfl | rfl | rfl | rfl <;> decide
    omega
  · rw [if_neg (by decide)]
    exact ok_some ⟨rfl, fun P k x y => f1.1 P k (by omega), pM1⟩
theorem reads2 {m : Nat} {L : Nat → Int32} {B B' : pq_H} (zC : pq_H → Option (Int32 × pq_H)) (zM : Bool → pq_H → Option (Bool × pq_H)) (hm : m ≤ 72) : ∀ (N p s : Nat) (hC hM : pq_H), p ≤ m → 8 * s ≤ p → TPC hC m L → TPM hM m L → rR hC 65 5 = some 61 → rI hC 65 6 = nI p → rI hM 0 12 = nI p → rI hC 65 4 = nI s → rI hM 0 18 = nI s → AJ s hC hM → GC B hC → GM B' hM → m - p < N → ok2 (lp zC f_X0_read_l15 N hC) (bd2 (f_X11_readsAct hM) fun r h => lp zM f_X11_readsActs_l15 N r h) (RQ m B B') := by
  intro N
  induction N with
  | zero => intro p s hC hM h1; omega
  | succ N ih =>
    intro p s hC hM hp hsp lc lm rC pC pM sC sM aj gc gm hN
    rw [lp_s, lp_s]
    unfold f_X0_read_l15 f_X0_read_j96
    rw [sC]
    by_cases z : s < 9
    case neg =>
      have e : p = m := by omega
      subst e
      obtain ⟨⟨b, M1⟩, em, rfl, g, k⟩ := lateM hm lm pM
      rw [if_pos (show (9 : Int32) ≤ nI s from le_nIn (a := 9) (by omega) (by omega)), em, bd2_some, pC]
      unfold f_X11_readsActs_l15 f_X11_readsActs_j46
      rw [if_neg (by decide), if_neg (by decide)]
      exact ok2_some ⟨gc, gm.tr g, p, by omega, k, Or.inl ⟨rfl, rfl⟩⟩
    rw [if_neg (show ¬ (9 : Int32) ≤ nI s from nI_ge (b := 9) z (by omega))]
    refine ok2_bd2 (act2 hm hp z lc lm rC pC pM sC sM aj) (fun a C1 b M1 ⟨q1, q2, q3, p', q4, q5, q6, q7, q8⟩ => ?_)
    simp only at q1 q2 q3 q6 q7 q8
    subst q1
    have lc1 : TPC C1 m L := lc.fr (fun P k hP => q2.1 P k (by omega))
    have lm1 : TPM M1 m L := lm.fr (fun P k hP => q3 P k (by omega) (by omega))
    have rC1 : rR C1 65 5 = some 61 := (q2.2 _ _).trans rC
    have g1 : (rR C1 65 5 == some 61) = true := by rw [rC1]; rfl
    unfold f_X0_read_j31 f_X0_read_j78 f_X11_readsActs_l15 f_X11_readsActs_j46
    by_cases y : a = true
    case neg =>
      rw [if_neg y, if_neg y, if_neg y, q6]
      exact ok2_some ⟨gc.tr q2, gm.tr q3, p', q5, q7, Or.inl ⟨rfl, rfl⟩⟩
    obtain ⟨t1, t2, t3, t4⟩ := q8 y
    subst y
    rw [if_pos rfl, if_pos rfl, if_pos rfl, t2, nI_1, hl_d (wI C1 65 4 (nI (s + 1)))]
    generalize hC2 : wI C1 65 4 (nI (s + 1)) = C2
    have lc2 : TPC C2 m L := by rw [← hC2]; exact lc1.wI _ _ _ (by omega)
    have rC2 : rR C2 65 5 = some 61 := by rw [← hC2]; exact rC1
    have pC2 : rI C2 65 6 = nI p' := by rw [← hC2, rI_ne (by omega)]; exact q6
    have sC2 : rI C2 65 4 = nI (s + 1) := by rw [← hC2, rI_same]
    have gc2 : GC B C2 := gc.tr (q2.tr (by rw [← hC2]; exact ⟨fun P k h => rI_ne (by omega), fun _ _ => rfl⟩))
    have aj2 : AJ (s + 1) C2 M1 := by
      rw [← hC2]
      intro j hj
      obtain ⟨w, x, y, q, a1, a2, a3, a4, a5, a6, a7, a8, a9⟩ := t4 j hj
      exact ⟨w, x, y, q, a1, a2, a3, a4, (rI_ne (by omega)).trans a5, (rI_ne (by omega)).trans a6, (rI_ne (by omega)).trans a7, (rI_ne (by omega)).trans a8, a9⟩
    clear hC2
    have g2 : (rR C2 65 5 == some 61) = true := by rw [rC2]; rfl
    rw [g2, gd_t, gd_t, pC2, lc2.1, next_ch lm1 hm (by omega) q7, Option.bind_some]
    by_cases u : p' < m
    case neg =>
      have e : p' = m := by omega
      subst e
      have cm : chr p' L (-9) p' = -9 := by unfold chr; rw [if_neg (by omega)]
      rw [if_neg (nI_nlt (by omega) (by omega)), cm, if_neg (by decide), q7, lm1.1, if_pos rfl]
      exact ok2_some ⟨gc2, gm.tr q3, p', by omega, q7, Or.inr ⟨rfl, rfl, s + 1, by omega, sC2, t3, aj2⟩⟩
    have cC : ∀ e, chr m L e p' = L p' := fun e => by unfold chr; rw [if_pos u]
    rw [if_pos (nI_lt u (by omega)), at_ch lc2 hm (by omega), Option.bind_some, cC, cC]
    by_cases v : L p' = 59
    case neg =>
      rw [if_neg v, if_neg v, q7, lm1.1, if_neg (fun x => by have := (ieq (by omega) (by omega)).mp x; omega)]
      exact ok2_some ⟨gc2, gm.tr q3, p', by omega, q7, Or.inl ⟨rfl, rfl⟩⟩
    rw [if_pos v, if_pos v, q7, nI_1, hl_d (wI M1 0 12 (nI (p' + 1)))]
    refine ih (p' + 1) (s + 1) _ _ (by omega) (by omega) (lc2.wI _ _ _ (by omega)) (lm1.wI _ _ _ (by omega)) rC2 (rI_same _ _ _ _) (rI_same _ _ _ _) ?_ ?_ (fun j hj => ?_) (gc2.tr ⟨fun P k h => rI_ne (by omega), fun _ _ => rfl⟩) ((gm.tr q3).tr (fun P k h h' => rI_ne (by omega))) (by omega)
    · rw [rI_ne (by omega)]; exact sC2
    · rw [rI_ne (by omega)]; exact t3
    · obtain ⟨w, x, y, q, a1, a2, a3, a4, a5, a6, a7, a8, a9, a10, a11, a12⟩ := aj2 j hj
      exact ⟨w, x, y, q, a1, a2, a3, a4, (rI_ne (by omega)).trans a5, (rI_ne (by omega)).trans a6, (rI_ne (by omega)).trans a7, (rI_ne (by omega)).trans a8, (rI_ne (by omega)).trans a9, (rI_ne (by omega)).trans a10, (rI_ne (by omega)).trans a11, (rI_ne (by omega)).trans a12⟩
/-- one act done -/
def DO (k n : Nat) (hC hM : pq_H) (x : Option (Bool × pq_H)) (y : Option (Int32 × pq_H)) : Prop := (∃ a b v, x = some (true, a) ∧ y = some (v, b) ∧ ¬ v < 0 ∧ InvG (k + 1) n a b ∧ AF hC a hM b) ∨ (∃ a b v, x = some (false, a) ∧ y = some (v, b) ∧ v < 0 ∧ InvG k n a b ∧ AF hC a hM b)
theorem DO.of {k n : Nat} {hC hM : pq_H} {x : Option (Bool × pq_H)} {y : Option (Int32 × pq_H)} (h : brg k n hC hM x y) : DO k n hC hM x y := by
  rcases h with ⟨a, b, e1, e2, hk, i, f⟩ | ⟨a, b, e1, e2, i, f⟩
  · exact Or.inl ⟨a, b, nI k, e1, e2, nI_pos (by omega), i, f⟩
  · exact Or.inr ⟨a, b, -6, e1, e2, by decide, i, f⟩
theorem DO.no {k n : Nat} {hC hM : pq_H} {v : Int32} (h : v < 0) (i : InvG k n hC hM) : DO k n hC hM (some (false, hC)) (some (v, hM)) := Or.inr ⟨hC, hM, v, rfl, rfl, h, i, AF.rf hC hM⟩
theorem bd2_b (x : Option (Bool × pq_H)) : (bd2 x fun r h => if r = true then some (true, h) else some (false, h)) = x := by
  rcases x with _ | ⟨b, h⟩
  · rfl
  · cases b <;> rfl
theorem do2 {k n j : Nat} {hC hM : pq_H} (i : InvG k n hC hM) (hj : j < 9) {w x y : Nat} (hw : w < 5) (hx : x ≤ 9) (hy : y ≤ 9) (e1 : rI hM 11 j = nI w) (e2 : rI hM 13 j = nI x) (e3 : rI hM 14 j = nI y) : DO k n hC hM (f_X6_performOne (nI w) (nI x) (nI y) hC) (f_X11_does (nI j) hM) := by
  have i1 := i.1
  have ew : ∀ c, c < 10 → (nI w = nI c ↔ w = c) := fun c hc => ieq (by omega) (by omega)
  unfold f_X6_performOne f_X11_does
  rw [inbN (show j < 16 by omega) (by decide), nI_clamp (by omega), e1, e2, e3]
  simp only [gd_t, bd2_id, bd2_b]
  rcases form_cases i1 (nI x) with ⟨a, b⟩ | ⟨f, hf, hf6, ef, a, b, F, c1, c2, c3⟩
  · rw [if_pos a, if_neg (Bf b)]
    exact DO.no (by decide) i
  rw [if_neg (Bf a), if_pos b]
  have hd1 := c3.2.2.1
  by_cases w0 : w = 0
  · subst w0
    rw [if_pos (show nI 0 = 0 from rfl), if_pos (show nI 0 = 0 from rfl)]
    rcases form_cases i1 (nI y) with ⟨a, b⟩ | ⟨f', hf', hf6', ef', a, b, F', d1, d2, d3⟩
    · rw [if_pos a, if_neg (Bf b)]
      exact DO.no (by decide) i
    have hd2 := d3.2.2.1
    rw [if_neg (Bf a), if_pos b, ef, ef', inbN hf6 (by decide), inbN hf6' (by decide), gd_t, gd_t, nI_clamp (by omega), nI_clamp (by omega), c2.2.2.1, d2.2.2.1]
    by_cases q : F.2.2.1 = F'.2.2.1
    · rw [if_pos (by rw [q])]
      exact DO.of (sum2 i hf6 hf6' q.symm c1 c2 c3 d1 d2 d3)
    · rw [if_neg (fun z => q ((ieq (by omega) (by omega)).mp z))]
      unfold f_X6_bringSum
      rw [inbN hf6 (by decide), inbN hf6' (by decide), gd_t, gd_t, nI_clamp (by omega), nI_clamp (by omega), c1.2.2.1, d1.2.2.1, if_neg (fun z => q ((ieq (by omega) (by omega)).mp z))]
      exact DO.no (by decide) i
  rw [if_neg (show ¬ nI w = 0 from fun z => w0 ((ew 0 (by omega)).mp z)), if_neg (show ¬ nI w = 0 from fun z => w0 ((ew 0 (by omega)).mp z))]
  by_cases w1 : w = 1
  · subst w1
    rw [if_pos (show nI 1 = 1 from rfl), if_pos (show nI 1 = 1 from rfl)]
    rcases form_cases i1 (nI y) with ⟨a, b⟩ | ⟨f', hf', hf6', ef', a, b, F', d1, d2, d3⟩
    · rw [if_pos a, if_neg (Bf b)]
      exact DO.no (by decide) i
    rw [if_neg (Bf a), if_pos b, ef, ef']
    exact DO.of (product2 i hf6 hf6' c1 c2 c3 d1 d2 d3)
  rw [if_neg (show ¬ nI w = 1 from fun z => w1 ((ew 1 (by omega)).mp z)), if_neg (show ¬ nI w = 1 from fun z => w1 ((ew 1 (by omega)).mp z))]
  by_cases w2 : w = 2
  · subst w2
    rw [if_pos (show nI 2 = 2 from rfl), if_pos (show nI 2 = 2 from rfl), ef]
    by_cases q : y ≤ 6
    · rw [if_pos (show nI y ≤ 6 from le_nIn (b := 6) q (by omega))]
      exact DO.of (lift2 i hf6 q c1 c2 c3)
    · rw [if_neg (show ¬ nI y ≤ 6 from nI_ge (a := 6) (by omega) (by omega))]
      unfold f_X6_bringLift
      rw [if_neg (show ¬ nI y ≤ 6 from nI_ge (a := 6) (by omega) (by omega))]
      exact DO.no (by decide) i
  rw [if_neg (show ¬ nI w = 2 from fun z => w2 ((ew 2 (by omega)).mp z)), if_neg (show ¬ nI w = 2 from fun z => w2 ((ew 2 (by omega)).mp z))]
  by_cases w3 : w = 3
  · subst w3
    rw [if_pos (show nI 3 = 3 from rfl), if_pos (show nI 3 = 3 from rfl), ef]
    exact DO.of (negative2 i hf6 c1 c2 c3)
  rw [if_neg (show ¬ nI w = 3 from fun z => w3 ((ew 3 (by omega)).mp z)), if_neg (show ¬ nI w = 3 from fun z => w3 ((ew 3 (by omega)).mp z))]
  obtain rfl : w = 4 := by omega
  rw [if_pos (show nI 4 = 4 from rfl)]
  rcases side_cases (nI y) with ⟨a, b⟩ | ⟨g, g1, g2, eg, a, b⟩
  · rw [if_neg (Bf a), if_neg (Bf b)]
    exact DO.no (by decide) i
  · rw [if_pos a, if_pos b, ef, eg]
    exact DO.of (on2 i hf6 g1 g2 c1 c2 c3)
end ACTS
