section LOOKS
variable {hC hM : pq_H}
theorem body_ok {h0 h : pq_H} {F : pF} {f g n t s k : Nat} {q v5 : Int32} {w : Int32 → pq_H → Option (Int32 × pq_H)} {Q : Int32 × pq_H → Prop} (hF : FormM h0 f F) (hk : okF F) (hf : f < 6) (h1 : 1 ≤ g) (h2 : g ≤ 7) (hn : n ≤ 12) (hs : s ≤ n) (hks : k ≤ s) (ht : t = tri s + k) (hp : pos h n s k) (hL : LK F g n q h0 t v5 h)
    (hw : ∀ v' h' s' k', s' ≤ n → k' ≤ s' → t + 1 = tri s' + k' → pos h' n s' k' → LK F g n q h0 (t + 1) v' h' → ok (w v' h') Q)
    (he : ∀ v' h', t + 1 = tri (n + 1) → LK F g n q h0 (t + 1) v' h' → Q (v', h')) : ok (f_X11_looks_l19 (nI f) (nI g) (nI n) q w v5 h) Q := by
  have hb := plc_b (g := g) hn
  -- behind the point: to the next
  have nx : ∀ (v' : Int32) (h' : pq_H), pos h' n s k → LK F g n q h0 (t + 1) v' h' → ok (f_X11_looks_j144 (nI n) w v' h') Q := by
    intro v' h' hp' hL'
    unfold f_X11_looks_j144
    obtain ⟨b, h3, e, d1, d2, d3⟩ := next_ok hn hs hks hp'
    rw [e, bd2_some]
    obtain ⟨c, l1, l2, l3, l4, l5, l6⟩ := hL'
    have L3 : LK F g n q h0 (t + 1) v' h3 := ⟨c, l1, ⟨fun p hp k => (d1 p k (by omega)).trans (l2.1 p hp k), (d1 _ _ (by omega)).trans l2.2.1, (d1 _ _ (by omega)).trans l2.2.2.1, (d1 _ _ (by omega)).trans l2.2.2.2.1, (d1 _ _ (by omega)).trans l2.2.2.2.2.1, (d1 _ _ (by omega)).trans l2.2.2.2.2.2⟩, (d1 _ _ (by omega)).trans l3, (d1 _ _ (by omega)).trans l4, l5, fun z => by rw [d1 0 27 (by omega), d2 0 28]; exact l6 z⟩
    rcases d3 with ⟨rfl, ⟨c1, c2⟩ | ⟨c1, c2, c3⟩⟩ | ⟨rfl, c1, c2⟩
    · rw [if_pos rfl]
      exact hw v' h3 s (k + 1) hs (by omega) (by omega) c2 L3
    · rw [if_pos rfl]
      exact hw v' h3 (s + 1) 0 (by omega) (by omega) (by rw [tri_succ]; omega) c3 L3
    · rw [if_neg (by decide)]
      refine ok_some (he v' h3 ?_ L3)
      rw [tri_succ, ← c2]
      omega
  obtain ⟨c, l1, l2, l3, l4, l5, l6⟩ := hL
  have hc : c ≤ 91 := Nat.le_trans l1.1 hb
  unfold f_X11_looks_l19
  rw [onPt_ok h2 hn hs hks hp]
  by_cases o : onS g n s k = true
  case neg =>
    rw [if_neg o]
    refine nx v5 h hp ⟨c, ?_, l2, l3, l4, l5, l6⟩
    rw [ht] at l1 ⊢
    exact CN_off h1 h2 hks o l1
  rw [ht] at l1
  obtain ⟨b1, b2, b3⟩ := CN_on h1 h2 hs hks o l1
  rw [← ht] at b3
  have ev : valF F (nI (n - s)) (nI (s - k)) (nI k) = pv F g n c := by
    unfold pv
    rw [b2, ptV_eq hks]
  obtain ⟨p1, p2, p3⟩ := id hp
  rw [if_pos o, valueAt_ok (hF.frM l2) hk hf, Option.bind_some, p1, p2, p3, show smT (vtW (cfW F) F.2.2.1 (nI (n - s)).toInt64 (nI (s - k)).toInt64 (nI k).toInt64) (tri (F.2.2.1 + 1)) = pv F g n c from ev, l3]
  obtain ⟨val, evl⟩ : ∃ v, v = pv F g n c := ⟨_, rfl⟩
  rw [← evl]
  have ea : abv F g n (c + 1) = abv F g n c + (if decide (0 < pv F g n c) = true then 1 else 0) := rfl
  have st := fstN_step (by omega) l5
  -- j134: one point more
  have f134 : ∀ (v' : Int32) (h' : pq_H), pos h' n s k → frM h0 h' → rI h' 0 25 = nI c → rI h' 0 26 = nI (abv F g n (c + 1)) → fstN (fun p => f_X10_fails (pv F g n p) q) (c + 1) v' → LO F g n (c + 1) (rI h' 0 27) (rJ h' 0 28) → ok (f_X11_looks_j134 (nI n) w v' h') Q := by
    intro v' h' x1 x2 x3 x4 x5 x6
    unfold f_X11_looks_j134
    rw [x3, nI_1]
    refine nx _ _ ⟨?_, ?_, ?_⟩ ⟨c + 1, b3, x2.tr (frM.wI _ _ _ _ (by omega)), rI_same _ _ _ _, ?_, x5, fun _ => ?_⟩
    · rw [rI_ne (by omega)]; exact x1.1
    · rw [rI_ne (by omega)]; exact x1.2.1
    · rw [rI_ne (by omega)]; exact x1.2.2
    · rw [rI_ne (by omega)]; exact x4
    · rw [rI_ne (by omega), rJ_wI]; exact x6
  -- j97: what is above, what fails
  have f97 : ∀ (h' : pq_H) (a : Int32), pos h' n s k → frM h0 h' → rI h' 0 25 = nI c → rI h' 0 26 = nI (abv F g n c) → nI (abv F g n c) + a = nI (abv F g n (c + 1)) → LO F g n (c + 1) (rI h' 0 27) (rJ h' 0 28) → ok (f_X11_looks_j97 (nI n) q w v5 val (nI (abv F g n c)) a h') Q := by
    intro h' a x1 x2 x3 x4 x5 x6
    unfold f_X11_looks_j97 f_X11_looks_j128
    rw [hl_d, x5]
    have y1 : pos (wI h' 0 26 (nI (abv F g n (c + 1)))) n s k := ⟨by rw [rI_ne (by omega)]; exact x1.1, by rw [rI_ne (by omega)]; exact x1.2.1, by rw [rI_ne (by omega)]; exact x1.2.2⟩
    have y2 : frM h0 (wI h' 0 26 (nI (abv F g n (c + 1)))) := x2.tr (frM.wI _ _ _ _ (by omega))
    have y3 : rI (wI h' 0 26 (nI (abv F g n (c + 1)))) 0 25 = nI c := by rw [rI_ne (by omega)]; exact x3
    have y6 : LO F g n (c + 1) (rI (wI h' 0 26 (nI (abv F g n (c + 1)))) 0 27) (rJ (wI h' 0 26 (nI (abv F g n (c + 1)))) 0 28) := by rw [rI_ne (by omega), rJ_wI]; exact x6
    have go := fun v' x => f134 v' _ y1 y2 y3 (rI_same _ _ _ _) x y6
    by_cases z : 0 ≤ v5
    · rw [if_pos z]
      exact go v5 (st.1 z)
    rw [if_neg z, y3]
    have e0 : f_X10_fails (pv F g n c) q = if q = 0 then (if 0 ≤ pv F g n c then false else true) else (if 0 < pv F g n c then false else true) := rfl
    rw [← evl] at e0
    have s0 := (st.2 z).1
    have s1 := (st.2 z).2
    simp only [← evl] at s0 s1
    by_cases hq : q = 0
    · rw [if_pos hq]
      rw [if_pos hq] at e0
      by_cases r : 0 ≤ val
      · rw [if_pos r]; rw [if_pos r] at e0; exact go v5 (s0 e0)
      · rw [if_neg r]; rw [if_neg r] at e0; exact go (nI c) (s1 e0)
    · rw [if_neg hq]
      rw [if_neg hq] at e0
      by_cases r : 0 < val
      · rw [if_pos r]; rw [if_pos r] at e0; exact go v5 (s0 e0)
      · rw [if_neg r]; rw [if_neg r] at e0; exact go (nI c) (s1 e0)
  have f80 : ∀ (h' : pq_H), pos h' n s k → frM h0 h' → rI h' 0 25 = nI c → rI h' 0 26 = nI (abv F g n c) → LO F g n (c + 1) (rI h' 0 27) (rJ h' 0 28) → ok (f_X11_looks_j80 (nI n) q w v5 val h') Q := by
    intro h' x1 x2 x3 x4 x6
    unfold f_X11_looks_j80
    rw [x4]
    rw [← evl] at ea
    by_cases z : val ≤ 0
    · rw [if_pos z]
      refine f97 h' 0 x1 x2 x3 x4 ?_ x6
      rw [ea, if_neg (by simp [Int64.not_lt.mpr z]), Int32.add_zero]
      rfl
    · rw [if_neg z]
      refine f97 h' 1 x1 x2 x3 x4 ?_ x6
      rw [ea, if_pos (by simp [Int64.not_le.mp z]), nI_1]
  have f66 : (c = 0 ∨ (LO F g n c (rI h 0 27) (rJ h 0 28) ∧ ¬ rJ h 0 28 ≤ pv F g n c)) → ok (f_X11_looks_j66 (nI n) q w v5 val h) Q := by
    intro z
    unfold f_X11_looks_j66
    rw [hl_d, rI_wJ, l3]
    refine f80 _ ⟨?_, ?_, ?_⟩ (l2.tr ((frM.wJ _ _ _ _).tr (frM.wI _ _ _ _ (by omega)))) ?_ ?_ ?_
    · rw [rI_ne (by omega)]; exact p1
    · rw [rI_ne (by omega)]; exact p2
    · rw [rI_ne (by omega)]; exact p3
    · rw [rI_ne (by omega)]; exact l3
    · rw [rI_ne (by omega)]; exact l4
    · rw [rI_same, rJ_wI, rJ_same, evl]
      exact LO_new z
  by_cases z : c = 0
  · rw [if_pos (by rw [z]; decide)]
    exact f66 (Or.inl z)
  · rw [if_neg (nI_ne0 (by omega) (by omega))]
    have l7 := l6 (by omega)
    by_cases y : rJ h 0 28 ≤ val
    · rw [if_pos y]
      rw [evl] at y
      exact f80 h hp l2 l3 l4 (LO_keep l7 y)
    · rw [if_neg y]
      rw [evl] at y
      exact f66 (Or.inr ⟨l7, y⟩)
theorem looks_ok {h : pq_H} {F : pF} {f g n : Nat} {q : Int32} (hF : FormM h f F) (hk : okF F) (hf : f < 6) (h1 : 1 ≤ g) (h2 : g ≤ 7) (hn : n ≤ 12) (hp : 0 < plc g n) : ok (f_X11_looks (nI f) (nI g) (nI n) q h) (fun r => frM h r.2 ∧ rI r.2 0 25 = nI (plc g n) ∧ rI r.2 0 26 = nI (abv F g n (plc g n)) ∧ FP F g q n r.1 ∧ LO F g n (plc g n) (rI r.2 0 27) (rJ r.2 0 28)) := by
  have hb : tri (n + 1) ≤ 91 := tri_mono (show n + 1 ≤ 13 by omega)
  have hb0 : 1 ≤ tri (n + 1) := tri_mono (show 1 ≤ n + 1 by omega)
  have fin : ∀ v' h', LK F g n q h (tri (n + 1)) v' h' → frM h h' ∧ rI h' 0 25 = nI (plc g n) ∧ rI h' 0 26 = nI (abv F g n (plc g n)) ∧ FP F g q n v' ∧ LO F g n (plc g n) (rI h' 0 27) (rJ h' 0 28) := by
    intro v' h' ⟨c, l1, l2, l3, l4, l5, l6⟩
    have e := CN_end h1 h2 l1
    subst e
    exact ⟨l2, l3, l4, l5, l6 hp⟩
  unfold f_X11_looks f_X11_firstPoint
  rw [hl_d, hl_d, hl_d, hl_d, Option.bind_some]
  obtain ⟨H, hH⟩ : ∃ H, H = wI (wI (wI (wI (wI h 0 25 0) 0 26 0) 0 22 (nI n)) 0 23 0) 0 24 0 := ⟨_, rfl⟩
  rw [← hH]
  refine lp_gen (fun (w : Int32 → pq_H → Option (Int32 × pq_H)) (s : Int32 × pq_H) => w s.1 s.2) (fun t x => ∃ s k, s ≤ n ∧ k ≤ s ∧ t = tri s + k ∧ pos x.2 n s k ∧ LK F g n q h t x.1 x.2) (tri (n + 1) - 1) ?_ ?_ 1000 0 (-9, H) (by omega) (by omega) ⟨0, 0, by omega, by omega, rfl, ⟨?_, ?_, ?_⟩, 0, CN_0 g n, ?_, ?_, ?_, Or.inr ⟨fun d hd => by omega, rfl⟩, fun z => by omega⟩
  · intro t x w ht ⟨s, k, a1, a2, a3, a4, a5⟩ hw
    refine body_ok hF hk hf h1 h2 hn a1 a2 a3 a4 a5 (fun v' h' s' k' c1 c2 c3 c4 c5 => hw (v', h') ⟨s', k', c1, c2, c3, c4, c5⟩) (fun v' h' c1 c2 => ?_)
    omega
  · intro x w ⟨s, k, a1, a2, a3, a4, a5⟩
    refine body_ok hF hk hf h1 h2 hn a1 a2 a3 a4 a5 (fun v' h' s' k' c1 c2 c3 c4 c5 => ?_) (fun v' h' c1 c2 => ?_)
    · have := tri_lt (show s' < n + 1 by omega) c2
      omega
    · rw [c1] at c2
      exact fin v' h' c2
  · show rI H 0 22 = _
    rw [hH, rI_ne (by omega), rI_ne (by omega), rI_same]; rfl
  · show rI H 0 23 = _
    rw [hH, rI_ne (by omega), rI_same]; rfl
  · show rI H 0 24 = _
    rw [hH, rI_same]; rfl
  · show frM h H
    rw [hH]
    exact ((((frM.wI _ _ _ _ (by omega)).tr (frM.wI _ _ _ _ (by omega))).tr (frM.wI _ _ _ _ (by omega))).tr (frM.wI _ _ _ _ (by omega))).tr (frM.wI _ _ _ _ (by omega))
  · show rI H 0 25 = _
    rw [hH, rI_ne (by omega), rI_ne (by omega), rI_ne (by omega), rI_ne (by omega), rI_same]; rfl
  · show rI H 0 26 = _
    rw [hH, rI_ne (by omega), rI_ne (by omega), rI_ne (by omega), rI_same]; rfl
theorem plc_pos {g n : Nat} : 0 < plc g n := by
  have h : 1 ≤ tri (n + 1) := tri_mono (show 1 ≤ n + 1 by omega)
  unfold plc
  split
  · omega
  split <;> omega
theorem neg9 {r : Int32} {g : Nat → Bool} {N : Nat} (hN : N < 100000) (h : fstN g N r) : (r < 0 ↔ r = -9) := by
  rcases fstN_none hN h with ⟨a, b⟩ | ⟨a, b, c⟩
  · rw [a]; decide
  · exact ⟨fun z => absurd b (Int32.not_le.mpr z), fun z => absurd z a⟩
theorem failsAt_ok {h : pq_H} {F : pF} {f g : Nat} {q p4 : Int32} (hF : FormM h f F) (hk : okF F) (hf : f < 6) (h1 : 1 ≤ g) (h2 : g ≤ 7) : ok (f_X11_failsAt (nI f) (nI g) q p4 h) (fun r => frM h r.2 ∧ FS F g q p4 r.1) := by
  unfold f_X11_failsAt
  refine lp_forH (fun i h' => 1 ≤ i ∧ frM h h' ∧ ∀ j, 1 ≤ j → j < i → FP F g q j (-9)) 13 ?_ ?_ 1000 1 h (by omega) (by omega) ⟨by omega, frM.rf h, fun j h1 h2 => by omega⟩
  · intro i h' w hi ⟨a1, a2, a3⟩ hw
    have hb := plc_b (g := g) (show i ≤ 12 by omega)
    unfold f_X11_failsAt_l3 f_X11_failsAt_j26
    rw [if_neg (show ¬ (12 : Int32) < nI i from nI_nlt (a := 12) (by omega) (by omega))]
    refine ok_bd2 (looks_ok (hF.frM a2) hk hf h1 h2 (by omega) plc_pos) (fun r h3 ⟨b1, b2, b3, b4, b5⟩ => ?_)
    have nn := neg9 (by omega) b4
    by_cases z : r = -9
    · rw [if_pos (nn.mpr z), nI_1]
      refine hw _ ⟨by omega, a2.tr b1, fun j j1 j2 => ?_⟩
      by_cases e : j = i
      · subst e; rw [← z]; exact b4
      · exact a3 j j1 (by omega)
    · rw [if_neg (fun y => z (nn.mp y))]
      by_cases hp : p4 = 0
      · rw [if_pos hp]
        exact ok_some ⟨a2.tr b1, Or.inl ⟨i, a1, by omega, ⟨r, b4, z, by rw [if_pos hp]⟩, a3⟩⟩
      · rw [if_neg hp]
        exact ok_some ⟨a2.tr b1, Or.inl ⟨i, a1, by omega, ⟨r, b4, z, by rw [if_neg hp]⟩, a3⟩⟩
  · intro h' w ⟨a1, a2, a3⟩
    unfold f_X11_failsAt_l3
    rw [if_pos (show (12 : Int32) < nI 13 from nI_lt (a := 12) (by omega) (by omega))]
    exact ok_some ⟨a2, Or.inr ⟨fun j j1 j2 => a3 j j1 (by omega), rfl⟩⟩
theorem a_failing : Ag_failing Inv := by
  intro hC hM p1 p2 p3 p4 i
  unfold f_X10_failing f_X11_failing f_X10_failing_j18 f_X10_failing_j41 f_X11_failing_j30 f_X11_failing_j36
  simp only [bd2_id, bind_id]
  obtain ⟨n, i1, -⟩ := id i
  rcases form_cases i1 p1 with ⟨a, b⟩ | ⟨f, hf, hf6, rfl, a, b, F, c1, c2, c3⟩
  · rw [if_pos a, show f_X11_notSide p1 p2 hM = -1 by unfold f_X11_notSide; rw [if_neg (Bf b)], if_neg (by decide), if_neg (by decide)]
    exact ag_no 1 rfl (by decide) (by decide) i
  rw [if_neg (Bf a)]
  rcases side_cases p2 with ⟨sa, sb⟩ | ⟨g, g1, g2, rfl, sa, sb⟩
  · rw [if_neg (Bf sa), show f_X11_notSide (nI f) p2 hM = -1 by unfold f_X11_notSide; rw [if_pos b, if_neg (Bf sb)], if_neg (by decide), if_neg (by decide)]
    exact ag_no 1 rfl (by decide) (by decide) i
  rw [if_pos sa, notSide_t b sb, if_pos rfl]
  rcases nb_cases p3 2 (by decide) with ⟨a2, b2⟩ | ⟨q, hq, rfl, a2, b2⟩
  · rw [if_pos (show f_X10_notBelow p3 2 = true from a2), if_neg (show ¬ f_X11_isSort p3 = true from Bf b2), if_neg (by decide)]
    exact ag_no 2 rfl (by decide) (by decide) i
  rw [if_neg (show ¬ f_X10_notBelow (nI q) 2 = true from Bf a2), if_pos (show f_X11_isSort (nI q) = true from b2)]
  rcases nb_cases p4 2 (by decide) with ⟨a3, b3⟩ | ⟨u, hu, rfl, a3, b3⟩
  · rw [if_pos (show f_X10_notBelow p4 2 = true from a3), if_neg (show ¬ f_X11_isIn p4 0 1 = true from Bf b3), if_neg (by decide)]
    exact ag_no 2 rfl (by decide) (by decide) i
  rw [if_neg (show ¬ f_X10_notBelow (nI u) 2 = true from Bf a3), if_pos (show f_X11_isIn (nI u) 0 1 = true from b3)]
  simp only [if_true]
  have hd := c3.2.2.1
  refine ag_ok (P := fun r => frC hC r.2 ∧ FS F g (nI q) (nI u) r.1) (R := fun r => frM hM r.2 ∧ FS F g (nI q) (nI u) r.1) ?_ (failsAt_ok c2 c3 hf6 g1 g2) (fun x y hx hy => ⟨FS_eq hx.2 hy.2, i.fr hx.1 hy.1⟩)
  refine ok_bind (workOn_ok c1 c3 hf6 g1 g2) (fun h1 ⟨k1, k2⟩ => ?_)
  refine ok_bind (failSz_ok hd g1 g2 k2 (nI q)) (fun r hr => ?_)
  rcases hr with ⟨m, m1, m2, ⟨v, m3, m4, m5⟩, m6⟩ | ⟨m1, m2⟩
  · rw [if_pos rfl] at m5
    subst m5
    rw [if_neg (nI_ne9 (by omega))]
    by_cases hu0 : nI u = 0
    · rw [if_pos hu0]
      exact ok_some ⟨k1, Or.inl ⟨m, m1, m2, ⟨v, m3, m4, by rw [if_pos hu0]⟩, m6⟩⟩
    · rw [if_neg hu0]
      refine ok_bind (failPt_ok hd g1 g2 m2 k2 (nI q)) (fun r hr => ?_)
      exact ok_some ⟨k1, Or.inl ⟨m, m1, m2, ⟨v, m3, m4, by rw [if_neg hu0]; exact fstN_eq hr m3⟩, m6⟩⟩
  · subst m2
    rw [if_pos rfl]
    exact ok_some ⟨k1, Or.inr ⟨m1, rfl⟩⟩
theorem a_proof : Ag_proof Inv := by
  intro hC hM p1 p2 i
  unfold f_X10_proof f_X11_proof f_X10_proof_j18
  simp only [bd2_id, bind_id]
  obtain ⟨n, i1, -⟩ := id i
  rcases form_cases i1 p1 with ⟨a, b⟩ | ⟨f, hf, hf6, rfl, a, b, F, c1, c2, c3⟩
  · rw [if_pos a, show f_X11_notSide p1 p2 hM = -1 by unfold f_X11_notSide; rw [if_neg (Bf b)], if_neg (by decide)]
    exact ag_no 1 rfl (by decide) (by decide) i
  rw [if_neg (Bf a)]
  rcases side_cases p2 with ⟨sa, sb⟩ | ⟨g, g1, g2, rfl, sa, sb⟩
  · rw [if_neg (Bf sa), show f_X11_notSide (nI f) p2 hM = -1 by unfold f_X11_notSide; rw [if_pos b, if_neg (Bf sb)], if_neg (by decide)]
    exact ag_no 1 rfl (by decide) (by decide) i
  rw [if_pos sa, notSide_t b sb, if_pos rfl]
  have hd := c3.2.2.1
  obtain ⟨x1, e1, k1, k2⟩ := workOn_ok c1 c3 hf6 g1 g2
  obtain ⟨⟨r1, x2⟩, e2, k3, k4⟩ := leastC_ok g1 g2 hd k2 1
  obtain ⟨⟨s1, y1⟩, d1, l1, l2⟩ := leastM_ok c2 c3 hf6 g1 g2 1
  simp only at k3 k4 l1 l2
  have q1 := fstN_eq k4 l2
  subst q1
  have n1 := neg9 (by decide) l2
  rw [e1, Option.bind_some, e2, bd2_some, d1, bd2_some]
  by_cases z1 : r1 = -9
  case neg =>
    rw [if_neg z1, if_neg (fun y => z1 (n1.mp y))]
    exact ag_c 0 x2 y1 rfl rfl (i.fr (k1.tr k3) l1)
  rw [if_pos z1, if_pos (n1.mpr z1)]
  have f2 := k1.tr k3
  have c1' := c1.frC (by omega) f2
  have c2' := c2.frM l1
  obtain ⟨x3, e3, k5, k6⟩ := workOn_ok c1' c3 hf6 g1 g2
  obtain ⟨⟨r2, x4⟩, e4, k7, k8⟩ := leastC_ok g1 g2 hd k6 0
  obtain ⟨⟨s2, y2⟩, d2, l3, l4⟩ := leastM_ok c2' c3 hf6 g1 g2 0
  simp only at k7 k8 l3 l4
  have q2 := fstN_eq k8 l4
  subst q2
  have n2 := neg9 (by decide) l4
  rw [e3, Option.bind_some, e4, bd2_some, d2, bd2_some]
  have f4 := (f2.tr k5).tr k7
  have m2 := l1.tr l3
  by_cases z2 : r2 = -9
  case neg =>
    rw [if_neg z2, if_neg (fun y => z2 (n2.mp y))]
    exact ag_c 1 x4 y2 rfl rfl (i.fr f4 m2)
  rw [if_pos z2, if_pos (n2.mpr z2)]
  have c1'' := c1.frC (by omega) f4
  have c2'' := c2.frM m2
  obtain ⟨x5, e5, k9, k10⟩ := workOn_ok c1'' c3 hf6 g1 g2
  obtain ⟨r3, e6, k11⟩ := failSz_ok hd g1 g2 k10 0
  obtain ⟨⟨s3, y3⟩, d3, l5, l6⟩ := failsAt_ok (q := 0) (p4 := 0) c2'' c3 hf6 g1 g2
  simp only at l5 l6
  have q3 := FS_eq k11 l6
  subst q3
  have n3 : r3 < 0 ↔ r3 = -9 := by
    rcases l6 with ⟨m, m1, m2, ⟨v, m3, m4, m5⟩, m6⟩ | ⟨m1, m2⟩
    · rw [if_pos rfl] at m5
      rw [m5]
      exact ⟨fun z => absurd z (nI_pos (by omega)), fun z => absurd z (nI_ne9 (by omega))⟩
    · rw [m2]; decide
  rw [e5, Option.bind_some, e6, Option.bind_some, d3, bd2_some]
  by_cases z3 : r3 = -9
  · rw [if_pos z3, if_pos (n3.mpr z3)]
    exact ag_c 3 x5 y3 rfl rfl (i.fr (f4.tr k9) (m2.tr l5))
  · rw [if_neg z3, if_neg (fun y => z3 (n3.mp y))]
    exact ag_c 2 x5 y3 rfl rfl (i.fr (f4.tr k9) (m2.tr l5))
end LOOKS
