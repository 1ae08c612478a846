section BRING
variable {hC hM : pq_H}
def brg (n m : Nat) (hC hM : pq_H) (x : Option (Bool × pq_H)) (y : Option (Int32 × pq_H)) : Prop := (∃ hC' hM', x = some (true, hC') ∧ y = some (nI n, hM') ∧ n < 6 ∧ InvG (n + 1) m hC' hM' ∧ AF hC hC' hM hM') ∨ (∃ hC' hM', x = some (false, hC') ∧ y = some (-6, hM') ∧ InvG n m hC' hM' ∧ AF hC hC' hM hM')
theorem brg_settle {n m D : Nat} {h1 h2 : pq_H} {W : Nat → Nat → Int64} (i : InvG n m hC hM) (hD : D ≤ 6) (f1 : frC hC h1) (f2 : frM hM h2) (hW : WC h1 D W) (hV : ∀ s k, s ≤ D → k ≤ s → rJ h2 8 (tri s + k) = W s k) : brg n m hC hM (f_X6_settle h1) (f_X11_comesIf (nI D) h2) := by
  have j := i.fr f1 f2
  rcases settle2 j hD hW.1 (fun t ht => by
    obtain ⟨s, k, a, b, rfl⟩ := tri_exD ht
    rw [hW.2 s k a b, hV s k a b]) with ⟨a, b, c1, c2, c3, c4, c5⟩ | ⟨c1, c2⟩
  · exact Or.inl ⟨a, b, c1, c2, c3, c4, (AF.of f1 f2).tr c5⟩
  · exact Or.inr ⟨h1, h2, c1, c2, j, AF.of f1 f2⟩
/-- the end of a bringing: the class in some heap that fits, the reference alike -/
theorem brg_of {n m : Nat} {hC hM : pq_H} {x : Option (Bool × pq_H)} {y : Option (Int32 × pq_H)} {P R : pq_H → Prop} (hx : ∃ h1, P h1 ∧ x = f_X6_settle h1) (hy : ∃ h2 D, R h2 ∧ y = f_X11_comesIf (nI D) h2 ∧ ∀ h1, P h1 → brg n m hC hM (f_X6_settle h1) (f_X11_comesIf (nI D) h2)) : brg n m hC hM x y := by
  obtain ⟨h1, p, e1⟩ := hx
  obtain ⟨h2, D, r, e2, k⟩ := hy
  rw [e1, e2]
  exact k h1 p
theorem on7 (d s k : Nat) : onS 7 d s k = true := onS_iff.mpr ⟨Or.inl rfl, Or.inl rfl, Or.inl rfl⟩
theorem wr7 (F : pF) (s k : Nat) : wr0 F 7 s k = (cfV F s k).toInt64 := by
  unfold wr0
  rw [if_pos (on7 _ _ _)]
/-- one of the class's own loops over its row -/
def EQ {β : Type} (x : Option β) (P : pq_H → Prop) (f : pq_H → Option β) : Prop := ∃ h, P h ∧ x = f h
theorem EQ_bind {β : Type} {x : Option pq_H} {g f : pq_H → Option β} {P Q : pq_H → Prop} (hx : ok x P) (h : ∀ h1, P h1 → EQ (g h1) Q f) : EQ (x.bind g) Q f := by
  obtain ⟨r, e, p⟩ := hx
  subst e
  exact h r p
theorem lp_forE {β : Type} {z : Int32 → pq_H → Option β} {f : (Int32 → pq_H → Option β) → Int32 → pq_H → Option β} {Q : pq_H → Prop} {e : pq_H → Option β} (I : Nat → pq_H → Prop) (n : Nat) (hs : ∀ i h w, i < n → I i h → ∃ h', f w (nI i) h = w (nI (i + 1)) h' ∧ I (i + 1) h') (he : ∀ h w, I n h → EQ (f w (nI n) h) Q e) (N a : Nat) (h : pq_H) (ha : a ≤ n) (hN : n < a + N) (hI : I a h) : EQ (lp z f N (nI a) h) Q e := by
  induction N generalizing a h with
  | zero => omega
  | succ N ih =>
    rw [lp_s]
    by_cases c : a = n
    · subst c; exact he h _ hI
    · obtain ⟨h', e1, e2⟩ := hs a h (lp z f N) (by omega) hI
      rw [e1]
      exact ih (a + 1) h' (by omega) (by omega) e2
theorem neg64 {x : Int32} (h : -1000009 ≤ x.toInt ∧ x.toInt ≤ 1000000) : (-x).toInt64 = -x.toInt64 := by
  apply Int64.toInt_inj.mp
  rw [Int32.toInt_toInt64, Int32.toInt_neg, Int64.toInt_neg, Int32.toInt_toInt64, Int.bmod_eq_of_le (by omega) (by omega), Int.bmod_eq_of_le (by omega) (by omega)]
theorem negative2 {n m f : Nat} {F : pF} (i : InvG n m hC hM) (hf : f < 6) (c1 : FormC hC f F) (c2 : FormM hM f F) (c3 : okF F) : brg n m hC hM (f_X6_bringNegative (nI f) hC) (f_X11_turnsBelow (nI f) hM) := by
  have hd := c3.2.2.1
  have hb := tri28 hd
  refine brg_of (P := fun h1 => frC hC h1 ∧ WC h1 F.2.2.1 (fun s k => -(cfV F s k).toInt64)) (R := fun h2 => frM hM h2) ?_ ?_
  · unfold f_X6_bringNegative
    rw [inbN hf (by decide), gd_t, nI_clamp (by omega)]
    refine EQ_bind (takeOn_ok (g := 7) c1 c3 (by omega) (by omega) (by omega)) (fun h1 ⟨k1, k2⟩ => ?_)
    refine lp_forE (fun j h' => frC hC h' ∧ rI h' 59 1 = nI F.2.2.1 ∧ ∀ s k, s ≤ F.2.2.1 → k ≤ s → rJ h' 60 (tri s + k) = if tri s + k < j then -(cfV F s k).toInt64 else (cfV F s k).toInt64) (tri (F.2.2.1 + 1)) ?_ ?_ 1000 0 h1 (by omega) (by omega) ⟨k1, k2.1, fun s k hs hk => by rw [if_neg (by omega), k2.2 s k hs hk, wr7]⟩
    · intro j h' w hj ⟨g1, g2, g3⟩
      obtain ⟨s, k, hs, hk, e⟩ := tri_exD hj
      unfold f_X6_bringNegative_l17
      rw [g2, termsOf_nI (by omega), if_neg (nI_ge hj (by omega)), inbN (show j < 190 by omega) (by decide), gd_t, gd_t, nI_clamp (by omega), nI_1]
      refine ⟨_, rfl, g1.tr (frC.wJ _ _ _ _), g2, fun s' k' hs' hk' => ?_⟩
      by_cases z : tri s' + k' = j
      · obtain ⟨e1, e2⟩ := tri_inj hk' hk (z.trans e)
        subst e1 e2
        rw [z, rJ_same, if_pos (by omega), e, g3 s' k' hs hk, if_neg (by omega)]
      · rw [rJ_ne (by omega), g3 s' k' hs' hk']
        by_cases y : tri s' + k' < j
        · rw [if_pos y, if_pos (by omega)]
        · rw [if_neg y, if_neg (by omega)]
    · intro h' w ⟨g1, g2, g3⟩
      unfold f_X6_bringNegative_l17 f_X6_bringNegative_j56
      rw [g2, termsOf_nI (by omega), if_pos (le_nIn (Nat.le_refl _) (by omega)), bd2_id]
      exact ⟨h', ⟨g1, g2, fun s k hs hk => by rw [g3 s k hs hk, if_pos (tri_lt (by omega) hk)]⟩, rfl⟩
  · have : EQ (f_X11_turnsBelow (nI f) hM) (fun h2 => frM hM h2 ∧ ∀ s k, s ≤ F.2.2.1 → k ≤ s → rJ h2 8 (tri s + k) = -(cfV F s k).toInt64) (fun h => f_X11_comesIf (nI F.2.2.1) h) := by
      unfold f_X11_turnsBelow
      refine lp_forE (fun j h' => frM hM h' ∧ ∀ s k, s ≤ F.2.2.1 → k ≤ s → tri s + k < j → rJ h' 8 (tri s + k) = -(cfV F s k).toInt64) (tri (F.2.2.1 + 1)) ?_ ?_ 1000 0 hM (by omega) (by omega) ⟨frM.rf hM, fun s k _ _ z => by omega⟩
      · intro j h' w hj ⟨g1, g2⟩
        obtain ⟨s, k, hs, hk, e⟩ := tri_exD hj
        have c2' := c2.frM g1
        unfold f_X11_turnsBelow_l2
        rw [isTerm_ok c2' c3 hf j (by omega), Option.bind_some, decide_eq_true hj, if_pos rfl, e, coef_ok c2' c3 hf hs hk, Option.bind_some, ← e, inbN (show j < 28 by omega) (by decide), gd_t, nI_clamp (by omega), nI_1]
        refine ⟨_, rfl, g1.tr (frM.wJ _ _ _ _), fun s' k' hs' hk' y => ?_⟩
        by_cases z : tri s' + k' = j
        · obtain ⟨e1, e2⟩ := tri_inj hk' hk (z.trans e)
          subst e1 e2
          rw [z, rJ_same, neg64 (cfV_b c3 hs hk)]
        · rw [rJ_ne (by omega)]
          exact g2 s' k' hs' hk' (by omega)
      · intro h' w ⟨g1, g2⟩
        unfold f_X11_turnsBelow_l2 f_X11_turnsBelow_j31
        have c2' := c2.frM g1
        rw [isTerm_ok c2' c3 hf _ (by omega), Option.bind_some, decide_eq_false (by omega), if_neg (by decide), inbN hf (by decide), gd_t, nI_clamp (by omega), c2'.2.2.1, bd2_id]
        exact ⟨h', ⟨g1, fun s k hs hk => g2 s k hs hk (tri_lt (by omega) hk)⟩, rfl⟩
    obtain ⟨h2, ⟨r1, r2⟩, e⟩ := this
    exact ⟨h2, F.2.2.1, r1, e, fun h1 ⟨p1, p2⟩ => brg_settle i hd p1 r1 p2 r2⟩
theorem on2 {n m f g : Nat} {F : pF} (i : InvG n m hC hM) (hf : f < 6) (g1 : 1 ≤ g) (g2 : g ≤ 7) (c1 : FormC hC f F) (c2 : FormM hM f F) (c3 : okF F) : brg n m hC hM (f_X6_bringOn (nI f) (nI g) hC) (f_X11_staysOn (nI f) (nI g) hM) := by
  have hd := c3.2.2.1
  have hb := tri28 hd
  refine brg_of (P := fun h1 => frC hC h1 ∧ WC h1 F.2.2.1 (wr0 F g)) (R := fun h2 => frM hM h2) ?_ ?_
  · unfold f_X6_bringOn
    rw [inbN hf (by decide), gd_t, nI_clamp (by omega)]
    refine EQ_bind (takeOn_ok c1 c3 (by omega) g1 g2) (fun h1 k => ?_)
    rw [bd2_id]
    exact ⟨h1, k, rfl⟩
  · have : EQ (f_X11_staysOn (nI f) (nI g) hM) (fun h2 => frM hM h2 ∧ ∀ s k, s ≤ F.2.2.1 → k ≤ s → rJ h2 8 (tri s + k) = wr0 F g s k) (fun h => f_X11_comesIf (nI F.2.2.1) h) := by
      unfold f_X11_staysOn
      refine lp_forE (fun j h' => frM hM h' ∧ ∀ s k, s ≤ F.2.2.1 → k ≤ s → tri s + k < j → rJ h' 8 (tri s + k) = wr0 F g s k) (tri (F.2.2.1 + 1)) ?_ ?_ 1000 0 hM (by omega) (by omega) ⟨frM.rf hM, fun s k _ _ z => by omega⟩
      · intro j h' w hj ⟨q1, q2⟩
        obtain ⟨s, k, hs, hk, e⟩ := tri_exD hj
        have c2' := c2.frM q1
        unfold f_X11_staysOn_l2 f_X11_staysOn_j41
        rw [isTerm_ok c2' c3 hf j (by omega), Option.bind_some, decide_eq_true hj, if_pos rfl, inbN hf (by decide), gd_t, nI_clamp (by omega), c2'.2.2.1, e, isOn_ok g2 (by omega) hs hk, Option.bind_some, coef_ok c2' c3 hf hs hk, Option.bind_some, ← e, inbN (show j < 28 by omega) (by decide), gd_t, gd_t, nI_clamp (by omega), nI_1]
        have fin : frM hM (wJ h' 8 j (wr0 F g s k)) ∧ ∀ s' k', s' ≤ F.2.2.1 → k' ≤ s' → tri s' + k' < j + 1 → rJ (wJ h' 8 j (wr0 F g s k)) 8 (tri s' + k') = wr0 F g s' k' := by
          refine ⟨q1.tr (frM.wJ _ _ _ _), fun s' k' hs' hk' y => ?_⟩
          by_cases z : tri s' + k' = j
          · obtain ⟨e1, e2⟩ := tri_inj hk' hk (z.trans e)
            subst e1 e2
            rw [z, rJ_same]
          · rw [rJ_ne (by omega)]
            exact q2 s' k' hs' hk' (by omega)
        by_cases o : onS g F.2.2.1 s k = true
        · rw [if_pos o]
          refine ⟨_, rfl, ?_⟩
          have e2 : wr0 F g s k = (cfV F s k).toInt64 := by unfold wr0; rw [if_pos o]
          rw [e2] at fin
          exact fin
        · rw [if_neg o]
          refine ⟨_, rfl, ?_⟩
          have e2 : wr0 F g s k = 0 := by unfold wr0; rw [if_neg o]
          rw [e2] at fin
          exact fin
      · intro h' w ⟨q1, q2⟩
        unfold f_X11_staysOn_l2 f_X11_staysOn_j48
        have c2' := c2.frM q1
        rw [isTerm_ok c2' c3 hf _ (by omega), Option.bind_some, decide_eq_false (by omega), if_neg (by decide), inbN hf (by decide), gd_t, nI_clamp (by omega), c2'.2.2.1, bd2_id]
        exact ⟨h', ⟨q1, fun s k hs hk => q2 s k hs hk (tri_lt (by omega) hk)⟩, rfl⟩
    obtain ⟨h2, ⟨r1, r2⟩, e⟩ := this
    exact ⟨h2, F.2.2.1, r1, e, fun h1 ⟨p1, p2⟩ => brg_settle i hd p1 r1 p2 r2⟩
theorem sum2 {n m f f' : Nat} {F F' : pF} (i : InvG n m hC hM) (hf : f < 6) (hf' : f' < 6) (hdd : F'.2.2.1 = F.2.2.1) (c1 : FormC hC f F) (c2 : FormM hM f F) (c3 : okF F) (d1 : FormC hC f' F') (d2 : FormM hM f' F') (d3 : okF F') : brg n m hC hM (f_X6_bringSum (nI f) (nI f') hC) (f_X11_sums (nI f) (nI f') hM) := by
  have hd := c3.2.2.1
  have hb := tri28 hd
  refine brg_of (P := fun h1 => frC hC h1 ∧ WC h1 F.2.2.1 (fun s k => (cfV F s k).toInt64 + (cfV F' s k).toInt64)) (R := fun h2 => frM hM h2) ?_ ?_
  · unfold f_X6_bringSum
    rw [inbN hf (by decide), inbN hf' (by decide), gd_t, gd_t, gd_t, nI_clamp (by omega), nI_clamp (by omega), c1.2.2.1, d1.2.2.1, hdd, if_pos rfl]
    refine EQ_bind (takeOn_ok (g := 7) c1 c3 (by omega) (by omega) (by omega)) (fun h1 ⟨k1, k2⟩ => ?_)
    refine lp_forE (fun j h' => frC hC h' ∧ rI h' 59 1 = nI F.2.2.1 ∧ ∀ s k, s ≤ F.2.2.1 → k ≤ s → rJ h' 60 (tri s + k) = if tri s + k < j then (cfV F s k).toInt64 + (cfV F' s k).toInt64 else (cfV F s k).toInt64) (tri (F.2.2.1 + 1)) ?_ ?_ 1000 0 h1 (by omega) (by omega) ⟨k1, k2.1, fun s k hs hk => by rw [if_neg (by omega), k2.2 s k hs hk, wr7]⟩
    · intro j h' w hj ⟨g1, g2, g3⟩
      obtain ⟨s, k, hs, hk, e⟩ := tri_exD hj
      unfold f_X6_bringSum_l40
      rw [g2, termsOf_nI (by omega), if_neg (nI_ge hj (by omega)), inbN (show j < 190 by omega) (by decide), inbN hf' (by decide), gd_t, gd_t, nI_clamp (n := f') (by omega), e, at_ok (d1.frC (by omega) g1) d3 (by omega) hk, Option.bind_some, ← e, gd_t, nI_clamp (by omega), nI_1]
      refine ⟨_, rfl, g1.tr (frC.wJ _ _ _ _), g2, fun s' k' hs' hk' => ?_⟩
      by_cases z : tri s' + k' = j
      · obtain ⟨e1, e2⟩ := tri_inj hk' hk (z.trans e)
        subst e1 e2
        rw [z, rJ_same, if_pos (by omega), e, g3 s' k' hs hk, if_neg (by omega)]
      · rw [rJ_ne (by omega), g3 s' k' hs' hk']
        by_cases y : tri s' + k' < j
        · rw [if_pos y, if_pos (by omega)]
        · rw [if_neg y, if_neg (by omega)]
    · intro h' w ⟨g1, g2, g3⟩
      unfold f_X6_bringSum_l40 f_X6_bringSum_j83
      rw [g2, termsOf_nI (by omega), if_pos (le_nIn (Nat.le_refl _) (by omega)), bd2_id]
      exact ⟨h', ⟨g1, g2, fun s k hs hk => by rw [g3 s k hs hk, if_pos (tri_lt (by omega) hk)]⟩, rfl⟩
  · have : EQ (f_X11_sums (nI f) (nI f') hM) (fun h2 => frM hM h2 ∧ ∀ s k, s ≤ F.2.2.1 → k ≤ s → rJ h2 8 (tri s + k) = (cfV F s k).toInt64 + (cfV F' s k).toInt64) (fun h => f_X11_comesIf (nI F.2.2.1) h) := by
      unfold f_X11_sums
      refine lp_forE (fun j h' => frM hM h' ∧ ∀ s k, s ≤ F.2.2.1 → k ≤ s → tri s + k < j → rJ h' 8 (tri s + k) = (cfV F s k).toInt64 + (cfV F' s k).toInt64) (tri (F.2.2.1 + 1)) ?_ ?_ 1000 0 hM (by omega) (by omega) ⟨frM.rf hM, fun s k _ _ z => by omega⟩
      · intro j h' w hj ⟨q1, q2⟩
        obtain ⟨s, k, hs, hk, e⟩ := tri_exD hj
        have c2' := c2.frM q1
        unfold f_X11_sums_l2
        rw [isTerm_ok c2' c3 hf j (by omega), Option.bind_some, decide_eq_true hj, if_pos rfl, e, coef_ok c2' c3 hf hs hk, Option.bind_some, coef_ok (d2.frM q1) d3 hf' (by omega) hk, Option.bind_some, ← e, inbN (show j < 28 by omega) (by decide), gd_t, nI_clamp (by omega), nI_1]
        refine ⟨_, rfl, q1.tr (frM.wJ _ _ _ _), fun s' k' hs' hk' y => ?_⟩
        by_cases z : tri s' + k' = j
        · obtain ⟨e1, e2⟩ := tri_inj hk' hk (z.trans e)
          subst e1 e2
          rw [z, rJ_same]
        · rw [rJ_ne (by omega)]
          exact q2 s' k' hs' hk' (by omega)
      · intro h' w ⟨q1, q2⟩
        unfold f_X11_sums_l2 f_X11_sums_j38
        have c2' := c2.frM q1
        rw [isTerm_ok c2' c3 hf _ (by omega), Option.bind_some, decide_eq_false (by omega), if_neg (by decide), inbN hf (by decide), gd_t, nI_clamp (by omega), c2'.2.2.1, bd2_id]
        exact ⟨h', ⟨q1, fun s k hs hk => q2 s k hs hk (tri_lt (by omega) hk)⟩, rfl⟩
    obtain ⟨h2, ⟨r1, r2⟩, e⟩ := this
    exact ⟨h2, F.2.2.1, r1, e, fun h1 ⟨p1, p2⟩ => brg_settle i hd p1 r1 p2 r2⟩
theorem lift2 {n m f v : Nat} {F : pF} (i : InvG n m hC hM) (hf : f < 6) (hv : v ≤ 6) (c1 : FormC hC f F) (c2 : FormM hM f F) (c3 : okF F) : brg n m hC hM (f_X6_bringLift (nI f) (nI v) hC) (f_X11_lifts (nI f) (nI v) hM) := by
  have hd := c3.2.2.1
  have C : EQ (f_X6_bringLift (nI f) (nI v) hC) (fun h1 => frC hC h1 ∧ WC h1 (F.2.2.1 + v) (rzN 7 F.2.2.1 (wr0 F 7) v)) f_X6_settle := by
    unfold f_X6_bringLift
    rw [if_pos (show nI v ≤ 6 from le_nIn (b := 6) hv (by omega)), inbN hf (by decide), gd_t, nI_clamp (by omega)]
    refine EQ_bind (takeOn_ok (g := 7) c1 c3 (by omega) (by omega) (by omega)) (fun h1 ⟨k1, k2⟩ => ?_)
    refine EQ_bind (raise_ok (g := 7) (by omega) (by omega) k2) (fun h2 ⟨k3, k4⟩ => ?_)
    rw [bd2_id]
    exact ⟨h2, ⟨k1.tr k3, k4⟩, rfl⟩
  obtain ⟨h1, ⟨p1, p2⟩, e1⟩ := C
  by_cases q : F.2.2.1 + v ≤ 6
  · have hb := tri28 q
    have M : EQ (f_X11_lifts (nI f) (nI v) hM) (fun h2 => frM hM h2 ∧ ∀ s k, s ≤ F.2.2.1 + v → k ≤ s → rJ h2 8 (tri s + k) = rzN 7 F.2.2.1 (wr0 F 7) v s k) (fun h => f_X11_comesIf (nI (F.2.2.1 + v)) h) := by
      unfold f_X11_lifts
      rw [inbN hf (by decide), gd_t, nI_clamp (by omega), c2.2.2.1, nI_add, if_pos (show nI (F.2.2.1 + v) ≤ 6 from le_nIn (b := 6) q (by omega))]
      refine EQ_bind (takes_ok (g := 7) c2 c3 hf (by omega) (show v ≤ 12 by omega)) (fun h2 ⟨k1, k2⟩ => ?_)
      refine lp_forE (fun j h' => frM hM h' ∧ WM h' (F.2.2.1 + v) (rzN 7 F.2.2.1 (wr0 F 7) v) ∧ ∀ s k, s ≤ F.2.2.1 + v → k ≤ s → tri s + k < j → rJ h' 8 (tri s + k) = rzN 7 F.2.2.1 (wr0 F 7) v s k) (tri (F.2.2.1 + v + 1)) ?_ ?_ 1000 0 h2 (by omega) (by omega) ⟨k1, k2, fun s k _ _ z => by omega⟩
      · intro j h' w hj ⟨q1, q2, q3⟩
        obtain ⟨s, k, hs, hk, e⟩ := tri_exD hj
        unfold f_X11_lifts_l29
        rw [termsOfM_nI (by omega), if_neg (nI_ge hj (by omega)), inbN (show j < 190 by omega) (by decide), inbN (show j < 28 by omega) (by decide), gd_t, gd_t, nI_clamp (by omega), nI_1]
        refine ⟨_, rfl, q1.tr (frM.wJ _ _ _ _), ⟨q2.1, fun s' k' hs' hk' => by rw [rJ_ne (by omega)]; exact q2.2 s' k' hs' hk'⟩, fun s' k' hs' hk' y => ?_⟩
        by_cases z : tri s' + k' = j
        · rw [z, rJ_same, ← z, q2.2 s' k' hs' hk']
        · rw [rJ_ne (by omega)]
          exact q3 s' k' hs' hk' (by omega)
      · intro h' w ⟨q1, q2, q3⟩
        unfold f_X11_lifts_l29 f_X11_lifts_j58
        rw [termsOfM_nI (by omega), if_pos (le_nIn (Nat.le_refl _) (by omega)), bd2_id]
        exact ⟨h', ⟨q1, fun s k hs hk => q3 s k hs hk (tri_lt (by omega) hk)⟩, rfl⟩
    obtain ⟨h2, ⟨r1, r2⟩, e2⟩ := M
    rw [e1, e2]
    exact brg_settle i q p1 r1 p2 r2
  · right
    refine ⟨h1, hM, ?_, ?_, i.fr p1 (frM.rf hM), AF.of p1 (frM.rf hM)⟩
    · rw [e1]
      have j := i.fr p1 (frM.rf hM)
      exact settleBig j.1.1 j.1.2.1 p2.1 (by omega) (by omega)
    · unfold f_X11_lifts
      rw [inbN hf (by decide), gd_t, nI_clamp (by omega), c2.2.2.1, nI_add, if_neg (show ¬ nI (F.2.2.1 + v) ≤ 6 from nI_ge (a := 6) (by omega) (by omega))]
end BRING
