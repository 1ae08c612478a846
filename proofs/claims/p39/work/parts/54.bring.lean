section BRINGC
variable {h : pq_H} {n f f' D : Nat} {Fs : Nat → pF} {F F' : pF}
theorem settle_c (z : n < 6) (hD : D ≤ 6) (e : rI h 56 3 = nI n) (c : rI h 59 1 = nI D) (hr : ∀ t, t < tri (D + 1) → rgJ (rJ h 60 t) = true) : ok (f_X6_settle h) (fun r => r.1 = true ∧ (∀ P k, P ≠ n → P ≠ n + 12 → (P ≠ 56 ∨ k ≠ 3) → rI r.2 P k = rI h P k) ∧ rI r.2 56 3 = nI (n + 1) ∧ FormC r.2 n (newF D (rJ h 60))) := by
  have hb := tri28 hD
  unfold f_X6_settle
  rw [full_ok (show n ≤ 6 by omega) h e, c, termsOf_nI (by omega), decide_eq_false (show ¬ n = 6 by omega), if_neg (by decide), if_pos (show nI D ≤ 6 from le_nIn (b := 6) hD (by omega))]
  have runC : ok (lp (fun _ => none) (f_X6_settle_l34 (nI (tri (D + 1))) h) 1000 0) (fun r => (allB (fun t => rgJ (rJ h 60 t)) (tri (D + 1)) = true ∧ f_X6_settle_j79 (nI (tri (D + 1))) h = some r) ∨ (allB (fun t => rgJ (rJ h 60 t)) (tri (D + 1)) = false ∧ r = (false, h))) := by
    refine lp_forR (fun i => allB (fun t => rgJ (rJ h 60 t)) i = true) (tri (D + 1)) ?_ ?_ 1000 0 (by omega) (by omega) rfl
    · intro j w hj hI hw
      unfold f_X6_settle_l34
      rw [if_neg (nI_ge hj (by omega)), inbN (show j < 190 by omega) (by decide), gd_t, gd_t, nI_clamp (by omega), nI_1]
      by_cases z1 : rJ h 60 j < -1000000
      · rw [if_pos z1]
        exact ok_some (Or.inr ⟨allB_f hj (Bool.eq_false_iff.mpr (fun y => (rgJ_iff.mp y).1 z1)), rfl⟩)
      rw [if_neg z1]
      by_cases z2 : rJ h 60 j ≤ 1000000
      · rw [if_pos z2]
        refine hw ?_
        rw [allB_s, hI, rgJ_iff.mpr ⟨z1, z2⟩]
        rfl
      · rw [if_neg z2]
        exact ok_some (Or.inr ⟨allB_f hj (Bool.eq_false_iff.mpr (fun y => z2 (rgJ_iff.mp y).2)), rfl⟩)
    · intro w hI
      unfold f_X6_settle_l34
      rw [if_pos (le_nIn (Nat.le_refl _) (by omega))]
      obtain ⟨r, er, -⟩ := bring_ok (hC := h) z hD e c
      rw [er]
      exact ok_some (Or.inl ⟨hI, rfl⟩)
  obtain ⟨r, er, ⟨q1, q2⟩ | ⟨q1, q2⟩⟩ := runC
  · obtain ⟨⟨b, h'⟩, er2, k1, k2, k3, k4, k5⟩ := bring_ok (hC := h) z hD e c
    simp only at k1 k2 k3 k4
    rw [er2] at q2
    cases q2
    exact ⟨(b, h'), er, k1, k2, k3, k4⟩
  · rw [allB_iff.mpr hr] at q1
    cases q1
theorem neg_c (hf : f < 6) (c1 : FormC h f F) (c3 : okF F) : EQ (f_X6_bringNegative (nI f) h) (fun h1 => frC h h1 ∧ WC h1 F.2.2.1 (fun s k => -(cfV F s k).toInt64)) f_X6_settle := by
  have hd := c3.2.2.1
  have hb := tri28 hd
  unfold f_X6_bringNegative
  rw [inbN hf (by decide), gd_t, nI_clamp (by omega)]
  refine EQ_bind (takeOn_ok (g := 7) c1 c3 (by omega) (by omega) (by omega)) (fun h1 ⟨k1, k2⟩ => ?_)
  refine lp_forE (fun j h' => frC h h' ∧ rI h' 59 1 = nI F.2.2.1 ∧ ∀ s k, s ≤ F.2.2.1 → k ≤ s → rJ h' 60 (tri s + k) = if tri s + k < j then -(cfV F s k).toInt64 else (cfV F s k).toInt64) (tri (F.2.2.1 + 1)) ?_ ?_ 1000 0 h1 (by omega) (by omega) ⟨k1, k2.1, fun s k hs hk => by rw [if_neg (by omega), k2.2 s k hs hk, wr7]⟩
  · intro j h' w hj ⟨g1, g2, g3⟩
    obtain ⟨s, k, hs, hk, e⟩ := tri_exD hj
    unfold f_X6_bringNegative_l17
    rw [g2, termsOf_nI (by omega), if_neg (nI_ge hj (by omega)), inbN (show j < 190 by omega) (by decide), gd_t, gd_t, nI_clamp (by omega), nI_1]
    refine ⟨_, rfl, g1.tr (frC.wJ _ _ _ _), g2, fun s' k' hs' hk' => ?_⟩
    by_cases z : tri s' + k' = j
    · obtain ⟨e1, e2⟩ := tri_inj hk' hk (z.trans e)
      subst e1 e2
      rw [z, rJ_same, if_pos (by omega), e, g3 s' k' hs hk, if_neg (by omega)]
    · rw [rJ_ne (by omega), g3 s' k' hs' hk']
      by_cases y : tri s' + k' < j
      · rw [if_pos y, if_pos (by omega)]
      · rw [if_neg y, if_neg (by omega)]
  · intro h' w ⟨g1, g2, g3⟩
    unfold f_X6_bringNegative_l17 f_X6_bringNegative_j56
    rw [g2, termsOf_nI (by omega), if_pos (le_nIn (Nat.le_refl _) (by omega)), bd2_id]
    exact ⟨h', ⟨g1, g2, fun s k hs hk => by rw [g3 s k hs hk, if_pos (tri_lt (by omega) hk)]⟩, rfl⟩
theorem sum_c (hf : f < 6) (hf' : f' < 6) (hdd : F'.2.2.1 = F.2.2.1) (c1 : FormC h f F) (c3 : okF F) (d1 : FormC h f' F') (d3 : okF F') : EQ (f_X6_bringSum (nI f) (nI f') h) (fun h1 => frC h h1 ∧ WC h1 F.2.2.1 (fun s k => (cfV F s k).toInt64 + (cfV F' s k).toInt64)) f_X6_settle := by
  have hd := c3.2.2.1
  have hb := tri28 hd
  unfold f_X6_bringSum
  rw [inbN hf (by decide), inbN hf' (by decide), gd_t, gd_t, gd_t, nI_clamp (by omega), nI_clamp (by omega), c1.2.2.1, d1.2.2.1, hdd, if_pos rfl]
  refine EQ_bind (takeOn_ok (g := 7) c1 c3 (by omega) (by omega) (by omega)) (fun h1 ⟨k1, k2⟩ => ?_)
  refine lp_forE (fun j h' => frC h h' ∧ rI h' 59 1 = nI F.2.2.1 ∧ ∀ s k, s ≤ F.2.2.1 → k ≤ s → rJ h' 60 (tri s + k) = if tri s + k < j then (cfV F s k).toInt64 + (cfV F' s k).toInt64 else (cfV F s k).toInt64) (tri (F.2.2.1 + 1)) ?_ ?_ 1000 0 h1 (by omega) (by omega) ⟨k1, k2.1, fun s k hs hk => by rw [if_neg (by omega), k2.2 s k hs hk, wr7]⟩
  · intro j h' w hj ⟨g1, g2, g3⟩
    obtain ⟨s, k, hs, hk, e⟩ := tri_exD hj
    unfold f_X6_bringSum_l40
    rw [g2, termsOf_nI (by omega), if_neg (nI_ge hj (by omega)), inbN (show j < 190 by omega) (by decide), inbN hf' (by decide), gd_t, gd_t, nI_clamp (n := f') (by omega), e, at_ok (d1.frC (by omega) g1) d3 (by omega) hk, Option.bind_some, ← e, gd_t, nI_clamp (by omega), nI_1]
    refine ⟨_, rfl, g1.tr (frC.wJ _ _ _ _), g2, fun s' k' hs' hk' => ?_⟩
    by_cases z : tri s' + k' = j
    · obtain ⟨e1, e2⟩ := tri_inj hk' hk (z.trans e)
      subst e1 e2
      rw [z, rJ_same, if_pos (by omega), e, g3 s' k' hs hk, if_neg (by omega)]
    · rw [rJ_ne (by omega), g3 s' k' hs' hk']
      by_cases y : tri s' + k' < j
      · rw [if_pos y, if_pos (by omega)]
      · rw [if_neg y, if_neg (by omega)]
  · intro h' w ⟨g1, g2, g3⟩
    unfold f_X6_bringSum_l40 f_X6_bringSum_j83
    rw [g2, termsOf_nI (by omega), if_pos (le_nIn (Nat.le_refl _) (by omega)), bd2_id]
    exact ⟨h', ⟨g1, g2, fun s k hs hk => by rw [g3 s k hs hk, if_pos (tri_lt (by omega) hk)]⟩, rfl⟩
theorem lift_c {v : Nat} (hf : f < 6) (hv : v ≤ 6) (c1 : FormC h f F) (c3 : okF F) : EQ (f_X6_bringLift (nI f) (nI v) h) (fun h1 => frC h h1 ∧ WC h1 (F.2.2.1 + v) (rzN 7 F.2.2.1 (wr0 F 7) v)) f_X6_settle := by
  have hd := c3.2.2.1
  unfold f_X6_bringLift
  rw [if_pos (show nI v ≤ 6 from le_nIn (b := 6) hv (by omega)), inbN hf (by decide), gd_t, nI_clamp (by omega)]
  refine EQ_bind (takeOn_ok (g := 7) c1 c3 (by omega) (by omega) (by omega)) (fun h1 ⟨k1, k2⟩ => ?_)
  refine EQ_bind (raise_ok (g := 7) (by omega) (by omega) k2) (fun h2 ⟨k3, k4⟩ => ?_)
  rw [bd2_id]
  exact ⟨h2, ⟨k1.tr k3, k4⟩, rfl⟩
theorem prod_c (hf : f < 6) (hf' : f' < 6) (c1 : FormC h f F) (c3 : okF F) (d1 : FormC h f' F') (d3 : okF F') : EQ (f_X6_bringProduct (nI f) (nI f') h) (fun h1 => frC h h1 ∧ RC h1 (F.2.2.1 + F'.2.2.1) (pout F F' (tri (F.2.2.1 + 1)))) f_X6_settle := by
  have hd := c3.2.2.1
  have hd' := d3.2.2.1
  unfold f_X6_bringProduct
  rw [inbN hf (by decide), inbN hf' (by decide), gd_t, gd_t, nI_clamp (by omega), nI_clamp (by omega), c1.2.2.1, d1.2.2.1, nI_add]
  refine EQ_bind (nought_ok (by omega) h) (fun h1 ⟨k1, k2, k3⟩ => ?_)
  refine lp_forE (fun s h' => frC h h' ∧ RC h' (F.2.2.1 + F'.2.2.1) (pout F F' (tri s))) (F.2.2.1 + 1) ?_ ?_ 1000 0 h1 (by omega) (by omega) ⟨k1, k2, fun t ht => k3 t ht⟩
  · intro s h' w hs ⟨g1, g2⟩
    unfold f_X6_bringProduct_l35
    rw [(c1.frC (by omega) g1).2.2.1, if_neg (nI_nlt (by omega) (by omega))]
    obtain ⟨h3, p3, e3⟩ := lp_forE (z := fun _ _ => none) (f := f_X6_bringProduct_l47 f f' w (nI s)) (Q := fun h' => frC h h' ∧ RC h' (F.2.2.1 + F'.2.2.1) (pout F F' (tri (s + 1)))) (e := fun h => w (nI (s + 1)) h) (fun k h' => frC h h' ∧ RC h' (F.2.2.1 + F'.2.2.1) (pout F F' (tri s + k))) (s + 1) (by
      intro k h4 w2 hk ⟨q1, q2⟩
      have cF := c1.frC (by omega) q1
      have cF' := d1.frC (by omega) q1
      unfold f_X6_bringProduct_l47
      rw [if_neg (nI_nlt (by omega) (by omega)), cF.2.2.1, pk_sub (show s ≤ F.2.2.1 by omega), pk_sub (show k ≤ s by omega), has_ok cF c3 (by omega), Option.bind_some]
      have ec : cfT F (tri s + k) = hasV F (F.2.2.1 - s) (s - k) k := by
        unfold cfT
        rw [skT_eq (show k ≤ s by omega)]
        rfl
      obtain ⟨h5, e5, p5, p6⟩ := addTimes_ok (c := (cfT F (tri s + k)).toInt64) cF' d3 (by omega) (by omega) (show s + F'.2.2.1 ≤ F.2.2.1 + F'.2.2.1 by omega) (show k ≤ s by omega) q2
      rw [← ec, e5, Option.bind_some, nI_1]
      refine ⟨h5, rfl, q1.tr p5, ?_⟩
      rw [show tri s + (k + 1) = tri s + k + 1 by omega, pout_s, skT_eq (show k ≤ s by omega)]
      exact p6) (by
      intro h4 w2 ⟨q1, q2⟩
      unfold f_X6_bringProduct_l47 f_X6_bringProduct_j92
      rw [if_pos (nI_lt (by omega) (by omega)), nI_1]
      rw [← tri_succ] at q2
      exact ⟨h4, ⟨q1, q2⟩, rfl⟩) 1000 0 h' (by omega) (by omega) ⟨g1, g2⟩
    exact ⟨h3, e3, p3⟩
  · intro h' w ⟨g1, g2⟩
    unfold f_X6_bringProduct_l35 f_X6_bringProduct_j98
    rw [(c1.frC (by omega) g1).2.2.1, if_pos (nI_lt (by omega) (by omega)), bd2_id]
    exact ⟨h', ⟨g1, g2⟩, rfl⟩
/-- what is kept beside the forms: the image, the letters' number, the log's place -/
def Kx (h h' : pq_H) : Prop := (∀ p, (6 ≤ p ∧ p < 12) ∨ (18 ≤ p ∧ p < 24) → ∀ k, rI h' p k = rI h p k) ∧ rI h' 56 4 = rI h 56 4 ∧ rI h' 61 1 = rI h 61 1 ∧ rI h' 74 5 = rI h 74 5
theorem Kx.tr {a b c : pq_H} (x : Kx a b) (y : Kx b c) : Kx a c := ⟨fun p hp k => (y.1 p hp k).trans (x.1 p hp k), y.2.1.trans x.2.1, y.2.2.1.trans x.2.2.1, y.2.2.2.trans x.2.2.2⟩
theorem Kx.rf (a : pq_H) : Kx a a := ⟨fun _ _ _ => rfl, rfl, rfl, rfl⟩
theorem frC.kx {a b : pq_H} (x : frC a b) : Kx a b := ⟨fun p hp k => x.1 p (by omega) k, x.1 56 (by omega) 4, x.1 61 (by omega) 1, x.1 74 (by omega) 5⟩
def upF (Fs : Nat → pF) (n : Nat) (F : pF) : Nat → pF := fun f => if f = n then F else Fs f
theorem upF_s (Fs : Nat → pF) (n : Nat) (F : pF) : upF Fs n F n = F := if_pos rfl
theorem upF_n {Fs : Nat → pF} {n f : Nat} {F : pF} (h : f ≠ n) : upF Fs n F f = Fs f := if_neg h
/-- a form more -/
theorem bring_q {x : Option (Bool × pq_H)} {T : Nat → Int64} (S : St h n Fs) (z : n < 6) (hD : D ≤ 6) (hx : EQ x (fun h1 => frC h h1 ∧ RC h1 D T) f_X6_settle) (hr : ∀ t, t < tri (D + 1) → rgJ (T t) = true) : ok (bd2 x fun r h => bd2 (f_X10_cameOr r h) fun r h => some (r, h)) (fun r => r.1 = nI n ∧ St r.2 (n + 1) (upF Fs n (newF D T)) ∧ Kx h r.2 ∧ rI r.2 74 0 = nI 0) := by
  obtain ⟨h1, ⟨f1, r1, r2⟩, e⟩ := hx
  have S1 := S.frC f1
  obtain ⟨⟨b, h2⟩, e2, k1, k2, k3, k4⟩ := settle_c z hD S1.2.1 r1 (fun t ht => by rw [r2 t ht]; exact hr t ht)
  simp only at k1 k2 k3 k4
  subst k1
  rw [e, e2, bd2_some, bd2_id]
  unfold f_X10_cameOr
  rw [if_pos rfl, hl_d]
  have w : ∀ P k, P ≠ 74 → rI (wI h2 74 0 0) P k = rI h2 P k := fun P k hp => by rw [rI_ne (by omega)]
  rw [newF_congr r2] at k4
  refine ok_some ⟨?_, ⟨by omega, (w 56 3 (by omega)).trans k3, fun f hf => ?_⟩, ?_, rI_same _ _ _ _⟩
  · show rI (wI h2 74 0 0) 56 3 - 1 = nI n
    rw [w 56 3 (by omega), k3, i1, pk_sub (by omega)]
    rfl
  · by_cases c : f = n
    · subst c
      rw [upF_s]
      exact ⟨k4.fr (fun k => w _ k (by omega)) (fun k => w _ k (by omega)), okF_new hD hr⟩
    · rw [upF_n c]
      obtain ⟨a, b⟩ := S1.2.2 f (by omega)
      exact ⟨a.fr (fun k => (w _ k (by omega)).trans (k2 _ k (by omega) (by omega) (by omega))) (fun k => (w _ k (by omega)).trans (k2 _ k (by omega) (by omega) (by omega))), b⟩
  · refine f1.kx.tr ⟨fun p hp k => (w _ k (by omega)).trans (k2 _ k (by omega) (by omega) (by omega)), (w _ _ (by omega)).trans (k2 _ _ (by omega) (by omega) (by omega)), (w _ _ (by omega)).trans (k2 _ _ (by omega) (by omega) (by omega)), ?_⟩
    show rI (wI h2 74 0 0) 74 5 = _
    rw [rI_ne (by omega)]
    exact k2 _ _ (by omega) (by omega) (by omega)
theorem WC.rc {h1 : pq_H} {W : Nat → Nat → Int64} (w : WC h1 D W) : RC h1 D (Wt W) := ⟨w.1, fun t ht => w.t ht⟩
theorem EQ.mono {β : Type} {x : Option β} {P Q : pq_H → Prop} {g : pq_H → Option β} (e : EQ x P g) (i : ∀ h, P h → Q h) : EQ x Q g := by
  obtain ⟨a, b, c⟩ := e
  exact ⟨a, i a b, c⟩
theorem sum_q (S : St h n Fs) (z : n < 6) (hf : f < n) (hf' : f' < n) (hdd : (Fs f').2.2.1 = (Fs f).2.2.1) (hr : ∀ t, t < tri ((Fs f).2.2.1 + 1) → rgJ (Wt (fun s k => (cfV (Fs f) s k).toInt64 + (cfV (Fs f') s k).toInt64) t) = true) : ok (f_X10_sum (nI f) (nI f') h) (fun r => r.1 = nI n ∧ St r.2 (n + 1) (upF Fs n (newF (Fs f).2.2.1 (Wt (fun s k => (cfV (Fs f) s k).toInt64 + (cfV (Fs f') s k).toInt64)))) ∧ Kx h r.2 ∧ rI r.2 74 0 = nI 0) := by
  obtain ⟨c1, c3⟩ := S.2.2 f hf
  obtain ⟨d1, d3⟩ := S.2.2 f' hf'
  unfold f_X10_sum
  rw [if_neg (Bf (S.lacks hf)), if_neg (Bf (S.lacks hf')), inbN (show f < 6 by omega) (by decide), inbN (show f' < 6 by omega) (by decide), gd_t, gd_t, nI_clamp (by omega), nI_clamp (by omega), c1.2.2.1, d1.2.2.1, hdd, if_pos rfl]
  exact bring_q S z c3.2.2.1 ((sum_c (by omega) (by omega) hdd c1 c3 d1 d3).mono (fun h1 ⟨a, b⟩ => ⟨a, b.rc⟩)) hr
theorem prod_q (S : St h n Fs) (z : n < 6) (hf : f < n) (hf' : f' < n) (hD : (Fs f).2.2.1 + (Fs f').2.2.1 ≤ 6) (hr : ∀ t, t < tri ((Fs f).2.2.1 + (Fs f').2.2.1 + 1) → rgJ (pout (Fs f) (Fs f') (tri ((Fs f).2.2.1 + 1)) t) = true) : ok (f_X10_product (nI f) (nI f') h) (fun r => r.1 = nI n ∧ St r.2 (n + 1) (upF Fs n (newF ((Fs f).2.2.1 + (Fs f').2.2.1) (pout (Fs f) (Fs f') (tri ((Fs f).2.2.1 + 1))))) ∧ Kx h r.2 ∧ rI r.2 74 0 = nI 0) := by
  obtain ⟨c1, c3⟩ := S.2.2 f hf
  obtain ⟨d1, d3⟩ := S.2.2 f' hf'
  unfold f_X10_product
  rw [if_neg (Bf (S.lacks hf)), if_neg (Bf (S.lacks hf'))]
  exact bring_q S z hD (prod_c (by omega) (by omega) c1 c3 d1 d3) hr
theorem neg_q (S : St h n Fs) (z : n < 6) (hf : f < n) (hr : ∀ t, t < tri ((Fs f).2.2.1 + 1) → rgJ (Wt (fun s k => -(cfV (Fs f) s k).toInt64) t) = true) : ok (f_X10_negative (nI f) h) (fun r => r.1 = nI n ∧ St r.2 (n + 1) (upF Fs n (newF (Fs f).2.2.1 (Wt (fun s k => -(cfV (Fs f) s k).toInt64)))) ∧ Kx h r.2 ∧ rI r.2 74 0 = nI 0) := by
  obtain ⟨c1, c3⟩ := S.2.2 f hf
  unfold f_X10_negative
  rw [if_neg (Bf (S.lacks hf))]
  exact bring_q S z c3.2.2.1 ((neg_c (by omega) c1 c3).mono (fun h1 ⟨a, b⟩ => ⟨a, b.rc⟩)) hr
theorem lift_q {v : Nat} (S : St h n Fs) (z : n < 6) (hf : f < n) (hv : v ≤ 6) (hD : (Fs f).2.2.1 + v ≤ 6) (hr : ∀ t, t < tri ((Fs f).2.2.1 + v + 1) → rgJ (Wt (rzN 7 (Fs f).2.2.1 (wr0 (Fs f) 7) v) t) = true) : ok (f_X10_lift (nI f) (nI v) h) (fun r => r.1 = nI n ∧ St r.2 (n + 1) (upF Fs n (newF ((Fs f).2.2.1 + v) (Wt (rzN 7 (Fs f).2.2.1 (wr0 (Fs f) 7) v)))) ∧ Kx h r.2 ∧ rI r.2 74 0 = nI 0) := by
  obtain ⟨c1, c3⟩ := S.2.2 f hf
  unfold f_X10_lift
  rw [if_neg (Bf (S.lacks hf)), if_pos (nI_pos' (by omega))]
  exact bring_q S z hD ((lift_c (by omega) hv c1 c3).mono (fun h1 ⟨a, b⟩ => ⟨a, b.rc⟩)) hr
/-- no room for one more -/
theorem on_full {g : Nat} (S : St h 6 Fs) (hf : f < 6) (h1 : 1 ≤ g) (h2 : g ≤ 7) : ok (f_X10_on (nI f) (nI g) h) (fun r => r.1 = -6 ∧ St r.2 6 Fs ∧ Kx h r.2 ∧ rI r.2 74 0 = rI h 74 0) := by
  obtain ⟨c1, c3⟩ := S.2.2 f hf
  unfold f_X10_on
  rw [if_neg (Bf (S.lacks hf)), if_pos (side_yes h1 h2)]
  unfold f_X6_bringOn
  rw [inbN hf (by decide), gd_t, nI_clamp (by omega)]
  obtain ⟨x, e, k1, k2⟩ := takeOn_ok c1 c3 (by omega) h1 h2
  have S1 := S.frC k1
  rw [e, Option.bind_some, bd2_id]
  unfold f_X6_settle
  rw [full_ok (n := 6) (by omega) x S1.2.1, if_pos (by decide), bd2_some, bd2_id]
  unfold f_X10_cameOr f_X10_refuse
  rw [if_neg (by decide), bd2_id, if_neg (by decide), if_neg (by decide)]
  have w : ∀ P k, P ≠ 82 → rI (wI x 82 (- (-6 : Int32)).toNatClampNeg (rI x 82 (- (-6 : Int32)).toNatClampNeg + 1)) P k = rI x P k := fun P k hp => by rw [rI_ne (by omega)]
  exact ok_some ⟨rfl, ⟨by omega, (w 56 3 (by omega)).trans S1.2.1, fun f hf => ⟨(S1.2.2 f hf).1.fr (fun k => w _ k (by omega)) (fun k => w _ k (by omega)), (S1.2.2 f hf).2⟩⟩, k1.kx.tr ⟨fun p hp k => w _ k (by omega), w _ _ (by omega), w _ _ (by omega), w _ _ (by omega)⟩, (w 74 0 (by omega)).trans (k1.1 74 (by omega) 0)⟩
end BRINGC
