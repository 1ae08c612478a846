section ACTS
variable {h : pq_H} {n f D : Nat} {Fs : Nat → pF}
/-- the log: its size, its place -/
def Lg (h : pq_H) (m x : Nat) : Prop := m ≤ 16 ∧ x < 16 ∧ rI h 74 0 = nI m ∧ rI h 74 5 = nI x
theorem frC.lg {h' : pq_H} {m x : Nat} (l : Lg h m x) (fr : frC h h') : Lg h' m x := ⟨l.1, l.2.1, (fr.1 74 (by omega) 0).trans l.2.2.1, (fr.1 74 (by omega) 5).trans l.2.2.2⟩
def setT (F : pF) (t : Nat) (v : Int32) : pF := (F.1, F.2.1, F.2.2.1, fun u => if u = t then v else F.2.2.2 u)
def setK (F : pF) (a b : Nat) : pF := (a, b, F.2.2.1, F.2.2.2)
/-- only the forms and the log are written -/
def FL (f : Nat) (h h' : pq_H) : Prop := ∀ p k, p ≠ f → p ≠ f + 12 → (p < 74 ∨ 78 < p) → rI h' p k = rI h p k
theorem FL.kx5 {h' : pq_H} (hf : f < 6) (l : FL f h h') : (∀ p, (6 ≤ p ∧ p < 12) ∨ (18 ≤ p ∧ p < 24) → ∀ k, rI h' p k = rI h p k) ∧ rI h' 56 4 = rI h 56 4 ∧ rI h' 61 1 = rI h 61 1 := ⟨fun p hp k => l p k (by omega) (by omega) (by omega), l _ _ (by omega) (by omega) (by omega), l _ _ (by omega) (by omega) (by omega)⟩
theorem St.fl {h' : pq_H} {F : pF} (S : St h n Fs) (hf : f < n) (l : FL f h h') (c : FormC h' f F) (k : okF F) : St h' n (upF Fs f F) := by
  have h6 := S.1
  refine ⟨h6, (l _ _ (by omega) (by omega) (by omega)).trans S.2.1, fun f' hf' => ?_⟩
  by_cases e : f' = f
  · subst e; rw [upF_s]; exact ⟨c, k⟩
  · rw [upF_n e]
    obtain ⟨a, b⟩ := S.2.2 f' hf'
    exact ⟨a.fr (fun k => l _ _ (by omega) (by omega) (by omega)) (fun k => l _ _ (by omega) (by omega) (by omega)), b⟩
theorem change_q {t m x : Nat} {v : Int32} (S : St h n Fs) (hf : f < n) (ht : t < tri ((Fs f).2.2.1 + 1)) (L : Lg h m x) (v1 : -1000000 ≤ v) (v2 : v ≤ 1000000) : ok (f_X10_change (nI f) (nI t) v h) (fun r => r.1 = (Fs f).2.2.2 t ∧ St r.2 n (upF Fs f (setT (Fs f) t v)) ∧ FL f h r.2 ∧ Lg r.2 ((if m = 16 then 15 else m) + 1) ((x + 1) % 16) ∧ (∀ p, 75 ≤ p → p ≤ 78 → ∀ k, k ≠ x → rI r.2 p k = rI h p k) ∧ rI r.2 75 x = nI f ∧ rI r.2 76 x = nI t ∧ rI r.2 77 x = (Fs f).2.2.2 t) := by
  have h6 := S.1
  obtain ⟨c1, c3⟩ := S.2.2 f hf
  have hd := c3.2.2.1
  have h28 := tri28 hd
  obtain ⟨l1, l2, l3, l4⟩ := L
  unfold f_X10_change f_X10_lacksTerm
  rw [if_neg (Bf (S.lacks hf)), inbN (show f < 6 by omega) (by decide), gd_t, nI_clamp (by omega), c1.2.2.1, termsOf_nI (by omega), Option.bind_some, if_neg (Bf (nb_no ht (by omega))), if_pos v1, if_pos v2, gd_t, inbN (show t < 28 by omega) (by decide), gd_t, gd_t, nI_clamp (by omega), hl_d, c1.2.2.2 t (by omega)]
  obtain ⟨H, hH⟩ : ∃ H, H = wI h (f + 12) t v := ⟨_, rfl⟩
  have w : ∀ p k, (p ≠ f + 12 ∨ k ≠ t) → rI H p k = rI h p k := fun p k hp => by rw [hH, rI_ne (by omega)]
  have w1 : rI H (f + 12) t = v := by rw [hH, rI_same]
  rw [← hH]
  clear hH
  refine ok_bind (add_ok (m0 := if m = 16 then 15 else m) l2 (by split <;> omega) ((w _ _ (by omega)).trans l3) ((w _ _ (by omega)).trans l4) _ _ _ _) (fun h' ⟨a1, a2, a3, a4, a5, a6, a7, a8, _⟩ => ?_)
  refine ok_some ⟨rfl, S.fl hf ?_ ⟨?_, ?_, ?_, fun u hu => ?_⟩ ⟨c3.1, c3.2.1, hd, fun u hu => ?_⟩, ?_, ⟨?_, Nat.mod_lt _ (by decide), a3, a4⟩, fun p p1 p2 k hk => (a2 p p1 p2 k hk).trans (w _ _ (by omega)), a5, a6, a7⟩
  · exact fun p k p1 p2 p3 => (a1 p k p3).trans (w _ _ (by omega))
  · exact ((a1 _ _ (by omega)).trans (w _ _ (by omega))).trans c1.1
  · exact ((a1 _ _ (by omega)).trans (w _ _ (by omega))).trans c1.2.1
  · exact ((a1 _ _ (by omega)).trans (w _ _ (by omega))).trans c1.2.2.1
  · show rI h' (f + 12) u = if u = t then v else (Fs f).2.2.2 u
    rw [a1 _ _ (by omega)]
    by_cases e : u = t
    · subst e; rw [w1, if_pos rfl]
    · rw [w _ _ (by omega), if_neg e]; exact c1.2.2.2 u hu
  · show bdI (if u = t then v else (Fs f).2.2.2 u)
    split
    · exact i32_bd v1 v2
    · exact c3.2.2.2 u hu
  · exact fun p k p1 p2 p3 => (a1 p k p3).trans (w _ _ (by omega))
  · show (if m = 16 then 15 else m) + 1 ≤ 16
    split <;> omega
theorem turn_q {m x a b : Nat} (S : St h n Fs) (hf : f < n) (L : Lg h m x) (ha : a < 6) (hb : b ≤ 9) : ok (f_X10_turn (nI f) (nI a) (nI b) h) (fun r => r.1 = nI (10 * (Fs f).1 + (Fs f).2.1) ∧ St r.2 n (upF Fs f (setK (Fs f) a b)) ∧ FL f h r.2 ∧ Lg r.2 ((if m = 16 then 15 else m) + 1) ((x + 1) % 16) ∧ (∀ p, 75 ≤ p → p ≤ 78 → ∀ k, k ≠ x → rI r.2 p k = rI h p k) ∧ rI r.2 75 x = nI f ∧ rI r.2 76 x = -1 ∧ rI r.2 77 x = nI (Fs f).1 ∧ rI r.2 78 x = nI (Fs f).2.1) := by
  have h6 := S.1
  obtain ⟨c1, c3⟩ := S.2.2 f hf
  have hd := c3.2.2.1
  obtain ⟨l1, l2, l3, l4⟩ := L
  unfold f_X10_turn
  rw [if_neg (Bf (S.lacks hf)), if_neg (Bf (show f_X10_notBelow (nI a) 6 = false from nb_no (N := 6) ha (by decide))), if_pos (nI_pos' (by omega)), if_pos (show nI b ≤ 9 from le_nIn (b := 9) hb (by decide)), inbN (show f < 6 by omega) (by decide), gd_t, nI_clamp (by omega), c1.1, c1.2.1]
  refine ok_bind (add_ok (m0 := if m = 16 then 15 else m) l2 (by split <;> omega) l3 l4 _ _ _ _) (fun h' ⟨a1, a2, a3, a4, a5, a6, a7, a8, _⟩ => ?_)
  rw [hl_d]
  obtain ⟨H, hH⟩ : ∃ H, H = wI (wI h' f 1 (nI a)) f 2 (nI b) := ⟨_, rfl⟩
  have w : ∀ p k, (p ≠ f ∨ (k ≠ 1 ∧ k ≠ 2)) → rI H p k = rI h' p k := fun p k hp => by rw [hH, rI_ne (by omega), rI_ne (by omega)]
  have w1 : rI H f 1 = nI a := by rw [hH, rI_ne (by omega), rI_same]
  have w2 : rI H f 2 = nI b := by rw [hH, rI_same]
  rw [← hH]
  clear hH
  have e1 : rI h' f 1 = nI (Fs f).1 := (a1 _ _ (by omega)).trans c1.1
  have e2 : rI h' f 2 = nI (Fs f).2.1 := (a1 _ _ (by omega)).trans c1.2.1
  refine ok_some ⟨?_, S.fl hf ?_ ⟨w1, w2, ?_, fun u hu => ?_⟩ ⟨by show a ≤ 5; omega, hb, hd, c3.2.2.2⟩, ?_, ⟨?_, Nat.mod_lt _ (by decide), (w _ _ (by omega)).trans a3, (w _ _ (by omega)).trans a4⟩, fun p p1 p2 k hk => (w _ _ (by omega)).trans (a2 p p1 p2 k hk), (w _ _ (by omega)).trans a5, (w _ _ (by omega)).trans a6, (w _ _ (by omega)).trans a7, (w _ _ (by omega)).trans a8⟩
  · show 10 * rI h' f 1 + rI h' f 2 = _
    rw [e1, e2, show (10 : Int32) = nI 10 from rfl, pk_mul, nI_add]
  · exact fun p k p1 p2 p3 => (w _ _ (by omega)).trans (a1 p k p3)
  · exact ((w _ _ (by omega)).trans (a1 _ _ (by omega))).trans c1.2.2.1
  · exact ((w _ _ (by omega)).trans (a1 _ _ (by omega))).trans (c1.2.2.2 u hu)
  · exact fun p k p1 p2 p3 => (w _ _ (by omega)).trans (a1 p k p3)
  · show (if m = 16 then 15 else m) + 1 ≤ 16
    split <;> omega
/-- what was last is taken back -/
theorem undo_start {m x : Nat} (L : Lg h (m + 1) x) : ∃ H, (∀ p k, p ≠ 74 → rI H p k = rI h p k) ∧ rI H 74 0 = nI m ∧ rI H 74 5 = nI ((x + 15) % 16) ∧ f_X10_undo h = (if f_X6_lacks (rI H 75 ((x + 15) % 16)) H = true then some H else (gd (inb (rI H 75 ((x + 15) % 16)) 6) (if rI H 76 ((x + 15) % 16) = (-1) then (hl (wI H ((rI H 75 ((x + 15) % 16)).toNatClampNeg) 1 (rI H 77 ((x + 15) % 16))) fun h81 => gd (inb (rI h81 74 5) 16) (some (wI h81 ((rI H 75 ((x + 15) % 16)).toNatClampNeg) 2 (rI h81 78 (rI h81 74 5).toNatClampNeg)))) else (gd (inb (rI H 76 ((x + 15) % 16)) 28) (some (wI H (((rI H 75 ((x + 15) % 16)).toNatClampNeg) + 12) (rI H 76 ((x + 15) % 16)).toNatClampNeg (rI H 77 ((x + 15) % 16)))))))).bind fun h25 => some (rI h25 74 0, h25) := by
  obtain ⟨l1, l2, l3, l4⟩ := L
  unfold f_X10_undo f_X8_takeBack
  simp only [hl_d]
  obtain ⟨j, hj⟩ : ∃ j, j = (x + 15) % 16 := ⟨_, rfl⟩
  have en : nI x + 16 - 1 - (nI x + 16 - 1) / 16 * 16 = nI j := by
    rw [show (16 : Int32) = nI 16 from rfl, nI_add, show (1 : Int32) = nI 1 from rfl, pk_sub (by omega), ← (show (16 : Int32) = nI 16 from rfl), rem16 (by omega), hj]
    rfl
  have hj16 : j < 16 := by omega
  rw [l3, l4, if_pos (show (0 : Int32) < nI (m + 1) from nI_lt (a := 0) (by omega) (by omega)), en, ← hj]
  have z0 : rI (wI h 74 5 (nI j)) 74 0 = nI (m + 1) := by rw [rI_ne (by omega)]; exact l3
  rw [z0, show nI (m + 1) - 1 = nI m by rw [i1, pk_sub (by omega)]; rfl]
  obtain ⟨H, hH⟩ : ∃ H, H = wI (wI h 74 5 (nI j)) 74 0 (nI m) := ⟨_, rfl⟩
  rw [← hH]
  have C0 : ∀ p k, p ≠ 74 → rI H p k = rI h p k := fun p k hp => by rw [hH, rI_ne (by omega), rI_ne (by omega)]
  have C1 : rI H 74 0 = nI m := by rw [hH, rI_same]
  have C2 : rI H 74 5 = nI j := by rw [hH, rI_ne (by omega), rI_same]
  clear hH
  refine ⟨H, C0, C1, C2, ?_⟩
  rw [C2, inbN hj16 (by decide), nI_clamp (n := j) (by omega)]
  simp only [gd_t]
theorem undo_turn {m x a b : Nat} (S : St h n Fs) (hf : f < n) (L : Lg h (m + 1) x) (u1 : rI h 75 ((x + 15) % 16) = nI f) (u2 : rI h 76 ((x + 15) % 16) = -1) (u3 : rI h 77 ((x + 15) % 16) = nI a) (u4 : rI h 78 ((x + 15) % 16) = nI b) (ha : a < 6) (hb : b ≤ 9) : ok (f_X10_undo h) (fun r => r.1 = nI m ∧ St r.2 n (upF Fs f (setK (Fs f) a b)) ∧ FL f h r.2 ∧ Lg r.2 m ((x + 15) % 16) ∧ ∀ p, 75 ≤ p → p ≤ 78 → ∀ k, rI r.2 p k = rI h p k) := by
  have h6 := S.1
  have h16 := L.1
  obtain ⟨H, C0, C1, C2, e⟩ := undo_start L
  obtain ⟨c1, c3⟩ := S.2.2 f hf
  have lk : f_X6_lacks (nI f) H = false := by
    have e : f_X6_lacks (nI f) H = f_X6_lacks (nI f) h := by
      unfold f_X6_lacks
      rw [C0 56 3 (by omega)]
    rw [e]
    exact S.lacks hf
  rw [e, C0 75 _ (by omega), u1, if_neg (Bf lk), inbN (show f < 6 by omega) (by decide), gd_t, C0 76 _ (by omega), u2, if_pos rfl, hl_d, C0 77 _ (by omega), u3, nI_clamp (show f < 2 ^ 31 by omega)]
  rw [show rI (wI H f 1 (nI a)) 74 5 = nI ((x + 15) % 16) by rw [rI_ne (by omega)]; exact C2, inbN (Nat.mod_lt _ (by decide)) (by decide), gd_t, nI_clamp (show (x + 15) % 16 < 2 ^ 31 by omega), show rI (wI H f 1 (nI a)) 78 ((x + 15) % 16) = nI b by rw [rI_ne (by omega), C0 _ _ (by omega)]; exact u4, Option.bind_some]
  obtain ⟨K, hK⟩ : ∃ K, K = wI (wI H f 1 (nI a)) f 2 (nI b) := ⟨_, rfl⟩
  have w : ∀ p k, (p ≠ f ∨ (k ≠ 1 ∧ k ≠ 2)) → rI K p k = rI H p k := fun p k hp => by rw [hK, rI_ne (by omega), rI_ne (by omega)]
  have w1 : rI K f 1 = nI a := by rw [hK, rI_ne (by omega), rI_same]
  have w2 : rI K f 2 = nI b := by rw [hK, rI_same]
  rw [← hK]
  clear hK
  have l : FL f h K := fun p k p1 p2 p3 => (w _ _ (by omega)).trans (C0 _ _ (by omega))
  refine ok_some ⟨(w _ _ (by omega)).trans C1, S.fl hf l ⟨w1, w2, ((w _ _ (by omega)).trans (C0 _ _ (by omega))).trans c1.2.2.1, fun u hu => ((w _ _ (by omega)).trans (C0 _ _ (by omega))).trans (c1.2.2.2 u hu)⟩ ⟨by show a ≤ 5; omega, hb, c3.2.2.1, c3.2.2.2⟩, l, ⟨by omega, Nat.mod_lt _ (by decide), (w _ _ (by omega)).trans C1, (w _ _ (by omega)).trans C2⟩, fun p p1 p2 k => (w _ _ (by omega)).trans (C0 _ _ (by omega))⟩
theorem undo_change {m x t : Nat} {v : Int32} (S : St h n Fs) (hf : f < n) (L : Lg h (m + 1) x) (u1 : rI h 75 ((x + 15) % 16) = nI f) (u2 : rI h 76 ((x + 15) % 16) = nI t) (u3 : rI h 77 ((x + 15) % 16) = v) (ht : t < 28) (hv : bdI v) : ok (f_X10_undo h) (fun r => r.1 = nI m ∧ St r.2 n (upF Fs f (setT (Fs f) t v)) ∧ FL f h r.2 ∧ Lg r.2 m ((x + 15) % 16)) := by
  have h6 := S.1
  have h16 := L.1
  obtain ⟨H, C0, C1, C2, e⟩ := undo_start L
  obtain ⟨c1, c3⟩ := S.2.2 f hf
  have lk : f_X6_lacks (nI f) H = false := by
    have e : f_X6_lacks (nI f) H = f_X6_lacks (nI f) h := by
      unfold f_X6_lacks
      rw [C0 56 3 (by omega)]
    rw [e]
    exact S.lacks hf
  rw [e, C0 75 _ (by omega), u1, if_neg (Bf lk), inbN (show f < 6 by omega) (by decide), gd_t, C0 76 _ (by omega), u2, if_neg (show ¬ nI t = -1 from fun z => nI_pos (n := t) (by omega) (by rw [z]; decide)), inbN ht (by decide), gd_t, C0 77 _ (by omega), u3, nI_clamp (show f < 2 ^ 31 by omega), nI_clamp (show t < 2 ^ 31 by omega), Option.bind_some]
  obtain ⟨K, hK⟩ : ∃ K, K = wI H (f + 12) t v := ⟨_, rfl⟩
  have w : ∀ p k, (p ≠ f + 12 ∨ k ≠ t) → rI K p k = rI H p k := fun p k hp => by rw [hK, rI_ne (by omega)]
  have w1 : rI K (f + 12) t = v := by rw [hK, rI_same]
  rw [← hK]
  clear hK
  have l : FL f h K := fun p k p1 p2 p3 => (w _ _ (by omega)).trans (C0 _ _ (by omega))
  refine ok_some ⟨(w _ _ (by omega)).trans C1, S.fl hf l ⟨((w _ _ (by omega)).trans (C0 _ _ (by omega))).trans c1.1, ((w _ _ (by omega)).trans (C0 _ _ (by omega))).trans c1.2.1, ((w _ _ (by omega)).trans (C0 _ _ (by omega))).trans c1.2.2.1, fun u hu => ?_⟩ ⟨c3.1, c3.2.1, c3.2.2.1, fun u hu => ?_⟩, l, ⟨by omega, Nat.mod_lt _ (by decide), (w _ _ (by omega)).trans C1, (w _ _ (by omega)).trans C2⟩⟩
  · show rI K (f + 12) u = if u = t then v else (Fs f).2.2.2 u
    by_cases e : u = t
    · subst e; rw [w1, if_pos rfl]
    · rw [w _ _ (by omega), C0 _ _ (by omega), if_neg e]; exact c1.2.2.2 u hu
  · show bdI (if u = t then v else (Fs f).2.2.2 u)
    split
    · exact hv
    · exact c3.2.2.2 u hu
/-- nothing to take back -/
theorem undo_no (S : St h n Fs) (h0 : rI h 74 0 = nI 0) : ok (f_X10_undo h) (fun r => r.1 = -3 ∧ St r.2 n Fs) := by
  unfold f_X10_undo f_X10_refuse
  rw [h0, if_neg (by decide), if_neg (by decide), if_neg (by decide), bd2_id]
  have w : ∀ P k, P ≠ 82 → rI (wI h 82 (- (-3 : Int32)).toNatClampNeg (rI h 82 (- (-3 : Int32)).toNatClampNeg + 1)) P k = rI h P k := fun P k hp => by rw [rI_ne (by omega)]
  have h6 := S.1
  exact ok_some ⟨rfl, h6, (w 56 3 (by omega)).trans S.2.1, fun f hf => ⟨(S.2.2 f hf).1.fr (fun k => w _ k (by omega)) (fun k => w _ k (by omega)), (S.2.2 f hf).2⟩⟩
/-- the image -/
def Kp (h : pq_H) (n : Nat) (Fs : Nat → pF) : Prop := n ≤ 6 ∧ rI h 56 4 = nI n ∧ ∀ f, f < n → FormC h (6 + f) (Fs f) ∧ okF (Fs f)
theorem Kp.mono {h' : pq_H} (K : Kp h n Fs) (k1 : ∀ p, (6 ≤ p ∧ p < 12) ∨ (18 ≤ p ∧ p < 24) → ∀ k, rI h' p k = rI h p k) (k2 : rI h' 56 4 = rI h 56 4) : Kp h' n Fs := by
  have h6 := K.1
  exact ⟨h6, k2.trans K.2.1, fun f hf => ⟨(K.2.2 f hf).1.fr (k1 _ (by omega)) (k1 _ (by omega)), (K.2.2 f hf).2⟩⟩
theorem Kp.kx {h' : pq_H} (K : Kp h n Fs) (k : Kx h h') : Kp h' n Fs := K.mono k.1 k.2.1
theorem image_q (S : St h n Fs) : ok (f_X10_image h) (fun r => r.1 = nI n ∧ St r.2 n Fs ∧ Kp r.2 n Fs ∧ ∀ p, p = 61 ∨ p = 74 → ∀ k, rI r.2 p k = rI h p k) := by
  have h6 := S.1
  unfold f_X10_image
  refine ok_bind (keep_ok h6 S.2.1) (fun h' ⟨a1, a2, a3, _⟩ => ?_)
  have w : ∀ P k, ¬ ((6 ≤ P ∧ P < 12) ∨ (18 ≤ P ∧ P < 24)) → (P ≠ 56 ∨ k ≠ 4) → rI h' P k = rI h P k := a1
  exact ok_some ⟨(w _ _ (by omega) (by omega)).trans S.2.1, ⟨h6, (w _ _ (by omega) (by omega)).trans S.2.1, fun f hf => ⟨(S.2.2 f hf).1.fr (fun k => w _ _ (by omega) (by omega)) (fun k => w _ _ (by omega) (by omega)), (S.2.2 f hf).2⟩⟩, ⟨h6, a2, fun f hf => ⟨a3 f hf _ (S.2.2 f hf).1, (S.2.2 f hf).2⟩⟩, fun p hp k => w _ _ (by omega) (by omega)⟩
theorem back_q (K : Kp h n Fs) : ok (f_X10_back h) (fun r => r.1 = nI n ∧ St r.2 n Fs ∧ rI r.2 74 0 = nI 0) := by
  have h6 := K.1
  unfold f_X10_back
  rw [K.2.1, if_pos (nI_pos' (by omega))]
  refine ok_bind (restore_ok h6 K.2.1) (fun h' ⟨a1, a2, a3, _⟩ => ?_)
  rw [hl_d]
  have w : ∀ P k, P ≠ 74 → rI (wI h' 74 0 0) P k = rI h' P k := fun P k hp => by rw [rI_ne (by omega)]
  exact ok_some ⟨(w _ _ (by omega)).trans a2, ⟨h6, (w _ _ (by omega)).trans a2, fun f hf => ⟨(a3 f hf _ (K.2.2 f hf).1).fr (fun k => w _ _ (by omega)) (fun k => w _ _ (by omega)), (K.2.2 f hf).2⟩⟩, rI_same _ _ _ _⟩
theorem count0_q (S : St h n Fs) : f_X10_count 0 h = some (nI n) := by
  unfold f_X10_count
  rw [if_pos rfl, S.2.1]
theorem drop_q (S : St h (n + 1) Fs) : ok (f_X10_drop h) (fun r => r.1 = nI n ∧ St r.2 n Fs ∧ Kx h r.2 ∧ rI r.2 74 0 = nI 0) := by
  have h6 := S.1
  unfold f_X10_drop
  rw [S.2.1, if_pos (show (0 : Int32) < nI (n + 1) from nI_lt (a := 0) (by omega) (by omega)), hl_d, hl_d, show nI (n + 1) - 1 = nI n by rw [i1, pk_sub (by omega)]; rfl]
  obtain ⟨H, hH⟩ : ∃ H, H = wI (wI h 56 3 (nI n)) 74 0 0 := ⟨_, rfl⟩
  have w : ∀ p k, (p ≠ 56 ∨ k ≠ 3) → (p ≠ 74 ∨ k ≠ 0) → rI H p k = rI h p k := fun p k hp hq => by rw [hH, rI_ne (by omega), rI_ne (by omega)]
  have w1 : rI H 56 3 = nI n := by rw [hH, rI_ne (by omega), rI_same]
  have w2 : rI H 74 0 = 0 := by rw [hH, rI_same]
  rw [← hH]
  clear hH
  exact ok_some ⟨w1, ⟨by omega, w1, fun f hf => ⟨(S.2.2 f (by omega)).1.fr (fun k => w _ _ (by omega) (by omega)) (fun k => w _ _ (by omega) (by omega)), (S.2.2 f (by omega)).2⟩⟩, ⟨fun p hp k => w _ _ (by omega) (by omega), w _ _ (by omega) (by omega), w _ _ (by omega) (by omega), w _ _ (by omega) (by omega)⟩, w2⟩
end ACTS
