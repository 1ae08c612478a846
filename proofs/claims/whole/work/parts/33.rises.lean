section RISES
variable {hC hM : pq_H}
def pr (g D : Nat) (W : Nat → Nat → Int64) (la lb lc s k : Nat) : Int64 := ((if g % 2 = 1 ∧ s ≤ D ∧ tri s + k < la then W s k else 0) + (if g / 2 % 2 = 1 ∧ k < s ∧ tri (s - 1) + k < lb then W (s - 1) k else 0)) + (if g / 4 % 2 = 1 ∧ 0 < k ∧ tri (s - 1) + (k - 1) < lc then W (s - 1) (k - 1) else 0)
theorem if_c {c d : Prop} [Decidable c] [Decidable d] (h : c ↔ d) (a b : Int64) : (if c then a else b) = if d then a else b := by
  by_cases z : c
  · rw [if_pos z, if_pos (h.mp z)]
  · rw [if_neg z, if_neg (fun y => z (h.mpr y))]
theorem pr_end {g D s k : Nat} {W : Nat → Nat → Int64} (hs : s ≤ D + 1) (hk : k ≤ s) : pr g D W (tri (D + 1)) (tri (D + 1)) (tri (D + 1)) s k = rz g D W s k := by
  unfold pr rz
  have e1 : (g % 2 = 1 ∧ s ≤ D ∧ tri s + k < tri (D + 1)) ↔ (g % 2 = 1 ∧ s ≤ D) := ⟨fun z => ⟨z.1, z.2.1⟩, fun z => ⟨z.1, z.2, tri_lt (by omega) hk⟩⟩
  have e2 : (g / 2 % 2 = 1 ∧ k < s ∧ tri (s - 1) + k < tri (D + 1)) ↔ (g / 2 % 2 = 1 ∧ k < s) := ⟨fun z => ⟨z.1, z.2.1⟩, fun z => ⟨z.1, z.2, tri_lt (by omega) (by omega)⟩⟩
  have e3 : (g / 4 % 2 = 1 ∧ 0 < k ∧ tri (s - 1) + (k - 1) < tri (D + 1)) ↔ (g / 4 % 2 = 1 ∧ 0 < k) := ⟨fun z => ⟨z.1, z.2.1⟩, fun z => ⟨z.1, z.2, tri_lt (by omega) (by omega)⟩⟩
  rw [if_c e1, if_c e2, if_c e3]
def prow (h : pq_H) (g D : Nat) (W : Nat → Nat → Int64) (la lb lc : Nat) : Prop := ∀ s k, s ≤ D + 1 → k ≤ s → rJ h 15 (tri s + k) = pr g D W la lb lc s k
theorem prow_a {h : pq_H} {g D s0 k0 lb lc : Nat} {W : Nat → Nat → Int64} (hs0 : s0 ≤ D) (hk0 : k0 ≤ s0) (hr : prow h g D W (tri s0 + k0) lb lc) (v : Int64) (hv : v = rJ h 15 (tri s0 + k0) + W s0 k0) (hb : g % 2 = 1) : prow (wJ h 15 (tri s0 + k0) v) g D W (tri s0 + k0 + 1) lb lc := by
  intro s k hs hk
  by_cases e : tri s + k = tri s0 + k0
  · obtain ⟨rfl, rfl⟩ := tri_inj hk hk0 e
    rw [rJ_same, hv, hr s k hs hk]
    unfold pr
    rw [if_neg (show ¬ (g % 2 = 1 ∧ s ≤ D ∧ tri s + k < tri s + k) by omega), if_pos (show g % 2 = 1 ∧ s ≤ D ∧ tri s + k < tri s + k + 1 by omega), Int64.zero_add, Int64.add_comm _ (W s k), ← Int64.add_assoc]
  · rw [rJ_ne (by omega), hr s k hs hk]
    unfold pr
    rw [if_c (show (g % 2 = 1 ∧ s ≤ D ∧ tri s + k < tri s0 + k0) ↔ (g % 2 = 1 ∧ s ≤ D ∧ tri s + k < tri s0 + k0 + 1) by omega)]
theorem prow_a0 {h : pq_H} {g D la lb lc : Nat} {W : Nat → Nat → Int64} (hr : prow h g D W la lb lc) (hb : ¬ g % 2 = 1) : prow h g D W (la + 1) lb lc := by
  intro s k hs hk
  rw [hr s k hs hk]
  unfold pr
  rw [if_neg (show ¬ (g % 2 = 1 ∧ s ≤ D ∧ tri s + k < la) by omega), if_neg (show ¬ (g % 2 = 1 ∧ s ≤ D ∧ tri s + k < la + 1) by omega)]
theorem prow_b {h : pq_H} {g D s0 k0 la lc : Nat} {W : Nat → Nat → Int64} (hs0 : s0 ≤ D) (hk0 : k0 ≤ s0) (hr : prow h g D W la (tri s0 + k0) lc) (v : Int64) (hv : v = rJ h 15 (tri (s0 + 1) + k0) + W s0 k0) (hb : g / 2 % 2 = 1) : prow (wJ h 15 (tri (s0 + 1) + k0) v) g D W la (tri s0 + k0 + 1) lc := by
  intro s k hs hk
  by_cases e : tri s + k = tri (s0 + 1) + k0
  · obtain ⟨rfl, rfl⟩ := tri_inj hk (by omega) e
    rw [rJ_same, hv, hr (s0 + 1) k hs hk]
    unfold pr
    rw [Nat.add_sub_cancel, if_neg (show ¬ (g / 2 % 2 = 1 ∧ k < s0 + 1 ∧ tri s0 + k < tri s0 + k) by omega), if_pos (show g / 2 % 2 = 1 ∧ k < s0 + 1 ∧ tri s0 + k < tri s0 + k + 1 by omega), Int64.add_zero, Int64.add_assoc, Int64.add_assoc, Int64.add_comm _ (W s0 k)]
  · rw [rJ_ne (by omega), hr s k hs hk]
    unfold pr
    rw [if_c (show (g / 2 % 2 = 1 ∧ k < s ∧ tri (s - 1) + k < tri s0 + k0) ↔ (g / 2 % 2 = 1 ∧ k < s ∧ tri (s - 1) + k < tri s0 + k0 + 1) by
      constructor
      · intro z; omega
      · intro z
        refine ⟨z.1, z.2.1, ?_⟩
        by_cases q : tri (s - 1) + k = tri s0 + k0
        · obtain ⟨a, b⟩ := tri_inj (by omega) hk0 q
          exact absurd (by rw [show s = s0 + 1 by omega, b]) e
        · omega)]
theorem prow_b0 {h : pq_H} {g D la lb lc : Nat} {W : Nat → Nat → Int64} (hr : prow h g D W la lb lc) (hb : ¬ g / 2 % 2 = 1) : prow h g D W la (lb + 1) lc := by
  intro s k hs hk
  rw [hr s k hs hk]
  unfold pr
  rw [if_neg (show ¬ (g / 2 % 2 = 1 ∧ k < s ∧ tri (s - 1) + k < lb) by omega), if_neg (show ¬ (g / 2 % 2 = 1 ∧ k < s ∧ tri (s - 1) + k < lb + 1) by omega)]
theorem prow_c {h : pq_H} {g D s0 k0 la lb : Nat} {W : Nat → Nat → Int64} (hs0 : s0 ≤ D) (hk0 : k0 ≤ s0) (hr : prow h g D W la lb (tri s0 + k0)) (v : Int64) (hv : v = rJ h 15 (tri (s0 + 1) + (k0 + 1)) + W s0 k0) (hb : g / 4 % 2 = 1) : prow (wJ h 15 (tri (s0 + 1) + (k0 + 1)) v) g D W la lb (tri s0 + k0 + 1) := by
  intro s k hs hk
  by_cases e : tri s + k = tri (s0 + 1) + (k0 + 1)
  · obtain ⟨rfl, rfl⟩ := tri_inj hk (by omega) e
    rw [rJ_same, hv, hr (s0 + 1) (k0 + 1) hs hk]
    unfold pr
    rw [Nat.add_sub_cancel, Nat.add_sub_cancel, if_neg (show ¬ (g / 4 % 2 = 1 ∧ 0 < k0 + 1 ∧ tri s0 + k0 < tri s0 + k0) by omega), if_pos (show g / 4 % 2 = 1 ∧ 0 < k0 + 1 ∧ tri s0 + k0 < tri s0 + k0 + 1 by omega), Int64.add_zero]
  · rw [rJ_ne (by omega), hr s k hs hk]
    unfold pr
    rw [if_c (show (g / 4 % 2 = 1 ∧ 0 < k ∧ tri (s - 1) + (k - 1) < tri s0 + k0) ↔ (g / 4 % 2 = 1 ∧ 0 < k ∧ tri (s - 1) + (k - 1) < tri s0 + k0 + 1) by
      constructor
      · intro z; omega
      · intro z
        refine ⟨z.1, z.2.1, ?_⟩
        by_cases q : tri (s - 1) + (k - 1) = tri s0 + k0
        · obtain ⟨a, b⟩ := tri_inj (by omega) hk0 q
          exact absurd (by rw [show s = s0 + 1 by omega, show k = k0 + 1 by omega]) e
        · omega)]
theorem prow_c0 {h : pq_H} {g D la lb lc : Nat} {W : Nat → Nat → Int64} (hr : prow h g D W la lb lc) (hb : ¬ g / 4 % 2 = 1) : prow h g D W la lb (lc + 1) := by
  intro s k hs hk
  rw [hr s k hs hk]
  unfold pr
  rw [if_neg (show ¬ (g / 4 % 2 = 1 ∧ 0 < k ∧ tri (s - 1) + (k - 1) < lc) by omega), if_neg (show ¬ (g / 4 % 2 = 1 ∧ 0 < k ∧ tri (s - 1) + (k - 1) < lc + 1) by omega)]
theorem rises_ok {h : pq_H} {g D : Nat} {W : Nat → Nat → Int64} (h2 : g ≤ 7) (hD : D < 18) (hW : WM h D W) : ok (f_X11_rises (nI g) h) (fun h' => frM h h' ∧ WM h' (D + 1) (rz g D W)) := by
  have b18 : ∀ s k, s ≤ D + 1 → k ≤ s → tri s + k < 190 := fun s k h1 h2 => by
    have := tri18 (show s ≤ 18 by omega)
    omega
  have hb : tri (D + 1) ≤ 171 := tri_mono (show D + 1 ≤ 18 by omega)
  have hb2 : tri (D + 2) ≤ 190 := tri_mono (show D + 2 ≤ 19 by omega)
  unfold f_X11_rises
  -- the row is kept ahead
  refine lp_forH (fun i h' => frM h h' ∧ rI h' 0 21 = nI D ∧ (∀ t, rJ h' 15 t = rJ h 15 t) ∧ ∀ t, t < i → rJ h' 16 t = rJ h 15 t) (tri (D + 1)) ?_ ?_ 1000 0 h (by omega) (by omega) ⟨frM.rf h, hW.1, fun t => rfl, fun t ht => by omega⟩
  · intro i h' w hi ⟨g1, g2, g3, g4⟩ hw
    unfold f_X11_rises_l2
    rw [g2, termsOfM_nI (by omega), if_neg (nI_ge hi (by omega)), inbN (show i < 190 by omega) (by decide), gd_t, gd_t, nI_clamp (by omega), nI_1]
    refine hw _ ⟨g1.tr (frM.wJ _ _ _ _), g2, fun t => by rw [rJ_ne (by omega)]; exact g3 t, fun t ht => ?_⟩
    by_cases e : t = i
    · subst e; rw [rJ_same]; exact g3 t
    · rw [rJ_ne (by omega)]; exact g4 t (by omega)
  intro ha w ⟨g1, g2, g3, g4⟩
  unfold f_X11_rises_l2 f_X11_rises_j31
  rw [g2, termsOfM_nI (by omega), if_pos (le_nIn (Nat.le_refl _) (by omega))]
  -- nought everywhere
  refine lp_forH (fun i h' => frM h h' ∧ rI h' 0 21 = nI D ∧ (∀ t, t < tri (D + 1) → rJ h' 16 t = rJ h 15 t) ∧ ∀ t, t < i → rJ h' 15 t = 0) (tri (D + 2)) ?_ ?_ 1000 0 ha (by omega) (by omega) ⟨g1, g2, g4, fun t ht => by omega⟩
  · intro i h' w hi ⟨g1, g2, g3, g4⟩ hw
    unfold f_X11_rises_l33
    rw [g2, nI_1, termsOfM_nI (by omega), if_neg (nI_ge hi (by omega)), inbN (show i < 190 by omega) (by decide), gd_t, nI_clamp (by omega), nI_1]
    refine hw _ ⟨g1.tr (frM.wJ _ _ _ _), g2, fun t ht => by rw [rJ_ne (by omega)]; exact g3 t ht, fun t ht => ?_⟩
    by_cases e : t = i
    · subst e; rw [rJ_same]
    · rw [rJ_ne (by omega)]; exact g4 t (by omega)
  clear g1 g2 g3 g4
  intro hb1 w ⟨g1, g2, g3, g4⟩
  unfold f_X11_rises_l33 f_X11_rises_j59
  rw [g2, nI_1, termsOfM_nI (by omega), show D + 1 + 1 = D + 2 from rfl, if_pos (le_nIn (Nat.le_refl _) (by omega))]
  -- each term is pushed
  refine lp_forH (fun i h' => frM h h' ∧ rI h' 0 21 = nI D ∧ (∀ t, t < tri (D + 1) → rJ h' 16 t = rJ h 15 t) ∧ prow h' g D W i i i) (tri (D + 1)) ?_ ?_ 1000 0 hb1 (by omega) (by omega) ⟨g1, g2, g3, fun s k hs hk => ?_⟩
  · intro i h' w hi ⟨k1, k2, k3, k4⟩ hw
    obtain ⟨s, k, hs, hk, e⟩ := tri_exD hi
    obtain ⟨p0, p1, p2⟩ := powerIn_ok (d := D) (by omega) hs hk
    have eA : rJ h' 16 i = W s k := by rw [k3 i hi, e]; exact hW.2 s k hs hk
    unfold f_X11_rises_l61
    rw [k2, termsOfM_nI (by omega), if_neg (nI_ge hi (by omega)), e, p0, p2, Option.bind_some, Option.bind_some, ← e]
    have t1 : f_X11_termOf (nI D + 1) (nI (D - s) + 1) (nI k) = nI i := by
      rw [nI_1, nI_1, termOfM_nI (by omega) (by omega) (by omega), show D + 1 - (D - s + 1) = s by omega, e]
    have t2 : f_X11_termOf (nI D + 1) (nI (D - s)) (nI k) = nI (tri (s + 1) + k) := by
      rw [nI_1, termOfM_nI (by omega) (by omega) (by omega), show D + 1 - (D - s) = s + 1 by omega]
    have t3 : f_X11_termOf (nI D + 1) (nI (D - s)) (nI k + 1) = nI (tri (s + 1) + (k + 1)) := by
      rw [nI_1, nI_1, termOfM_nI (by omega) (by omega) (by omega), show D + 1 - (D - s) = s + 1 by omega]
    have q2 := b18 (s + 1) k (by omega) (by omega)
    have q3 := b18 (s + 1) (k + 1) (by omega) (by omega)
    have fin : ∀ h1 : pq_H, frM h h1 → rI h1 0 21 = nI D → (∀ t, t < tri (D + 1) → rJ h1 16 t = rJ h 15 t) → prow h1 g D W (i + 1) (i + 1) (i + 1) → ok (f_X11_rises_j193 w (nI i) h1) (fun h' => frM h h' ∧ WM h' (D + 1) (rz g D W)) := by
      intro h1 a b c d
      unfold f_X11_rises_j193
      rw [nI_1]
      exact hw h1 ⟨a, b, c, d⟩
    have c4 : ∀ h1 : pq_H, frM h h1 → rI h1 0 21 = nI D → (∀ t, t < tri (D + 1) → rJ h1 16 t = rJ h 15 t) → prow h1 g D W (i + 1) (i + 1) i → ok (f_X11_rises_j159 (nI g) w (nI i) (nI (D - s)) (nI k) h1) (fun h' => frM h h' ∧ WM h' (D + 1) (rz g D W)) := by
      intro h1 a b c d
      unfold f_X11_rises_j159
      by_cases z : g / 4 % 2 = 1
      · rw [if_neg (fun e => (bit4 h2).mp e z), b, t3, inbN q3 (by decide), inbN (show i < 190 by omega) (by decide), gd_t, gd_t, gd_t, nI_clamp (by omega), nI_clamp (by omega)]
        refine fin _ (a.tr (frM.wJ _ _ _ _)) b (fun t ht => by rw [rJ_ne (by omega)]; exact c t ht) ?_
        rw [e] at d ⊢
        refine prow_c hs hk d _ ?_ z
        rw [← e, c i hi, e, hW.2 s k hs hk]
      · rw [if_pos ((bit4 h2).mpr z)]
        exact fin h1 a b c (prow_c0 d z)
    have c2 : ∀ h1 : pq_H, frM h h1 → rI h1 0 21 = nI D → (∀ t, t < tri (D + 1) → rJ h1 16 t = rJ h 15 t) → prow h1 g D W (i + 1) i i → ok (f_X11_rises_j127 (nI g) w (nI i) (nI (D - s)) (nI k) h1) (fun h' => frM h h' ∧ WM h' (D + 1) (rz g D W)) := by
      intro h1 a b c d
      unfold f_X11_rises_j127
      by_cases z : g / 2 % 2 = 1
      · rw [if_neg (fun e => (bit2 h2).mp e z), b, t2, inbN q2 (by decide), inbN (show i < 190 by omega) (by decide), gd_t, gd_t, gd_t, nI_clamp (by omega), nI_clamp (by omega)]
        refine c4 _ (a.tr (frM.wJ _ _ _ _)) b (fun t ht => by rw [rJ_ne (by omega)]; exact c t ht) ?_
        rw [e] at d ⊢
        refine prow_b hs hk d _ ?_ z
        rw [← e, c i hi, e, hW.2 s k hs hk]
      · rw [if_pos ((bit2 h2).mpr z)]
        exact c4 h1 a b c (prow_b0 d z)
    by_cases z : g % 2 = 1
    · rw [if_neg (fun e => (bit1 h2).mp e z), t1, inbN (show i < 190 by omega) (by decide), gd_t, gd_t, gd_t, nI_clamp (by omega)]
      refine c2 _ (k1.tr (frM.wJ _ _ _ _)) k2 (fun t ht => by rw [rJ_ne (by omega)]; exact k3 t ht) ?_
      rw [e] at k4 ⊢
      refine prow_a hs hk k4 _ ?_ z
      rw [← e, eA]
    · rw [if_pos ((bit1 h2).mpr z)]
      exact c2 h' k1 k2 k3 (prow_a0 k4 z)
  · intro h' w ⟨k1, k2, k3, k4⟩
    unfold f_X11_rises_l61 f_X11_rises_j199
    rw [k2, termsOfM_nI (by omega), if_pos (le_nIn (Nat.le_refl _) (by omega)), nI_1]
    refine ok_some ⟨k1.tr (frM.wI _ _ _ _ (by omega)), rI_same _ _ _ _, fun s k hs hk => ?_⟩
    rw [rJ_wI, k4 s k hs hk, pr_end hs hk]
  · rw [g4 _ (tri_lt (by omega) hk)]
    unfold pr
    rw [if_neg (by omega), if_neg (by omega), if_neg (by omega)]
    rfl
theorem takes_ok {h : pq_H} {f g n : Nat} {F : pF} (hF : FormM h f F) (hk : okF F) (hf : f < 6) (h2 : g ≤ 7) (hn : n ≤ 12) : ok (f_X11_takes (nI f) (nI g) (nI n) h) (fun h' => frM h h' ∧ WM h' (F.2.2.1 + n) (rzN g F.2.2.1 (wr0 F g) n)) := by
  have hd := hk.2.2.1
  have hb := tri28 hd
  unfold f_X11_takes
  rw [inbN hf (by decide), gd_t, nI_clamp (by omega), hF.2.2.1, hl_d]
  refine lp_forH (fun i h' => frM h h' ∧ rI h' 0 21 = nI F.2.2.1 ∧ ∀ s k, s ≤ F.2.2.1 → k ≤ s → tri s + k < i → rJ h' 15 (tri s + k) = wr0 F g s k) (tri (F.2.2.1 + 1)) ?_ ?_ 1000 0 _ (by omega) (by omega) ⟨frM.wI _ _ _ _ (by omega), rI_same _ _ _ _, fun s k hs hk z => by omega⟩
  · intro i h' w hi ⟨g1, g2, g3⟩ hw
    obtain ⟨s, k, hs, hks, e⟩ := tri_exD hi
    have hF' := hF.frM g1
    unfold f_X11_takes_l13 f_X11_takes_j54
    rw [isTerm_ok hF' hk hf i (by omega), Option.bind_some, decide_eq_true hi, if_pos rfl, g2, e, isOn_ok h2 (by omega) hs hks, Option.bind_some, coef_ok hF' hk hf hs hks, Option.bind_some, inbN (show tri s + k < 190 by omega) (by decide), gd_t, gd_t, nI_clamp (by omega), nI_1]
    have fin : ok (w (nI (tri s + k + 1)) (wJ h' 15 (tri s + k) (wr0 F g s k))) (fun h' => frM h h' ∧ WM h' (F.2.2.1 + n) (rzN g F.2.2.1 (wr0 F g) n)) := by
      rw [← e]
      refine hw _ ⟨g1.tr (frM.wJ _ _ _ _), g2, fun s' k' hs' hk' z => ?_⟩
      by_cases q : tri s' + k' = i
      · obtain ⟨e1, e2⟩ := tri_inj hk' hks (q.trans e)
        subst e1 e2
        rw [q, rJ_same]
      · rw [rJ_ne (by omega)]
        exact g3 s' k' hs' hk' (by omega)
    by_cases q : onS g F.2.2.1 s k = true
    · rw [if_pos q]
      unfold wr0 at fin
      rw [if_pos q] at fin
      exact fin
    · rw [if_neg q]
      unfold wr0 at fin
      rw [if_neg q] at fin
      exact fin
  · intro h1 w ⟨g1, g2, g3⟩
    unfold f_X11_takes_l13 f_X11_takes_j61
    rw [isTerm_ok (hF.frM g1) hk hf _ (by omega), Option.bind_some, decide_eq_false (by omega), if_neg (by decide)]
    have W0 : WM h1 F.2.2.1 (wr0 F g) := ⟨g2, fun s k hs hk => g3 s k hs hk (tri_lt (by omega) hk)⟩
    refine lp_forH (fun i h' => frM h h' ∧ WM h' (F.2.2.1 + i) (rzN g F.2.2.1 (wr0 F g) i)) n ?_ ?_ 1000 0 h1 (by omega) (by omega) ⟨g1, W0⟩
    · intro i h' w hi ⟨k1, k2⟩ hw
      unfold f_X11_takes_l64
      rw [if_neg (nI_ge hi (by omega))]
      refine ok_bind (rises_ok h2 (by omega) k2) (fun h1 ⟨k3, k4⟩ => ?_)
      rw [nI_1]
      exact hw _ ⟨k1.tr k3, k4⟩
    · intro h' w g
      unfold f_X11_takes_l64
      rw [if_pos (le_nIn (Nat.le_refl _) (by omega))]
      exact ok_some g
end RISES
