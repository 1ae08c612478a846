section LWALLS
theorem sub15 : ∀ r, r < 60 → -1000000 ≤ nI r - 15 ∧ nI r - 15 ≤ 1000000 := by decide +kernel
theorem sumR_congr {row row' : Nat → Int32} : ∀ m, (∀ k, k < m → row k = row' k) → sumR row m = sumR row' m
  | 0, _ => rfl
  | m + 1, h => by
    show sumR row m + _ = sumR row' m + _
    rw [sumR_congr m (fun k hk => h k (by omega)), h m (by omega)]
abbrev WQ (h : pq_H) (r : Bool × pq_H) : Prop := r.1 = true ∧ FW h r.2
variable {h : pq_H} {s : Nat} {row : Nat → Int32}
theorem walls_end (L : Ls h s row) (hr : ∀ i, i < s → -1000000 ≤ row i ∧ row i ≤ 1000000) (h0 : 0 < s) : ok (f_L_walls_j199 (nI s) (sumR row s) h) (WQ h) := by
  have l1 := L.1
  unfold f_L_walls_j199
  refine lp_forH (fun i h' => h' = h) 2 ?_ ?_ 1000 0 h (by omega) (by omega) rfl
  · intro q h' w hq e hw
    subst e
    unfold f_L_walls_l202
    rw [if_neg (show ¬ (2 : Int32) ≤ nI q from nI_ge (b := 2) hq (by omega))]
    refine ok_bd2 (wleast_q L hr h0 hq) (fun r h1 ⟨e1, e2⟩ => ?_)
    simp only at e1 e2
    subst e1
    have fin : ∀ v : Int32, -9 ≤ v → ok (f_L_walls_j250 w (nI q) v h1) (WQ h1) := fun v hv => by
      unfold f_L_walls_j250
      rw [if_pos hv, nI_1]
      exact hw h1 rfl
    rcases e2 with e2 | ⟨d, d1, d2, d3, d4⟩
    · subst e2
      rw [if_pos (by decide)]
      exact fin _ (by decide)
    · subst d3
      have k := fails_f hq d4
      rw [wsum_last row d2 s d1] at k
      have f9 : (-9 : Int32) ≤ nI d := Int32.le_trans (show (-9 : Int32) ≤ 0 by decide) (nI_pos' (by omega))
      rw [if_neg (nI_pos (by omega)), i1, pk_sub (by omega), if_neg (show ¬ nI d < nI (s - 1) by rw [ilt (by omega) (by omega)]; omega)]
      by_cases z : q = 0
      · rw [if_pos ((nI_q0 hq).mpr z)]
        rw [if_pos z] at k
        rw [if_pos k]
        exact fin _ f9
      · rw [if_neg (fun x => z ((nI_q0 hq).mp x))]
        rw [if_neg z] at k
        rw [if_neg (Int64.not_le.mpr k)]
        exact fin _ f9
  · intro h' w e
    subst e
    unfold f_L_walls_l202
    rw [if_pos (by decide)]
    exact ok_some ⟨rfl, FW.rf _⟩
theorem walls_mid (L : Ls h s row) (hr : ∀ i, i < s → -1000000 ≤ row i ∧ row i ≤ 1000000) (h0 : 0 < s) : ok (f_L_walls_j83 (nI s) (sumR row s) h) (WQ h) := by
  have l1 := L.1
  obtain ⟨m, rfl⟩ := Nat.exists_eq_add_of_le' h0
  unfold f_L_walls_j83
  rw [i1, pk_sub (by omega)]
  refine lp_forH (fun d h' => h' = h ∧ m ≤ d) 17 ?_ ?_ 1000 (m + 1 - 1) h (by omega) (by omega) ⟨rfl, by omega⟩
  · intro d h' w hd ⟨e, hm⟩ hw
    subst e
    unfold f_L_walls_l88
    rw [if_neg (show ¬ (17 : Int32) ≤ nI d from nI_ge (b := 17) hd (by omega)), show f_X10_walls 0 (nI d) 0 h' = some (wsum row d 0 (m + 1), h') from walls_q L hr h0 (by omega) (by omega) (Nat.zero_le _), bd2_some, look_q L h0, bd2_some, wsum_first row (by omega), if_pos rfl, walls_q L hr h0 (by omega) (by omega) (Nat.le_refl _), bd2_some, wsum_last row (by omega) _ (by omega), if_pos rfl]
    by_cases z : d = 16
    · subst z
      rw [if_pos (by decide)]
      unfold f_L_walls_j136
      exact walls_end L hr h0
    · rw [if_neg (show ¬ nI d = 16 from fun x => z ((ieq (b := 16) (by omega) (by decide)).mp x))]
      refine lp_forH (fun i h'' => h'' = h' ∧ 1 ≤ i) (d + 1) ?_ ?_ 1000 1 h' (by omega) (by omega) ⟨rfl, by omega⟩
      · intro i h'' w2 hi ⟨e, h1⟩ hw2
        subst e
        unfold f_L_walls_l142
        rw [if_neg (nI_nlt (by omega) (by omega)), nI_1, i1, pk_sub h1, walls_q L hr h0 (by omega) (by omega) (by omega), bd2_some, walls_q L hr h0 (by omega) (by omega) (by omega), bd2_some, walls_q L hr h0 (by omega) (by omega) (by omega), bd2_some, if_pos (wsum_pas row (by omega) h1 (by omega) _ (by omega)), ← i1, nI_1]
        exact hw2 h'' ⟨rfl, by omega⟩
      · intro h'' w2 ⟨e, h1⟩
        subst e
        unfold f_L_walls_l142 f_L_walls_j193
        rw [if_pos (nI_lt (by omega) (by omega)), nI_1]
        exact hw h'' ⟨rfl, by omega⟩
  · intro h' w ⟨e, _⟩
    subst e
    unfold f_L_walls_l88
    rw [if_pos (by decide)]
    exact walls_end L hr h0
theorem lwalls_ok {sc : Nat × (Nat → Int32)} (hs : sc.1 ≤ 260) (h : pq_H) : ok (f_L_walls sc h) (WQ h) := by
  unfold f_L_walls
  obtain ⟨v, ev⟩ := cell_ok hs 50 (by decide)
  obtain ⟨r, hr, er⟩ := pick_ok v (m := 9) (by decide) (by decide)
  rw [show (50 : Int32) = nI 50 from rfl, ev, Option.bind_some, show (9 : Int32) = nI 9 from rfl, er, Option.bind_some, show (1 : Int32) + nI r = nI (1 + r) from nI_add 1 r]
  refine ok_bd2 (list_q (show 1 + r ≤ 9 by omega)) (fun b h1 ⟨e1, f1, L1⟩ => ?_)
  simp only at e1 f1 L1
  subst e1
  rw [if_pos rfl]
  refine lp_gen (fun (w : Int64 → Int32 → pq_H → Option (Bool × pq_H)) (x : Int64 × Int32 × pq_H) => w x.1 x.2.1 x.2.2) (fun i x => x.2.1 = nI i ∧ FW h x.2.2 ∧ ∃ row, Ls x.2.2 (1 + r) row ∧ x.1 = sumR row i ∧ ∀ k, k < 1 + r → -1000000 ≤ row k ∧ row k ≤ 1000000) (1 + r) ?_ ?_ 1000 0 (0, 0, h1) (by omega) (by omega) ⟨rfl, f1, _, L1, rfl, fun k _ => ⟨by decide, by decide⟩⟩
  · intro i x w hi hI hw
    obtain ⟨a, b, h2⟩ := x
    obtain ⟨e1, f2, row, L2, e2, hr2⟩ := hI
    simp only at e1 f2 L2 e2
    subst e1 e2
    show ok (f_L_walls_l31 sc (nI (1 + r)) w (sumR row i) (nI i) h2) _
    unfold f_L_walls_l31
    rw [if_neg (nle hi (by omega)), show (51 : Int32) + nI i = nI (51 + i) from nI_add 51 i]
    obtain ⟨v, ev⟩ := cell_ok hs (51 + i) (by omega)
    obtain ⟨u, hu, eu⟩ := pick_ok v (m := 60) (by decide) (by decide)
    rw [ev, Option.bind_some, show (60 : Int32) = nI 60 from rfl, eu, Option.bind_some]
    refine ok_bd2 (put_q L2 hi _) (fun b h3 ⟨e3, f3, L3⟩ => ?_)
    simp only at e3 f3 L3
    subst e3
    rw [if_pos rfl, nI_1]
    refine hw (_, _, h3) ⟨rfl, f2.tr f3, _, L3, ?_, fun k hk => ?_⟩
    · show sumR row i + _ = sumR _ i + (if i = i then nI u - 15 else row i).toInt64
      rw [if_pos rfl, sumR_congr (row' := fun k => if k = i then nI u - 15 else row k) i (fun k hk => (if_neg (by omega)).symm)]
    · show -1000000 ≤ (if k = i then nI u - 15 else row k) ∧ (if k = i then nI u - 15 else row k) ≤ 1000000
      split
      · exact sub15 u hu
      · exact hr2 k hk
  · intro x w hI
    obtain ⟨a, b, h2⟩ := x
    obtain ⟨e1, f2, row, L2, e2, hr2⟩ := hI
    simp only at e1 f2 L2 e2
    subst e1 e2
    show ok (f_L_walls_l31 sc (nI (1 + r)) w (sumR row (1 + r)) (nI (1 + r)) h2) _
    unfold f_L_walls_l31
    rw [if_pos (le_nIn (Nat.le_refl _) (by omega))]
    exact ok_mono (walls_mid L2 hr2 (by omega)) (fun z hz => ⟨hz.1, f2.tr hz.2⟩)
end LWALLS
