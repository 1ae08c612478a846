section READS
variable {h : pq_H} {n f : Nat} {Fs : Nat → pF}
def chrs (l : List Int32) : Prop := ∀ c ∈ l, ∃ x, x ≤ 255 ∧ c = nI x
theorem chrs_app {a b : List Int32} (ha : chrs a) (hb : chrs b) : chrs (a ++ b) := fun c hc => by
  rcases List.mem_append.mp hc with x | x
  · exact ha c x
  · exact hb c x
theorem chrs_nil : chrs [] := fun c hc => absurd hc List.not_mem_nil
theorem chrs_cons {c : Int32} {l : List Int32} (x : Nat) (hx : x ≤ 255) (e : c = nI x) (hl : chrs l) : chrs (c :: l) := fun d hd => by
  rcases List.mem_cons.mp hd with y | y
  · exact ⟨x, hx, y.trans e⟩
  · exact hl d y
theorem chrs_pwl {c p : Nat} (hc : c ≤ 200) (hp : p ≤ 100) : chrs (pwl c p) := by
  unfold pwl
  refine chrs_app ?_ ?_
  · split
    · exact chrs_nil
    · exact chrs_cons c (by omega) rfl chrs_nil
  · split
    · exact chrs_nil
    · exact chrs_cons 94 (by decide) rfl (chrs_cons (48 + p) (by omega) rfl chrs_nil)
theorem chrs_nbl {D : Nat} {c : Int32} (hc : c.toInt.natAbs < 100) : chrs (nbl D c) := by
  unfold nbl
  split
  · exact chrs_nil
  · unfold nmb
    split
    · exact chrs_cons _ (by omega) rfl chrs_nil
    · exact chrs_cons _ (by omega) rfl (chrs_cons _ (by omega) rfl chrs_nil)
theorem chrs_sgl (r : Int32) (o : List Int32) : chrs (sgl r o) := by
  unfold sgl
  split
  · exact chrs_cons 45 (by decide) rfl chrs_nil
  · split
    · exact chrs_nil
    · exact chrs_cons 43 (by decide) rfl chrs_nil
theorem chrs_tx {D : Nat} {cf : Nat → Int32} (hD : D ≤ 6) : ∀ t, t ≤ tri (D + 1) → (∀ u, u < t → (cf u).toInt.natAbs < 100) → chrs (tx D cf t)
  | 0, _, _ => chrs_nil
  | t + 1, ht, hc => by
    have ih := chrs_tx hD t (by omega) (fun u hu => hc u (by omega))
    rw [tx_s]
    split
    · exact ih
    · have hs := skT_lt (d := D) (t := t) (by omega)
      have hk := (skT_ok t).1
      unfold bdy
      exact chrs_app ih (chrs_app (chrs_sgl _ _) (chrs_app (chrs_nbl (hc t (by omega))) (chrs_app (chrs_pwl (by decide) (by omega)) (chrs_app (chrs_pwl (by decide) (by omega)) (chrs_pwl (by decide) (by omega))))))
theorem chrs_txF {F : pF} (hF : okF F) (hs60 : smB 60 F) : chrs (txF F) := by
  unfold txF fin48
  split
  · exact chrs_cons 48 (by decide) rfl chrs_nil
  · exact chrs_tx hF.2.2.1 _ (Nat.le_refl _) (fun u hu => by have := hs60 u hu; omega)
theorem cnt_all {p : Nat → Bool} : ∀ n, cnt p n ≠ n → ∃ t, t < n ∧ p t = false
  | 0, h => absurd rfl h
  | n + 1, h => by
    rw [cnt_s] at h
    by_cases c : p n = true
    · rw [if_pos c] at h
      obtain ⟨t, a, b⟩ := cnt_all n (fun e => h (by rw [e]))
      exact ⟨t, by omega, b⟩
    · exact ⟨n, by omega, Bool.eq_false_iff.mpr c⟩
/-- the form that comes of a form's text -/
def plF (F : pF) : pF := (0, 0, F.2.2.1, fun u => if u < tri (F.2.2.1 + 1) then cfT F u else 0)
theorem plF_cf {F : pF} {t : Nat} (ht : t < tri (F.2.2.1 + 1)) : cfT (plF F) t = cfT F t := by
  obtain ⟨s, k, hs, hk, rfl⟩ := tri_exD ht
  have e : cfT (plF F) (tri s + k) = cfV (plF F) s k := by
    unfold cfT
    rw [skT_eq hk]
  rw [e]
  show (if tri (s - k + k) + k < tri (F.2.2.1 + 1) then cfT F (tri (s - k + k) + k) else 0) = _
  rw [show s - k + k = s by omega, if_pos ht]
theorem plF_tx (F : pF) : txF (plF F) = txF F := by
  unfold txF
  rw [show (plF F).2.2.1 = F.2.2.1 from rfl, tx_congr _ (fun u hu => plF_cf hu)]
theorem plF_sm {F : pF} (hs60 : smB 60 F) : smB 60 (plF F) := fun t ht => by
  have ht : t < tri (F.2.2.1 + 1) := ht
  rw [plF_cf ht]
  exact hs60 t ht
theorem ar_st {h' : pq_H} (S : St h n Fs) (fr : ∀ P k, P ≠ 61 → P ≠ 62 → rI h' P k = rI h P k) : St h' n Fs := by
  have h6 := S.1
  exact ⟨h6, (fr _ _ (by omega) (by omega)).trans S.2.1, fun f hf => ⟨(S.2.2 f hf).1.fr (fun k => fr _ _ (by omega) (by omega)) (fun k => fr _ _ (by omega) (by omega)), (S.2.2 f hf).2⟩⟩
abbrev EQr (x : Nat) (Fs : Nat → pF) (r : Bool × pq_H) : Prop := r.1 = true ∧ St r.2 2 Fs ∧ rI r.2 61 1 = 0 ∧ ∃ y, y < 16 ∧ rI r.2 74 5 = nI y
/-- what is spelled is read again -/
theorem reads_end {F : pF} (S : St h 3 (upF Fs 2 (plF F))) (hf : f < 2) (eF : Fs f = F) (hF : okF F) (hs60 : smB 60 F) (h0 : rI h 61 1 = 0) (hy : ∃ y, y < 16 ∧ rI h 74 5 = nI y) : ok (f_L_reads_j129 (nI 2) (nI (txF F).length) h) (EQr 0 Fs) := by
  have e2 : upF Fs 2 (plF F) 2 = plF F := upF_s _ _ _
  unfold f_L_reads_j129
  refine ok_bd2 (spelled_size S (f := 2) (by decide) (by rw [e2]; exact plF_sm hs60)) (fun r H ⟨a1, a2⟩ => ?_)
  simp only at a1 a2
  rw [e2, plF_tx] at a2
  rw [if_pos a2]
  refine ok_bd2 (drop_q (n := 2) (S.frC a1)) (fun r K ⟨b1, b2, b3, b4⟩ => ?_)
  simp only at b1 b2 b3 b4
  rw [if_pos b1]
  refine ok_some ⟨rfl, b2.congr (fun f hf => upF_n (by omega)), (b3.2.2.1.trans (a1.1 61 (by omega) 1)).trans h0, ?_⟩
  obtain ⟨y, y1, y2⟩ := hy
  exact ⟨y, y1, (b3.2.2.2.trans (a1.1 74 (by omega) 5)).trans y2⟩
theorem reads_form {F : pF} {L : Nat → Int32} (S : St h 2 Fs) (hf : f < 2) (eF : Fs f = F) (hs60 : smB 60 F) (lT : TPC h (txF F).length L) (hL : ∀ i c, (txF F)[i]? = some c → L i = c) (hm : (txF F).length ≤ 72) (hz : ∃ t, t < tri (F.2.2.1 + 1) ∧ ¬ cfT F t = 0) (hy : ∃ y, y < 16 ∧ rI h 74 5 = nI y) : ok (f_L_reads_j65 (nI f) (nI 2) (nI (txF F).length) h) (EQr 0 Fs) := by
  have hF : okF F := by rw [← eF]; exact (S.2.2 f hf).2
  have hd := hF.2.2.1
  have hb := tri28 hd
  have hc : ∀ t, t < tri (F.2.2.1 + 1) → (cfT F t).toInt.natAbs < 100 := fun t ht => by have := hs60 t ht; omega
  -- the first term that is not 0
  obtain ⟨t0, t1, t2, t3⟩ : ∃ t0, t0 < tri (F.2.2.1 + 1) ∧ ¬ cfT F t0 = 0 ∧ ∀ u, u < t0 → cfT F u = 0 := by
    rcases nxt (cf := cfT F) (tri (F.2.2.1 + 1)) (tri (F.2.2.1 + 1)) 0 (by omega) with k | ⟨t2, k1, k2, k3, k4⟩
    · obtain ⟨t, a, b⟩ := hz
      exact absurd (k t (by omega) a) b
    · exact ⟨t2, k2, k3, fun u hu => k4 u (by omega) hu⟩
  have ne : ¬ tx F.2.2.1 (cfT F) (tri (F.2.2.1 + 1)) = [] := fun e => by
    obtain ⟨r, er⟩ := tx_pre (D := F.2.2.1) (cf := cfT F) (t0 + 1) (tri (F.2.2.1 + 1) - (t0 + 1))
    rw [show t0 + 1 + (tri (F.2.2.1 + 1) - (t0 + 1)) = tri (F.2.2.1 + 1) by omega, e] at er
    have p := tx_ne (D := F.2.2.1) (cf := cfT F) (t := t0) (skT_lt t1) t2
    rw [(List.append_eq_nil_iff.mp er.symm).1] at p
    exact absurd p (Nat.lt_irrefl _)
  have etx : txF F = tx F.2.2.1 (cfT F) (tri (F.2.2.1 + 1)) := if_neg ne
  rw [etx] at lT hL hm
  have sg : Seg (tx F.2.2.1 (cfT F) (tri (F.2.2.1 + 1))).length L 0 (tx F.2.2.1 (cfT F) (tri (F.2.2.1 + 1))) := ⟨by omega, fun i c hi => by rw [Nat.zero_add]; exact hL i c hi⟩
  unfold f_L_reads_j65
  refine ok_bd2 (form_q (D := F.2.2.1) (T := fun u => if u < tri (F.2.2.1 + 1) then cfT F u else 0) S (by decide) hd (fun u hu => ?_) (read_c hm (by decide) hd lT hc sg rfl t1 t2 t3)) (fun r H ⟨b1, b2, b3, b4, b5⟩ => ?_)
  · show bdI (if u < tri (F.2.2.1 + 1) then cfT F u else 0)
    split
    · rename_i y
      have := hs60 u y
      exact ⟨by omega, by omega⟩
    · exact ⟨by decide, by decide⟩
  simp only at b1 b2 b3 b4 b5
  have S3 : St H 3 (upF Fs 2 (plF F)) := b2
  have e2 : upF Fs 2 (plF F) 2 = plF F := upF_s _ _ _
  have ef : upF Fs 2 (plF F) f = F := (upF_n (by omega)).trans eF
  have o1 := of2_q S3 (f := 2) (by decide)
  have o2 := of2_q S3 (f := f) (by omega)
  rw [e2] at o1
  rw [ef] at o2
  have hy2 : ∃ y, y < 16 ∧ rI H 74 5 = nI y := by
    obtain ⟨y, y1, y2⟩ := hy
    exact ⟨y, y1, b5.trans y2⟩
  rw [if_pos b1, o1, bd2_some, o2, bd2_some, if_pos (show nI (plF F).2.2.1 = nI F.2.2.1 from rfl)]
  refine lp_forH (fun i K => K = H) (tri (F.2.2.1 + 1)) ?_ ?_ 1000 0 H (by omega) (by omega) rfl
  · intro i K w hi e hw
    subst e
    have o3 := of3_q S3 (f := f) (by omega)
    rw [ef] at o3
    have c1 := coef_q S3 (f := 2) (t := i) (by decide) (by rw [e2]; exact hi)
    have c2 := coef_q S3 (f := f) (t := i) (by omega) (by rw [ef]; exact hi)
    rw [e2, plF_cf hi] at c1
    rw [ef] at c2
    unfold f_L_reads_l93
    rw [o3, bd2_some, if_neg (nI_ge hi (by omega)), c1, bd2_some, c2, bd2_some, if_pos rfl, nI_1]
    exact hw K rfl
  · intro K w e
    subst e
    have o3 := of3_q S3 (f := f) (by omega)
    rw [ef] at o3
    unfold f_L_reads_l93
    rw [o3, bd2_some, if_pos (le_nIn (Nat.le_refl _) (by omega))]
    exact reads_end S3 hf eF hF hs60 b3 hy2
theorem reads_ok (S : St h 2 Fs) (hf : f < 2) (hs60 : smB 60 (Fs f)) (h0 : rI h 61 1 = 0) (hy : ∃ y, y < 16 ∧ rI h 74 5 = nI y) : ok (f_L_reads (nI f) (nI 2) h) (EQr 0 Fs) := by
  obtain ⟨F, eF⟩ : ∃ F, F = Fs f := ⟨_, rfl⟩
  have hF : okF F := by rw [eF]; exact (S.2.2 f hf).2
  have hd := hF.2.2.1
  have hb := tri28 hd
  have quiet : ∀ {H}, frC h H → EQr 0 Fs (true, H) := fun fr => ⟨rfl, S.frC fr, (fr.1 61 (by omega) 1).trans h0, by
    obtain ⟨y, y1, y2⟩ := hy
    exact ⟨y, y1, (fr.1 74 (by omega) 5).trans y2⟩⟩
  have hlen : (txF F).length < 1000 := by
    have := tx_len F.2.2.1 (cfT F) (tri (F.2.2.1 + 1))
    unfold txF fin48
    split
    · simp
    · omega
  have ch := chrs_txF hF (by rw [eF]; exact hs60)
  unfold f_L_reads
  refine ok_bd2 (spelled_size S hf hs60) (fun r H ⟨a1, a2⟩ => ?_)
  simp only at a1 a2
  rw [← eF] at a2 hs60
  subst a2
  have S1 := S.frC a1
  have o4 := of4_q S1 hf
  have o3 := of3_q S1 hf
  rw [← eF] at o3 o4
  refine ok_ite (fun _ => ok_some (quiet a1)) (fun z72 => ?_)
  have hm : (txF F).length ≤ 72 := Nat.not_lt.mp fun y => z72 (nI_lt (a := 72) y (by omega))
  rw [o4, bd2_some, o3, bd2_some]
  refine ok_ite (fun _ => ok_some (quiet a1)) (fun zc => ?_)
  have cl := cnt_le (fun t => decide (cfT F t = 0)) (tri (F.2.2.1 + 1))
  have hz : ∃ t, t < tri (F.2.2.1 + 1) ∧ ¬ cfT F t = 0 := by
    obtain ⟨t, a, b⟩ := cnt_all (p := fun t => decide (cfT F t = 0)) (tri (F.2.2.1 + 1)) (fun e => zc (by rw [e]))
    exact ⟨t, a, of_decide_eq_false b⟩
  refine lp_forH (fun k K => St K 2 Fs ∧ (∃ L, TPC K k L ∧ ∀ i c, i < k → (txF F)[i]? = some c → L i = c) ∧ ∃ y, y < 16 ∧ rI K 74 5 = nI y) (txF F).length ?_ ?_ 1000 0 H (by omega) (by omega) ⟨S1, ⟨fun _ => 0, ⟨(a1.1 61 (by omega) 1).trans h0, fun i hi => absurd hi (Nat.not_lt_zero _)⟩, fun i c hi => absurd hi (Nat.not_lt_zero _)⟩, (quiet a1).2.2.2⟩
  · intro k K w hk ⟨S2, ⟨L, lT, hL⟩, hy2⟩ hw
    obtain ⟨c, ec⟩ : ∃ c, (txF F)[k]? = some c := ⟨_, List.getElem?_eq_getElem hk⟩
    obtain ⟨x, x1, x2⟩ := ch c (List.mem_of_getElem? ec)
    unfold f_L_reads_l33
    rw [if_neg (nI_ge hk (by omega))]
    refine ok_bd2 (spelled_at (c := c) S2 hf (by rw [← eF]; exact hs60) (by rw [← eF]; exact ec) (by omega)) (fun r K2 ⟨d1, d2⟩ => ?_)
    simp only at d1 d2
    subst d2
    have lT2 : TPC K2 k L := lT.fr (fun P u hP => d1.1 P (by omega) u)
    rw [x2]
    refine ok_bd2 (letter_q (c := x) lT2 (by omega) x1) (fun r2 K3 ⟨g1, g2, g3⟩ => ?_)
    simp only at g1 g2 g3
    rw [nI_1, if_pos g1]
    refine hw K3 ⟨ar_st (S2.frC d1) g3, ⟨_, g2, fun i c2 hi hc2 => ?_⟩, ?_⟩
    · show (if i = k then nI x else L i) = c2
      by_cases y : i = k
      · subst y
        rw [if_pos rfl, ← x2]
        exact Option.some.inj (ec.symm.trans hc2)
      · rw [if_neg y]
        exact hL i c2 (by omega) hc2
    · obtain ⟨y, y1, y2⟩ := hy2
      exact ⟨y, y1, ((g3 _ _ (by omega) (by omega)).trans (d1.1 74 (by omega) 5)).trans y2⟩
  · intro K w ⟨S2, ⟨L, lT, hL⟩, hy2⟩
    unfold f_L_reads_l33
    rw [if_pos (le_nIn (Nat.le_refl _) (by omega))]
    exact reads_form S2 hf eF.symm hs60 lT (fun i c hi => hL i c (List.getElem?_eq_some_iff.mp hi).1 hi) hm hz hy2
end READS
