section READ
variable {D m n : Nat} {cf : Nat → Int32} {L : Nat → Int32} {h : pq_H}
theorem read_pre (hm : m ≤ 72) (hn : n < 6) (lT : TPC h m L) : ∃ B, f_X2_read n h = (if chr m L (-1) 0 = 45 then f_X2_read_j37 n true B else f_X2_read_j37 n false B) ∧ (∀ P k, P ≠ 63 → P ≠ n → P ≠ n + 12 → rI B P k = rI h P k) ∧ rR B 63 1 = some 61 ∧ rI B 63 2 = nI 0 ∧ rI B 63 4 = -1 ∧ rI B n 1 = 0 ∧ rI B n 2 = 0 ∧ (∀ t, t < 28 → rI B (n + 12) t = 0) ∧ TPC B m L := by
  obtain ⟨B, eB, b1, b2, b3, b4, b5, b6, b7⟩ := nought1_ok n (wI (wI (wR h 63 1 (some 61)) 63 2 0) 63 4 (-1))
  have fB : ∀ P k, P ≠ 63 → P ≠ n → P ≠ n + 12 → rI B P k = rI h P k := fun P k x y z => by
    rw [b1 P k y z, rI_ne (by omega), rI_ne (by omega)]
    rfl
  have rB : rR B 63 1 = some 61 := by rw [b7]; exact rR_same _ _ _ _
  have lB : TPC B m L := lT.fr (fun P k hP => fB P k (by omega) (by omega) (by omega))
  refine ⟨B, ?_, fB, rB, by rw [b1 _ _ (by omega) (by omega), rI_ne (by omega), rI_same]; rfl, by rw [b1 _ _ (by omega) (by omega), rI_same], b3, b4, b6, lB⟩
  unfold f_X2_read
  rw [hl_d (wR h 63 1 (some 61)), hl_d, hl_d, eB, Option.bind_some, r61 rB, gd_t, show (0 : Int32) = nI 0 from rfl, at_ch lB hm (by omega), Option.bind_some]
theorem bdy_hd {p s k : Nat} {c : Int32} (hD : D ≤ 6) (hs : s ≤ D) (hk : k ≤ s) (hc : c.toInt.natAbs < 100) (sg : Seg m L p (bdy D c s k)) : ¬ chr m L (-1) p = 45 := by
  have pos := bdy_pos (c := c) hs hk
  unfold bdy at sg pos
  have n45 : ∀ x, x < 100 → ¬ nI (48 + x) = 45 := fun x hx e => by
    have := (ieq (b := 45) (by omega) (by decide)).mp e
    omega
  obtain ⟨s1, s2⟩ := sg.app
  obtain ⟨s3, s4⟩ := s2.app
  obtain ⟨s5, s6⟩ := s4.app
  rcases NT_nbl (D := D) hc with ⟨-, e⟩ | ⟨a, e⟩ | ⟨a, b, e⟩
  · rw [e] at s3 s5 s6 pos
    have s3 : Seg m L p (pwl 97 (D - s)) := s3
    have s5 : Seg m L (p + (pwl 97 (D - s)).length) (pwl 98 (s - k)) := s5
    have s6 : Seg m L (p + (pwl 97 (D - s)).length + (pwl 98 (s - k)).length) (pwl 99 k) := s6
    rcases PT_hd (PT_pwl (j := 0) (by omega)) s3 with ⟨-, f⟩ | f
    · have f : pwl 97 (D - s) = [] := f
      rw [f] at s5 s6 pos
      have s5 : Seg m L p (pwl 98 (s - k)) := s5
      rcases PT_hd (PT_pwl (j := 1) (by omega)) s5 with ⟨-, f2⟩ | f2
      · have f2 : pwl 98 (s - k) = [] := f2
        rw [f2] at s6 pos
        have s6 : Seg m L p (pwl 99 k) := s6
        rcases PT_hd (PT_pwl (j := 2) (by omega)) s6 with ⟨-, f3⟩ | f3
        · have f3 : pwl 99 k = [] := f3
          rw [f3] at pos
          exact absurd pos (by decide)
        · rw [f3]; decide
      · rw [f2]; decide
    · rw [f]; decide
  · rw [e] at s1
    rw [s1.chr]
    exact n45 _ (by omega)
  · rw [e] at s1
    rw [s1.chr]
    exact n45 _ (by omega)
/-- a spelled text is read: its numbers come again -/
theorem read_c {t0 : Nat} (hm : m ≤ 72) (hn : n < 6) (hD : D ≤ 6) (lT : TPC h m L) (hc : ∀ t, t < tri (D + 1) → (cf t).toInt.natAbs < 100) (hs : Seg m L 0 (tx D cf (tri (D + 1)))) (hl : m = (tx D cf (tri (D + 1))).length) (ht : t0 < tri (D + 1)) (hz : ¬ cf t0 = 0) (h0 : ∀ u, u < t0 → cf u = 0) : ok (f_X2_read n h) (fun r => r.1 = -1 ∧ rI r.2 n 1 = 0 ∧ rI r.2 n 2 = 0 ∧ rI r.2 n 3 = nI D ∧ (∀ u, u < 28 → rI r.2 (n + 12) u = if u < tri (D + 1) then cf u else 0) ∧ ∀ P k, P ≠ 63 → P ≠ 64 → P ≠ n → P ≠ n + 12 → rI r.2 P k = rI h P k) := by
  have hb := tri28 hD
  obtain ⟨B, eB, b1, b2, b3, b4, b5, b6, b7, b8⟩ := read_pre hm hn lT
  obtain ⟨s, k, hsD, hk, et⟩ := tri_exD ht
  have esk : skT t0 = (s, k) := by rw [et, skT_eq hk]
  have x0 : tx D cf t0 = [] := by
    have := tx_zero (D := D) (cf := cf) (t := 0) t0 (fun u _ b => h0 u (by omega))
    rw [Nat.zero_add] at this
    exact this
  have x1 : tx D cf (t0 + 1) = sgl (cf t0) [] ++ bdy D (cf t0) s k := by rw [tx_s, if_neg hz, x0, esk]; rfl
  obtain ⟨rest, er⟩ := tx_pre (D := D) (cf := cf) (t0 + 1) (tri (D + 1) - (t0 + 1))
  rw [show t0 + 1 + (tri (D + 1) - (t0 + 1)) = tri (D + 1) by omega] at er
  have sg := hs
  rw [er, x1] at sg
  have sg1 := sg.app.1
  rw [eB]
  have fin : ∀ p C, (p = (sgl (cf t0) []).length) → (∀ P u, (P ≠ 63 ∨ u ≠ 2) → rI C P u = rI B P u) → rI C 63 2 = nI p → rR C 63 1 = some 61 → ok (f_X2_read_j52 n (decide (cf t0 < 0)) C) (fun r => r.1 = -1 ∧ rI r.2 n 1 = 0 ∧ rI r.2 n 2 = 0 ∧ rI r.2 n 3 = nI D ∧ (∀ u, u < 28 → rI r.2 (n + 12) u = if u < tri (D + 1) then cf u else 0) ∧ ∀ P k, P ≠ 63 → P ≠ 64 → P ≠ n → P ≠ n + 12 → rI r.2 P k = rI h P k) := by
    intro p C hp c1 c2 c3
    unfold f_X2_read_j52
    have lC : TPC C m L := b8.fr (fun P u hP => c1 P u (by omega))
    refine ok_mono (read_loop (B := C) hm hn hD hc hs hl (tri (D + 1)) t0 ht (by omega) hz 1000 0 C (by omega) (by omega) ⟨lC, c3, ?_, Or.inl ((c1 _ _ (by omega)).trans b4), fun u hu => ?_, fun _ _ _ _ _ => rfl⟩) (fun r ⟨q1, q2, q3, q4⟩ => ⟨q1, ?_, ?_, q2, q3, fun P u d1 d2 d3 d4 => ?_⟩)
    · rw [x0, c2, hp]
      exact congrArg nI (Nat.zero_add _).symm
    · rw [c1 _ _ (by omega), b7 u hu]
      split
      · rename_i y; exact (h0 u y).symm
      · rfl
    · exact ((q4 _ _ (by omega) (by omega) (by omega) (by omega)).trans (c1 _ _ (by omega))).trans b5
    · exact ((q4 _ _ (by omega) (by omega) (by omega) (by omega)).trans (c1 _ _ (by omega))).trans b6
    · exact ((q4 _ _ d1 d2 d4 (by omega)).trans (c1 _ _ (by omega))).trans (b1 _ _ d1 d3 d4)
  unfold f_X2_read_j37
  by_cases y : cf t0 < 0
  · have e45 : sgl (cf t0) [] = [45] := if_pos y
    rw [e45] at sg1
    rw [if_pos (sg1.chr (-1)), if_pos rfl]
    rw [decide_eq_true y] at fin
    exact fin 1 _ (by rw [e45]; rfl) (fun P u hp => rI_ne (by omega)) (by rw [rI_same, b3, nI_1]) b2
  · have e45 : sgl (cf t0) [] = [] := by
      unfold sgl
      rw [if_neg y, if_pos rfl]
    rw [e45] at sg1
    rw [if_neg (bdy_hd hD hsD hk (hc t0 ht) sg1), if_neg (by decide)]
    rw [decide_eq_false y] at fin
    exact fin 0 _ (by rw [e45]; rfl) (fun P u hp => rfl) b3 b2
/-- one member alone: a number, or a power of the first letter -/
theorem read_one {nl la : List Int32} (hm : m ≤ 72) (hn : n < 6) (hD : D ≤ 6) (lT : TPC h m L) (nt : NT 1 nl) (pa : PT 0 D la) (hs : Seg m L 0 (nl ++ (la ++ ([] ++ [])))) (hl : m = nl.length + la.length) (ne : 0 < m) (h45 : ¬ chr m L (-1) 0 = 45) : ok (f_X2_read n h) (fun r => r.1 = -1 ∧ rI r.2 n 1 = 0 ∧ rI r.2 n 2 = 0 ∧ rI r.2 n 3 = nI D ∧ (∀ u, u < 28 → rI r.2 (n + 12) u = if u = 0 then 1 else 0) ∧ ∀ P k, P ≠ 63 → P ≠ 64 → P ≠ n → P ≠ n + 12 → rI r.2 P k = rI h P k) := by
  obtain ⟨B, eB, b1, b2, b3, b4, b5, b6, b7, b8⟩ := read_pre hm hn lT
  have len : (nl ++ (la ++ (([] : List Int32) ++ []))).length = m := by
    simp only [List.length_append, List.length_nil]; omega
  rw [eB, if_neg h45]
  unfold f_X2_read_j37 f_X2_read_j52
  rw [if_neg (by decide), show (1000 : Nat) = 999 + 1 from rfl, lp_s]
  unfold f_X2_read_l55
  rw [if_neg (by decide)]
  refine ok_bd2 (member_c (v := 1) (ea := D) (eb := 0) (ec := 0) (neg := false) (p := 0) hm hn b8 b2 b3 (Or.inl b4) rfl hD nt pa (Or.inl ⟨rfl, rfl⟩) (Or.inl ⟨rfl, rfl⟩) hs (by omega) ?_) (fun r H ⟨m1, m2, m3, m4, m5, m6⟩ => ?_)
  · rw [len]
    refine Or.inr (Or.inr ?_)
    unfold chr
    rw [if_neg (by omega)]
  simp only at m1 m2 m3 m4 m5 m6
  subst m1
  rw [len, Nat.zero_add] at m2
  have lH : TPC H m L := b8.fr (fun P u hP => m6.1 P u (by omega) (by omega) (by omega))
  rw [if_pos rfl, r61 ((m6.2 _ _).trans b2), gd_t, m2, lH.1, if_neg (show ¬ nI m < nI m by rw [ilt (by omega) (by omega)]; omega)]
  unfold f_X2_read_j90 f_X2_read_j154
  refine ok_some ⟨rfl, (rI_ne (by omega)).trans ((m6.1 _ _ (by omega) (by omega) (by omega)).trans b5), (rI_ne (by omega)).trans ((m6.1 _ _ (by omega) (by omega) (by omega)).trans b6), (rI_same _ _ _ _).trans m3, fun u hu => ?_, fun P u d1 d2 d3 d4 => (rI_ne (by omega)).trans ((m6.1 _ _ d1 d2 d4).trans (b1 _ _ d1 d3 d4))⟩
  show rI (wI H n 3 (rI H 63 4)) (n + 12) u = _
  rw [rI_ne (by omega)]
  by_cases e : u = 0
  · subst e
    rw [if_pos rfl]
    have := m4
    rw [show tri (0 + 0) + 0 = 0 from rfl, b7 0 (by omega)] at this
    exact this
  · rw [if_neg e, m5 u (by rw [show tri (0 + 0) + 0 = 0 from rfl]; exact e), b7 u hu]
/-- FORM: what is read becomes a form more -/
theorem form_q {Fs : Nat → pF} {T : Nat → Int32} (S : St h n Fs) (hn : n < 6) (hD : D ≤ 6) (hT : ∀ u, u < 28 → bdI (T u)) (hr : ok (f_X2_read n h) (fun r => r.1 = -1 ∧ rI r.2 n 1 = 0 ∧ rI r.2 n 2 = 0 ∧ rI r.2 n 3 = nI D ∧ (∀ u, u < 28 → rI r.2 (n + 12) u = T u) ∧ ∀ P k, P ≠ 63 → P ≠ 64 → P ≠ n → P ≠ n + 12 → rI r.2 P k = rI h P k)) : ok (f_X10_form h) (fun r => r.1 = nI n ∧ St r.2 (n + 1) (upF Fs n (0, 0, D, T)) ∧ rI r.2 61 1 = 0 ∧ rI r.2 74 0 = nI 0 ∧ rI r.2 74 5 = rI h 74 5) := by
  have h6 := S.1
  unfold f_X10_form
  rw [full_ok h6 h S.2.1, decide_eq_false (show ¬ n = 6 by omega), if_neg (by decide), S.2.1, inbN hn (by decide), gd_t, nI_clamp (by omega)]
  refine ok_bd2 hr (fun r H ⟨a1, a2, a3, a4, a5, a6⟩ => ?_)
  simp only at a1 a2 a3 a4 a5 a6
  subst a1
  rw [hl_d, if_pos rfl, hl_d, bd2_id]
  unfold f_X10_cameOr
  rw [if_pos rfl, hl_d]
  have c3 : rI (wI H 61 1 0) 56 3 = nI n := by rw [rI_ne (by omega), a6 _ _ (by omega) (by omega) (by omega) (by omega)]; exact S.2.1
  rw [c3, nI_1]
  obtain ⟨K, hK⟩ : ∃ K, K = wI (wI (wI H 61 1 0) 56 3 (nI (n + 1))) 74 0 0 := ⟨_, rfl⟩
  rw [← hK]
  have w : ∀ P k, (P ≠ 61 ∨ k ≠ 1) → (P ≠ 56 ∨ k ≠ 3) → (P ≠ 74 ∨ k ≠ 0) → rI K P k = rI H P k := fun P k x y z => by rw [hK, rI_ne (by omega), rI_ne (by omega), rI_ne (by omega)]
  have w1 : rI K 56 3 = nI (n + 1) := by rw [hK, rI_ne (by omega), rI_same]
  have w2 : rI K 61 1 = 0 := by rw [hK, rI_ne (by omega), rI_ne (by omega), rI_same]
  have w3 : rI K 74 0 = nI 0 := by rw [hK, rI_same]; rfl
  clear hK
  refine ok_some ⟨?_, ⟨by omega, w1, fun f hf => ?_⟩, w2, w3, (w _ _ (by omega) (by omega) (by omega)).trans (a6 _ _ (by omega) (by omega) (by omega) (by omega))⟩
  · show rI K 56 3 - 1 = nI n
    rw [w1, i1, pk_sub (by omega)]
    rfl
  · by_cases e : f = n
    · subst e
      rw [upF_s]
      exact ⟨⟨(w _ _ (by omega) (by omega) (by omega)).trans a2, (w _ _ (by omega) (by omega) (by omega)).trans a3, (w _ _ (by omega) (by omega) (by omega)).trans a4, fun u hu => (w _ _ (by omega) (by omega) (by omega)).trans (a5 u hu)⟩, by show 0 ≤ 5; omega, by show 0 ≤ 9; omega, hD, hT⟩
    · rw [upF_n e]
      obtain ⟨x, y⟩ := S.2.2 f (by omega)
      exact ⟨x.fr (fun k => (w _ _ (by omega) (by omega) (by omega)).trans (a6 _ _ (by omega) (by omega) (by omega) (by omega))) (fun k => (w _ _ (by omega) (by omega) (by omega)).trans (a6 _ _ (by omega) (by omega) (by omega) (by omega))), y⟩
/-- a letter more -/
theorem letter_q {c : Nat} (lT : TPC h m L) (hm : m < 72) (hc : c ≤ 255) : ok (f_X10_letter (nI c) h) (fun r => r.1 = nI (m + 1) ∧ TPC r.2 (m + 1) (fun i => if i = m then nI c else L i) ∧ ∀ P k, P ≠ 61 → P ≠ 62 → rI r.2 P k = rI h P k) := by
  unfold f_X10_letter f_X3_add
  rw [if_pos (nI_pos' (by omega)), if_neg (show ¬ (255 : Int32) < nI c from nI_nlt (a := 255) hc (by omega)), lT.1, if_pos (show nI m < 72 from nI_lt (b := 72) hm (by decide)), inbN hm (by decide), gd_t, nI_clamp (by omega), hl_d, if_pos (show nI m < 72 from nI_lt (b := 72) hm (by decide)), Option.bind_some]
  have e : rI (wI h 62 m (nI c)) 61 1 = nI m := by rw [rI_ne (by omega)]; exact lT.1
  rw [e, nI_1]
  have e2 : rI (wI (wI h 62 m (nI c)) 61 1 (nI (m + 1))) 61 1 = nI (m + 1) := rI_same _ _ _ _
  refine ok_some ⟨e2, ⟨e2, fun i hi => ?_⟩, fun P k a b => (rI_ne (by omega)).trans (rI_ne (by omega))⟩
  show rI (wI (wI h 62 m (nI c)) 61 1 (nI (m + 1))) 62 i = if i = m then nI c else L i
  rw [rI_ne (by omega)]
  by_cases y : i = m
  · subst y; rw [rI_same, if_pos rfl]
  · rw [rI_ne (by omega), if_neg y]; exact lT.2 i (by omega)
end READ
