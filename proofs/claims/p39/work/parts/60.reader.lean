section READC
variable {h : pq_H} {m n p d lim : Nat} {L : Nat → Int32}
/-- a piece of text stands at a place -/
def Seg (m : Nat) (L : Nat → Int32) (p : Nat) (l : List Int32) : Prop := p + l.length ≤ m ∧ ∀ i c, l[i]? = some c → L (p + i) = c
theorem Seg.app {a b : List Int32} (s : Seg m L p (a ++ b)) : Seg m L p a ∧ Seg m L (p + a.length) b := by
  obtain ⟨s1, s2⟩ := s
  rw [List.length_append] at s1
  refine ⟨⟨by omega, fun i c hi => s2 i c ?_⟩, ⟨by omega, fun i c hi => ?_⟩⟩
  · have := (List.getElem?_eq_some_iff.mp hi).1
    rw [List.getElem?_append_left this]; exact hi
  · have := s2 (a.length + i) c (by rw [List.getElem?_append_right (by omega), show a.length + i - a.length = i by omega]; exact hi)
    rw [show p + a.length + i = p + (a.length + i) by omega]
    exact this
theorem Seg.hd {c : Int32} {l : List Int32} (s : Seg m L p (c :: l)) : p < m ∧ L p = c ∧ Seg m L (p + 1) l := by
  obtain ⟨s1, s2⟩ := s
  rw [List.length_cons] at s1
  refine ⟨by omega, s2 0 c rfl, by omega, fun i e hi => ?_⟩
  rw [show p + 1 + i = p + (i + 1) by omega]
  exact s2 (i + 1) e hi
theorem Seg.chr {c : Int32} {l : List Int32} (s : Seg m L p (c :: l)) (e : Int32) : chr m L e p = c := by
  obtain ⟨a, b, -⟩ := s.hd
  show (if p < m then L p else e) = c
  rw [if_pos a, b]
def Se (c : Int32) : Prop := c = 43 ∨ c = 45 ∨ c = -1
def Sc (c : Int32) : Prop := c = 99 ∨ Se c
def Sb (c : Int32) : Prop := c = 98 ∨ Sc c
def Sa (c : Int32) : Prop := c = 97 ∨ Sb c
theorem Sa_nd {c : Int32} (s : Sa c) : c < 48 ∨ 57 < c := by
  rcases s with rfl | rfl | rfl | rfl | rfl | rfl <;> decide
theorem Sb_97 {c : Int32} (s : Sb c) : ¬ c = 97 := by rcases s with rfl | rfl | rfl | rfl | rfl <;> decide
theorem Sc_98 {c : Int32} (s : Sc c) : ¬ c = 98 := by rcases s with rfl | rfl | rfl | rfl <;> decide
theorem Se_99 {c : Int32} (s : Se c) : ¬ c = 99 := by rcases s with rfl | rfl | rfl <;> decide
theorem Sa_94 {c : Int32} (s : Sa c) : ¬ c = 94 := by rcases s with rfl | rfl | rfl | rfl | rfl | rfl <;> decide
/-- what a power's text may be; what a number's -/
def PT (j e : Nat) (l : List Int32) : Prop := (e = 0 ∧ l = []) ∨ (e = 1 ∧ l = [nI (97 + j)]) ∨ (1 ≤ e ∧ e ≤ 6 ∧ l = [nI (97 + j), 94, nI (48 + e)])
def NT (v : Nat) (l : List Int32) : Prop := (v = 1 ∧ l = []) ∨ (v < 10 ∧ l = [nI (48 + v)]) ∨ (10 ≤ v ∧ v < 100 ∧ l = [nI (48 + v / 10), nI (48 + v % 10)])
theorem PT_hd {j e : Nat} {l : List Int32} (pt : PT j e l) (s : Seg m L p l) : (e = 0 ∧ l = []) ∨ chr m L (-1) p = nI (97 + j) := by
  rcases pt with ⟨a, b⟩ | ⟨a, b⟩ | ⟨a, a2, b⟩
  · exact Or.inl ⟨a, b⟩
  · subst b; exact Or.inr (s.chr _)
  · subst b; exact Or.inr (s.chr _)
theorem PT_len {j e : Nat} {l : List Int32} (pt : PT j e l) : (e = 0 ↔ l.length = 0) ∧ l.length ≤ 3 := by
  rcases pt with ⟨a, rfl⟩ | ⟨a, rfl⟩ | ⟨a, a2, rfl⟩ <;> simp <;> omega
theorem hd_no (l : TPC h m L) (hm : m ≤ 72) (hp : p < 1000) (c : chr m L (-1) p < 48 ∨ 57 < chr m L (-1) p) : f_X3_hasDigit (nI p) h = some false := by
  unfold f_X3_hasDigit
  rw [at_ch l hm hp, Option.bind_some]
  by_cases z : chr m L (-1) p < 48
  · rw [if_pos z]
  · rw [if_neg z, Option.bind_some, if_pos (c.resolve_left z)]
theorem hd_yes {x : Nat} (l : TPC h m L) (hm : m ≤ 72) (hp : p < 1000) (hx : x ≤ 9) (c : chr m L (-1) p = nI (48 + x)) : f_X3_hasDigit (nI p) h = some true := by
  unfold f_X3_hasDigit
  rw [at_ch l hm hp, Option.bind_some, c, if_neg (show ¬ nI (48 + x) < 48 from nI_nlt (b := 48) (by omega) (by omega)), Option.bind_some, if_neg (show ¬ (57 : Int32) < nI (48 + x) from nI_nlt (a := 57) (by omega) (by omega))]
theorem r61 (rC : rR h 63 1 = some 61) : (rR h 63 1 == some 61) = true := by rw [rC]; rfl
theorem l20_y {w : Int32 → Int32 → pq_H → Option (Int32 × pq_H)} {v j x : Nat} (hj : j < 3) (l : TPC h m L) (hm : m ≤ 72) (hp : p < 1000) (rC : rR h 63 1 = some 61) (pC : rI h 63 2 = nI p) (hx : x ≤ 9) (c : chr m L (-1) p = nI (48 + x)) : f_X2_readNumber_l20 w (nI v) (nI j) h = w (nI (v * 10 + x)) (nI (j + 1)) (wI h 63 2 (nI (p + 1))) := by
  unfold f_X2_readNumber_l20
  rw [if_neg (show ¬ (3 : Int32) ≤ nI j from nI_ge (b := 3) hj (by omega)), r61 rC, gd_t, gd_t, pC, hd_yes l hm hp hx c, Option.bind_some, if_pos rfl, at_ch l hm hp, Option.bind_some, c, dg_step.1, nI_1, nI_1]
theorem l20_n {w : Int32 → Int32 → pq_H → Option (Int32 × pq_H)} {v j : Nat} (hj : j < 3) (l : TPC h m L) (hm : m ≤ 72) (hp : p < 1000) (rC : rR h 63 1 = some 61) (pC : rI h 63 2 = nI p) (c : chr m L (-1) p < 48 ∨ 57 < chr m L (-1) p) : f_X2_readNumber_l20 w (nI v) (nI j) h = some (nI v, h) := by
  unfold f_X2_readNumber_l20
  rw [if_neg (show ¬ (3 : Int32) ≤ nI j from nI_ge (b := 3) hj (by omega)), r61 rC, gd_t, pC, hd_no l hm hp c, Option.bind_some, if_neg (by decide)]
theorem number_c {v : Nat} {l : List Int32} (hm : m ≤ 72) (lc : TPC h m L) (rC : rR h 63 1 = some 61) (pC : rI h 63 2 = nI p) (nt : NT v l) (s : Seg m L p l) (nx : Sa (chr m L (-1) (p + l.length))) : ok (f_X2_readNumber h) (fun r => r.1 = nI v ∧ rI r.2 63 2 = nI (p + l.length) ∧ F63 h r.2) := by
  have sl := s.1
  have nd := Sa_nd nx
  unfold f_X2_readNumber
  rw [r61 rC, gd_t, pC]
  rcases nt with ⟨e1, e2⟩ | ⟨e1, e2⟩ | ⟨e1, e2, e3⟩
  · subst e1 e2
    have nd : chr m L (-1) p < 48 ∨ 57 < chr m L (-1) p := nd
    rw [hd_no lc hm (by omega) nd, Option.bind_some, if_neg (by decide)]
    exact ok_some ⟨rfl, pC, F63.rf h⟩
  · subst e2
    have a := s.chr (-1)
    rw [hd_yes lc hm (by omega) (show v ≤ 9 by omega) a, Option.bind_some, if_pos rfl, lp_4]
    have e : ∀ w, f_X2_readNumber_l20 w 0 0 h = w (nI v) (nI 1) (wI h 63 2 (nI (p + 1))) := fun w => by
      have := l20_y (w := w) (v := 0) (j := 0) (by decide) lc hm (show p < 1000 by omega) rC pC (show v ≤ 9 by omega) a
      rw [Nat.zero_mul, Nat.zero_add] at this
      exact this
    rw [e, l20_n (p := p + 1) (by decide) (lc.wI _ _ _ (by omega)) hm (by simp only [List.length_cons, List.length_nil] at sl; omega) rC (rI_same _ _ _ _) nd]
    exact ok_some ⟨rfl, rI_same _ _ _ _, (F63.rf h).wI _⟩
  · subst e3
    have a := s.chr (-1)
    obtain ⟨-, -, s2⟩ := s.hd
    have b := s2.chr (-1)
    simp only [List.length_cons, List.length_nil] at sl nd
    rw [hd_yes lc hm (by omega) (show v / 10 ≤ 9 by omega) a, Option.bind_some, if_pos rfl, lp_4]
    have e : ∀ w, f_X2_readNumber_l20 w 0 0 h = w (nI (v / 10)) (nI 1) (wI h 63 2 (nI (p + 1))) := fun w => by
      have := l20_y (w := w) (v := 0) (j := 0) (by decide) lc hm (show p < 1000 by omega) rC pC (show v / 10 ≤ 9 by omega) a
      rw [Nat.zero_mul, Nat.zero_add] at this
      exact this
    rw [e, l20_y (p := p + 1) (j := 1) (by decide) (lc.wI _ _ _ (by omega)) hm (by omega) rC (rI_same _ _ _ _) (show v % 10 ≤ 9 by omega) b, l20_n (p := p + 1 + 1) (j := 1 + 1) (by decide) ((lc.wI _ _ _ (by omega)).wI _ _ _ (by omega)) hm (by omega) rC (rI_same _ _ _ _) nd]
    refine ok_some ⟨?_, rI_same _ _ _ _, ((F63.rf h).wI _).wI _⟩
    show nI (v / 10 * 10 + v % 10) = nI v
    rw [show v / 10 * 10 + v % 10 = v by omega]
theorem power_c {j e : Nat} {l : List Int32} (hm : m ≤ 72) (hj : j < 3) (lc : TPC h m L) (rC : rR h 63 1 = some 61) (pC : rI h 63 2 = nI p) (dC : rI h 63 3 = nI d) (fC : (rI h 63 4 = -1 ∧ lim = 6) ∨ rI h 63 4 = nI lim) (hl : lim ≤ 6) (hd : d + e ≤ lim) (pt : PT j e l) (s : Seg m L p l) (n0 : ¬ chr m L (-1) (p + l.length) = nI (97 + j)) (n1 : ¬ chr m L (-1) (p + l.length) = 94) : ok (f_X2_readPower (nI j) h) (fun r => r.1 = true ∧ rI r.2 63 2 = nI (p + l.length) ∧ rI r.2 63 3 = nI (d + e) ∧ rI r.2 64 j = nI e ∧ FRC j h r.2) := by
  have sl := s.1
  unfold f_X2_readPower f_X2_readPower_j133
  rw [inbN hj (by decide), nI_clamp (by omega)]
  simp only [gd_t]
  rw [hl_d (wI h 64 j 0)]
  obtain ⟨C1, hC1⟩ : ∃ C, C = wI h 64 j 0 := ⟨_, rfl⟩
  rw [← hC1]
  have lc1 : TPC C1 m L := by rw [hC1]; exact lc.wI _ _ _ (by omega)
  have rC1 : rR C1 63 1 = some 61 := by rw [hC1]; exact rC
  have pC1 : rI C1 63 2 = nI p := by rw [hC1, rI_ne (by omega)]; exact pC
  have dC1 : rI C1 63 3 = nI d := by rw [hC1, rI_ne (by omega)]; exact dC
  have fC1 : (rI C1 63 4 = -1 ∧ lim = 6) ∨ rI C1 63 4 = nI lim := by rw [hC1, rI_ne (by omega)]; exact fC
  have aC1 : rI C1 64 j = nI 0 := by rw [hC1, rI_same]; rfl
  have FC1 : FRC j h C1 := by rw [hC1]; exact ⟨fun P k _ h2 => rI_ne (by omega), fun _ _ => rfl⟩
  clear hC1
  have c97 : (97 : Int32) + nI j = nI (97 + j) := nI_add (a := 97) ..
  rw [r61 rC1, gd_t, pC1, at_ch lc1 hm (by omega), Option.bind_some, c97]
  rcases PT_hd pt s with ⟨e0, e1⟩ | hh
  · subst e0 e1
    have n0 : ¬ chr m L (-1) p = nI (97 + j) := n0
    rw [if_neg n0]
    exact ok_some ⟨rfl, pC1, dC1, aC1, FC1⟩
  have he1 : 1 ≤ e := by
    rcases pt with ⟨a, b⟩ | ⟨a, b⟩ | ⟨a, a2, b⟩
    · subst a b; exact absurd hh n0
    · omega
    · omega
  rw [if_pos hh, show (1 : Int32) = nI 1 from rfl, fits_ok hl (by omega) (by omega) dC1 fC1, decide_eq_true (show d + 1 ≤ lim by omega), if_pos rfl, nI_add, hl_d (wI C1 63 2 (nI (p + 1))), hl_d (wI (wI C1 63 2 (nI (p + 1))) 64 j (nI 1))]
  obtain ⟨C2, hC2⟩ : ∃ C, C = wI (wI C1 63 2 (nI (p + 1))) 64 j (nI 1) := ⟨_, rfl⟩
  rw [← hC2]
  have lc2 : TPC C2 m L := by rw [hC2]; exact (lc1.wI _ _ _ (by omega)).wI _ _ _ (by omega)
  have rC2 : rR C2 63 1 = some 61 := by rw [hC2]; exact rC1
  have pC2 : rI C2 63 2 = nI (p + 1) := by rw [hC2, rI_ne (by omega), rI_same]
  have dC2 : rI C2 63 3 = nI d := by rw [hC2, rI_ne (by omega), rI_ne (by omega)]; exact dC1
  have fC2 : (rI C2 63 4 = -1 ∧ lim = 6) ∨ rI C2 63 4 = nI lim := by rw [hC2, rI_ne (by omega), rI_ne (by omega)]; exact fC1
  have aC2 : rI C2 64 j = nI 1 := by rw [hC2, rI_same]
  have FC2 : FRC j h C2 := by rw [hC2]; exact ⟨fun P k h1 h2 => by rw [rI_ne (by omega), rI_ne (by omega)]; exact FC1.1 P k h1 h2, FC1.2⟩
  clear hC2
  rcases pt with ⟨a, b⟩ | ⟨a, b⟩ | ⟨a, a2, b⟩
  · omega
  · subst a b
    simp only [List.length_cons, List.length_nil] at sl n1
    rw [r61 rC2, gd_t, pC2, at_ch lc2 hm (by omega), Option.bind_some, if_neg n1, dC2, aC2, nI_add]
    exact ok_some ⟨rfl, (rI_ne (by omega)).trans pC2, rI_same _ _ _ _, (rI_ne (by omega)).trans aC2, fun P k h1 h2 => (rI_ne (by omega)).trans (FC2.1 P k h1 h2), FC2.2⟩
  · subst b
    obtain ⟨-, -, s2⟩ := s.hd
    obtain ⟨-, -, s3⟩ := s2.hd
    simp only [List.length_cons, List.length_nil] at sl
    rw [r61 rC2, gd_t, pC2, at_ch lc2 hm (by omega), Option.bind_some, if_pos (s2.chr (-1)), nI_add, hl_d (wI C2 63 2 (nI (p + 1 + 1)))]
    obtain ⟨C3, hC3⟩ : ∃ C, C = wI C2 63 2 (nI (p + 1 + 1)) := ⟨_, rfl⟩
    rw [← hC3]
    have lc3 : TPC C3 m L := by rw [hC3]; exact lc2.wI _ _ _ (by omega)
    have rC3 : rR C3 63 1 = some 61 := by rw [hC3]; exact rC2
    have pC3 : rI C3 63 2 = nI (p + 1 + 1) := by rw [hC3, rI_same]
    have dC3 : rI C3 63 3 = nI d := by rw [hC3, rI_ne (by omega)]; exact dC2
    have fC3 : (rI C3 63 4 = -1 ∧ lim = 6) ∨ rI C3 63 4 = nI lim := by rw [hC3, rI_ne (by omega)]; exact fC2
    have FC3 : FRC j h C3 := by rw [hC3]; exact ⟨fun P k h1 h2 => by rw [rI_ne (by omega)]; exact FC2.1 P k h1 h2, FC2.2⟩
    clear hC3
    have e48 : nI (48 + e) - 48 = nI e := by
      rw [show (48 : Int32) = nI 48 from rfl, pk_sub (by omega)]
      congr 1
      omega
    rw [r61 rC3, gd_t, pC3, at_ch lc3 hm (by omega), Option.bind_some, s3.chr (-1), e48, if_neg (show ¬ nI e < nI 1 by rw [ilt (by omega) (by omega)]; omega), if_neg (show ¬ (6 : Int32) < nI e from nI_nlt (a := 6) (by omega) (by omega)), fits_ok hl (by omega) (by omega) dC3 fC3, decide_eq_true hd, if_pos rfl, nI_add, hl_d (wI C3 63 2 (nI (p + 1 + 1 + 1)))]
    obtain ⟨C4, hC4⟩ : ∃ C, C = wI (wI C3 63 2 (nI (p + 1 + 1 + 1))) 64 j (nI e) := ⟨_, rfl⟩
    rw [← hC4]
    have pC4 : rI C4 63 2 = nI (p + 1 + 1 + 1) := by rw [hC4, rI_ne (by omega), rI_same]
    have dC4 : rI C4 63 3 = nI d := by rw [hC4, rI_ne (by omega), rI_ne (by omega)]; exact dC3
    have aC4 : rI C4 64 j = nI e := by rw [hC4, rI_same]
    have FC4 : FRC j h C4 := by rw [hC4]; exact ⟨fun P k h1 h2 => by rw [rI_ne (by omega), rI_ne (by omega)]; exact FC3.1 P k h1 h2, FC3.2⟩
    clear hC4
    rw [dC4, aC4, nI_add]
    exact ok_some ⟨rfl, (rI_ne (by omega)).trans pC4, rI_same _ _ _ _, (rI_ne (by omega)).trans aC4, fun P k h1 h2 => (rI_ne (by omega)).trans (FC4.1 P k h1 h2), FC4.2⟩
end READC
