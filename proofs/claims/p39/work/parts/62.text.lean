section TEXT
def nmb (v : Nat) : List Int32 := if v < 10 then [nI (48 + v)] else [nI (48 + v / 10), nI (48 + v % 10)]
def nbl (D : Nat) (c : Int32) : List Int32 := if c.toInt.natAbs = 1 ∧ ¬ D = 0 then [] else nmb c.toInt.natAbs
def bdy (D : Nat) (c : Int32) (s k : Nat) : List Int32 := nbl D c ++ (pwl 97 (D - s) ++ (pwl 98 (s - k) ++ pwl 99 k))
/-- the text of the terms ahead of t -/
def tx (D : Nat) (cf : Nat → Int32) : Nat → List Int32
  | 0 => []
  | t + 1 => if cf t = 0 then tx D cf t else tx D cf t ++ (sgl (cf t) (tx D cf t) ++ bdy D (cf t) (skT t).1 (skT t).2)
theorem tx_s (D : Nat) (cf : Nat → Int32) (t : Nat) : tx D cf (t + 1) = if cf t = 0 then tx D cf t else tx D cf t ++ (sgl (cf t) (tx D cf t) ++ bdy D (cf t) (skT t).1 (skT t).2) := rfl
variable {D m n : Nat} {cf : Nat → Int32} {L : Nat → Int32} {h B : pq_H}
theorem tx_pre (t : Nat) : ∀ j, ∃ r, tx D cf (t + j) = tx D cf t ++ r
  | 0 => ⟨[], (List.append_nil _).symm⟩
  | j + 1 => by
    obtain ⟨r, e⟩ := tx_pre t j
    rw [show t + (j + 1) = t + j + 1 by omega, tx_s]
    split
    · exact ⟨r, e⟩
    · exact ⟨r ++ (sgl (cf (t + j)) (tx D cf (t + j)) ++ bdy D (cf (t + j)) (skT (t + j)).1 (skT (t + j)).2), by rw [e, List.append_assoc, ← e]⟩
theorem tx_zero {t : Nat} : ∀ j, (∀ u, t ≤ u → u < t + j → cf u = 0) → tx D cf (t + j) = tx D cf t
  | 0, _ => rfl
  | j + 1, h => by
    rw [show t + (j + 1) = t + j + 1 by omega, tx_s, if_pos (h _ (by omega) (by omega))]
    exact tx_zero j (fun u a b => h u a (by omega))
theorem tx_congr {cf' : Nat → Int32} : ∀ t, (∀ u, u < t → cf u = cf' u) → tx D cf t = tx D cf' t
  | 0, _ => rfl
  | t + 1, h => by rw [tx_s, tx_s, tx_congr t (fun u hu => h u (by omega)), h t (by omega)]
theorem nxt (N : Nat) : ∀ j t, N ≤ t + j → (∀ u, t ≤ u → u < N → cf u = 0) ∨ ∃ t2, t ≤ t2 ∧ t2 < N ∧ ¬ cf t2 = 0 ∧ ∀ u, t ≤ u → u < t2 → cf u = 0
  | 0, t, h => Or.inl (fun u a b => by omega)
  | j + 1, t, h => by
    by_cases c : N ≤ t
    · exact Or.inl (fun u a b => by omega)
    · by_cases z : cf t = 0
      · rcases nxt N j (t + 1) (by omega) with k | ⟨t2, k1, k2, k3, k4⟩
        · exact Or.inl (fun u a b => by
            by_cases e : u = t
            · subst e; exact z
            · exact k u (by omega) b)
        · exact Or.inr ⟨t2, by omega, k2, k3, fun u a b => by
            by_cases e : u = t
            · subst e; exact z
            · exact k4 u (by omega) b⟩
      · exact Or.inr ⟨t, Nat.le_refl _, by omega, z, fun u a b => by omega⟩
theorem PT_pwl {j e : Nat} (he : e ≤ 6) : PT j e (pwl (97 + j) e) := by
  unfold pwl
  by_cases c0 : e = 0
  · subst c0; exact Or.inl ⟨rfl, rfl⟩
  · by_cases c1 : e = 1
    · subst c1; exact Or.inr (Or.inl ⟨rfl, rfl⟩)
    · refine Or.inr (Or.inr ⟨by omega, he, ?_⟩)
      rw [if_neg c0, if_neg (by omega)]
      rfl
theorem NT_nbl {c : Int32} (hc : c.toInt.natAbs < 100) : NT c.toInt.natAbs (nbl D c) := by
  unfold nbl
  by_cases z : c.toInt.natAbs = 1 ∧ ¬ D = 0
  · rw [if_pos z]; exact Or.inl ⟨z.1, rfl⟩
  · rw [if_neg z]
    unfold nmb
    by_cases y : c.toInt.natAbs < 10
    · rw [if_pos y]; exact Or.inr (Or.inl ⟨y, rfl⟩)
    · rw [if_neg y]; exact Or.inr (Or.inr ⟨by omega, hc, rfl⟩)
theorem bdy_pos {c : Int32} {s k : Nat} (hs : s ≤ D) (hk : k ≤ s) : 0 < (bdy D c s k).length := by
  unfold bdy nbl
  have q1 := (PT_len (PT_pwl (j := 0) (e := 1) (by decide))).1
  by_cases z : c.toInt.natAbs = 1 ∧ ¬ D = 0
  · rw [if_pos z]
    have l : ∀ a e, ¬ e = 0 → 0 < (pwl a e).length := fun a e he => by
      unfold pwl
      rw [if_neg he]
      simp
    simp only [List.length_append, List.length_nil]
    by_cases a : D - s = 0
    · by_cases b : s - k = 0
      · have := l 99 k (by omega); omega
      · have := l 98 (s - k) b; omega
    · have := l 97 (D - s) a; omega
  · rw [if_neg z]
    have : 0 < (nmb c.toInt.natAbs).length := by
      unfold nmb
      split <;> simp
    simp only [List.length_append]
    omega
theorem sgn_abs {c : Int32} (hc : c.toInt.natAbs < 100) : sgn (decide (c < 0)) c.toInt.natAbs = c := by
  have a := (abs32 (r := c) (by omega)).2
  unfold sgn
  rw [← a]
  by_cases z : c < 0
  · rw [decide_eq_true z, if_pos rfl, if_neg (Int32.not_le.mpr z), Int32.neg_neg]
  · rw [decide_eq_false z, if_neg (by decide), if_pos (Int32.not_lt.mp z)]
theorem tx_ne {t : Nat} (hs : (skT t).1 ≤ D) (z : ¬ cf t = 0) : 0 < (tx D cf (t + 1)).length := by
  rw [tx_s, if_neg z]
  have := bdy_pos (D := D) (c := cf t) hs (skT_ok t).1
  simp only [List.length_append]
  omega
theorem Seg.pre {a b : List Int32} {p : Nat} (s : Seg m L p (a ++ b)) : Seg m L p a := s.app.1
/-- what the reader has before the body of term t -/
def RI (n m D : Nat) (L cf : Nat → Int32) (B : pq_H) (p t : Nat) (h : pq_H) : Prop := TPC h m L ∧ rR h 63 1 = some 61 ∧ rI h 63 2 = nI p ∧ (rI h 63 4 = -1 ∨ rI h 63 4 = nI D) ∧ (∀ u, u < 28 → rI h (n + 12) u = if u < t then cf u else 0) ∧ ∀ P k, P ≠ 63 → P ≠ 64 → P ≠ n + 12 → rI h P k = rI B P k
def RQ (n D : Nat) (cf : Nat → Int32) (B : pq_H) (r : Int32 × pq_H) : Prop := r.1 = -1 ∧ rI r.2 n 3 = nI D ∧ (∀ u, u < 28 → rI r.2 (n + 12) u = if u < tri (D + 1) then cf u else 0) ∧ ∀ P k, P ≠ 63 → P ≠ 64 → P ≠ n + 12 → (P ≠ n ∨ k ≠ 3) → rI r.2 P k = rI B P k
theorem read_loop {z : Bool → Int32 → pq_H → Option (Int32 × pq_H)} (hm : m ≤ 72) (hn : n < 6) (hD : D ≤ 6) (hc : ∀ t, t < tri (D + 1) → (cf t).toInt.natAbs < 100) (hs : Seg m L 0 (tx D cf (tri (D + 1)))) (hl : m = (tx D cf (tri (D + 1))).length) : ∀ j t, t < tri (D + 1) → tri (D + 1) ≤ t + j → ¬ cf t = 0 → ∀ N q h, j < N → q ≤ t → RI n m D L cf B ((tx D cf t).length + (sgl (cf t) (tx D cf t)).length) t h → ok (lp z (f_X2_read_l55 n) N (decide (cf t < 0)) (nI q) h) (RQ n D cf B)
  | 0, t, ht, hj, _, _, _, _, _, _, _ => by omega
  | j + 1, t, ht, hj, zc, N, q, h, hN, hq, R => by
    obtain ⟨N, rfl⟩ := Nat.exists_eq_add_of_le' (show 1 ≤ N by omega)
    obtain ⟨r1, r2, r3, r4, r5, r6⟩ := R
    have hb := tri28 hD
    obtain ⟨s, k, hsD, hk, et⟩ := tri_exD ht
    have esk : skT t = (s, k) := by rw [et, skT_eq hk]
    have hcs := hc t ht
    -- the text behind term t
    obtain ⟨rest, er⟩ := tx_pre (D := D) (cf := cf) (t + 1) (tri (D + 1) - (t + 1))
    rw [show t + 1 + (tri (D + 1) - (t + 1)) = tri (D + 1) by omega] at er
    have e1 : tx D cf (t + 1) = tx D cf t ++ (sgl (cf t) (tx D cf t) ++ bdy D (cf t) s k) := by rw [tx_s, if_neg zc, esk]
    have sg := hs
    rw [er] at sg
    obtain ⟨sg1, sgR⟩ := sg.app
    rw [e1] at sg1
    have sg2 := sg1.app.2.app.2
    have l1 : (tx D cf (t + 1)).length = (tx D cf t).length + (sgl (cf t) (tx D cf t)).length + (bdy D (cf t) s k).length := by
      rw [e1]; simp only [List.length_append]; omega
    have l2 : m = (tx D cf (t + 1)).length + rest.length := by
      rw [hl, er]; simp only [List.length_append]
    rw [Nat.zero_add] at sg2 sgR
    -- what comes next
    have nx : (rest = [] ∧ (∀ u, t + 1 ≤ u → u < tri (D + 1) → cf u = 0)) ∨ ∃ t2, t + 1 ≤ t2 ∧ t2 < tri (D + 1) ∧ ¬ cf t2 = 0 ∧ (∀ u, t + 1 ≤ u → u < t2 → cf u = 0) ∧ tx D cf t2 = tx D cf (t + 1) ∧ ∃ r2, rest = (if cf t2 < 0 then 45 else 43) :: r2 ∧ sgl (cf t2) (tx D cf t2) = [if cf t2 < 0 then 45 else 43] := by
      rcases nxt (cf := cf) (tri (D + 1)) (j + 1) (t + 1) (by omega) with k | ⟨t2, k1, k2, k3, k4⟩
      · left
        have := tx_zero (D := D) (cf := cf) (t := t + 1) (tri (D + 1) - (t + 1)) (fun u a b => k u a (by omega))
        rw [show t + 1 + (tri (D + 1) - (t + 1)) = tri (D + 1) by omega, er] at this
        have h0 : (tx D cf (t + 1) ++ rest).length = (tx D cf (t + 1)).length := by rw [this]
        rw [List.length_append] at h0
        exact ⟨List.eq_nil_of_length_eq_zero (by omega), k⟩
      · right
        have e2 := tx_zero (D := D) (cf := cf) (t := t + 1) (t2 - (t + 1)) (fun u a b => k4 u a (by omega))
        rw [show t + 1 + (t2 - (t + 1)) = t2 by omega] at e2
        have hne : 0 < (tx D cf (t + 1)).length := tx_ne (by rw [esk]; exact hsD) zc
        have es : sgl (cf t2) (tx D cf t2) = [if cf t2 < 0 then 45 else 43] := by
          unfold sgl
          by_cases y : cf t2 < 0
          · rw [if_pos y, if_pos y]
          · rw [if_neg y, if_neg y, if_neg]
            intro x
            rw [e2] at x
            rw [x] at hne
            exact absurd hne (Nat.lt_irrefl _)
        obtain ⟨r3, e3⟩ := tx_pre (D := D) (cf := cf) (t2 + 1) (tri (D + 1) - (t2 + 1))
        rw [show t2 + 1 + (tri (D + 1) - (t2 + 1)) = tri (D + 1) by omega, tx_s, if_neg k3, es, e2, er, List.append_assoc] at e3
        have e4 := List.append_cancel_left e3
        exact ⟨t2, k1, k2, k3, k4, e2, _, e4, es⟩
    have nxE : Se (chr m L (-1) ((tx D cf t).length + (sgl (cf t) (tx D cf t)).length + (bdy D (cf t) s k).length)) := by
      rw [← l1]
      rcases nx with ⟨e, -⟩ | ⟨t2, -, -, -, -, -, r2, e, -⟩
      · subst e
        refine Or.inr (Or.inr ?_)
        unfold chr
        rw [if_neg (by simp at l2; omega)]
      · rw [e] at sgR
        rw [sgR.chr]
        split
        · exact Or.inr (Or.inl rfl)
        · exact Or.inl rfl
    rw [lp_s]
    unfold f_X2_read_l55
    rw [if_neg (show ¬ (72 : Int32) ≤ nI q from nI_ge (b := 72) (by omega) (by omega))]
    refine ok_bd2 (member_c (neg := decide (cf t < 0)) hm hn r1 r2 r3 r4 (show D - s + (s - k) + k = D by omega) hD (NT_nbl hcs) (PT_pwl (j := 0) (by omega)) (PT_pwl (j := 1) (by omega)) (PT_pwl (j := 2) (by omega)) sg2 (bdy_pos hsD hk) nxE) (fun r H ⟨m1, m2, m3, m4, m5, m6⟩ => ?_)
    simp only at m1 m2 m3 m4 m5 m6
    subst m1
    rw [show s - k + k = s by omega, ← et] at m4 m5
    have lH : TPC H m L := r1.fr (fun P u hP => m6.1 P u (by omega) (by omega) (by omega))
    have told : ∀ u, u < 28 → rI H (n + 12) u = if u < t + 1 then cf u else 0 := fun u hu => by
      by_cases e : u = t
      · subst e
        rw [m4, r5 u hu, if_neg (by omega), if_pos (by omega), sgn_abs hcs, Int32.zero_add]
      · rw [m5 u e, r5 u hu]
        by_cases y : u < t
        · rw [if_pos y, if_pos (by omega)]
        · rw [if_neg y, if_neg (by omega)]
    have rest6 : ∀ P u, P ≠ 63 → P ≠ 64 → P ≠ n + 12 → rI H P u = rI B P u := fun P u a b c => (m6.1 P u a b c).trans (r6 P u a b c)
    have eP : rI H 63 2 = nI (tx D cf (t + 1)).length := by rw [m2, l1]; rfl
    rw [if_pos rfl, r61 ((m6.2 _ _).trans r2), gd_t, eP, lH.1]
    rcases nx with ⟨e, k⟩ | ⟨t2, k1, k2, k3, k4, e2, rr, e, es⟩
    · subst e
      rw [if_neg (show ¬ nI (tx D cf (t + 1)).length < nI m by rw [ilt (by omega) (by omega)]; simp at l2; omega)]
      unfold f_X2_read_j90 f_X2_read_j154
      refine ok_some ⟨rfl, (rI_same _ _ _ _).trans m3, fun u hu => ?_, fun P u a b c d => (rI_ne (by omega)).trans (rest6 P u a b c)⟩
      show rI (wI H n 3 (rI H 63 4)) (n + 12) u = _
      rw [rI_ne (by omega), told u hu]
      by_cases y : u < t + 1
      · rw [if_pos y, if_pos (by omega)]
      · rw [if_neg y]
        by_cases x : u < tri (D + 1)
        · rw [if_pos x, k u (by omega) x]
        · rw [if_neg x]
    · rw [e] at sgR l2
      have lt := sgR.hd.1
      rw [if_pos (nI_lt lt (by omega)), gd_t, at_ch lH hm (by omega), Option.bind_some, sgR.chr]
      have go : ok (lp z (f_X2_read_l55 n) N (decide (cf t2 < 0)) (nI (q + 1)) (wI H 63 2 (nI ((tx D cf (t + 1)).length + 1)))) (RQ n D cf B) := by
        refine read_loop hm hn hD hc hs hl j t2 k2 (by omega) k3 N (q + 1) _ (by omega) (by omega) ⟨lH.wI _ _ _ (by omega), (m6.2 _ _).trans r2, ?_, Or.inr ((rI_ne (by omega)).trans m3), fun u hu => ?_, fun P u a b c => (rI_ne (by omega)).trans (rest6 P u a b c)⟩
        · rw [rI_same, es, e2]
          rfl
        · rw [rI_ne (by omega), told u hu]
          by_cases y : u < t + 1
          · rw [if_pos y, if_pos (by omega)]
          · rw [if_neg y]
            by_cases x : u < t2
            · rw [if_pos x, k4 u (by omega) x]
            · rw [if_neg x]
      unfold f_X2_read_j125 f_X2_read_j137
      rw [eP, nI_1, nI_1]
      by_cases y : cf t2 < 0
      · rw [if_pos y, if_neg (by decide), if_pos rfl, if_pos rfl]
        rw [decide_eq_true y] at go
        exact go
      · rw [if_neg y, if_pos rfl, if_neg (by decide)]
        rw [decide_eq_false y] at go
        exact go
end TEXT
