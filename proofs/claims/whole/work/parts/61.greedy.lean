section GREEDY
def colsOf (A : Nat → Nat → Int) (pc : Nat → Nat) : Nat → Nat → Int := fun i t => A t (pc i)
/-- the columns below c that no columns before them tell, in order -/
def GRE (R : Nat) (A : Nat → Nat → Int) : Nat → Nat → (Nat → Nat) → Prop
  | 0, k, _ => k = 0
  | c + 1, k, pc => (DEP R k (colsOf A pc) (fun t => A t c) ∧ GRE R A c k pc) ∨ (∃ k', k = k' + 1 ∧ pc k' = c ∧ ¬ DEP R k' (colsOf A pc) (fun t => A t c) ∧ GRE R A c k' pc)
theorem DEP_congr {R k : Nat} {U U' : Nat → Nat → Int} {w : Nat → Int} (h : ∀ i, i < k → ∀ t, t < R → U i t = U' i t) : DEP R k U w → DEP R k U' w := by
  intro ⟨x, z, hz, e⟩
  refine ⟨x, z, hz, fun t ht => ?_⟩
  rw [← e t ht]
  congr 1
  exact sK_congr (fun i hi => by rw [h i hi t ht])
theorem GRE_det {R c : Nat} {A : Nat → Nat → Int} : ∀ {k k' : Nat} {pc pc' : Nat → Nat}, GRE R A c k pc → GRE R A c k' pc' → k = k' ∧ ∀ i, i < k → pc i = pc' i := by
  induction c with
  | zero =>
    intro k k' pc pc' h h'
    have h : k = 0 := h
    have h' : k' = 0 := h'
    exact ⟨by omega, fun i hi => by omega⟩
  | succ c ih =>
    intro k k' pc pc' h h'
    rcases h with ⟨d, g⟩ | ⟨j, e, q, d, g⟩
    · rcases h' with ⟨d', g'⟩ | ⟨j', e', q', d', g'⟩
      · exact ih g g'
      · obtain ⟨a, b⟩ := ih g g'
        subst a
        exact absurd (DEP_congr (fun i hi t _ => by show A t (pc i) = A t (pc' i); rw [b i hi]) d) d'
    · rcases h' with ⟨d', g'⟩ | ⟨j', e', q', d', g'⟩
      · obtain ⟨a, b⟩ := ih g g'
        subst a
        exact absurd (DEP_congr (fun i hi t _ => by show A t (pc' i) = A t (pc i); rw [b i hi]) d') d
      · obtain ⟨a, b⟩ := ih g g'
        subst a
        refine ⟨by omega, fun i hi => ?_⟩
        by_cases z : i = j
        · subst z; omega
        · exact b i (by omega)
theorem GRE_congr {R c k : Nat} {A : Nat → Nat → Int} {pc pc' : Nat → Nat} (h : GRE R A c k pc) (e : ∀ i, i < k → pc i = pc' i) : GRE R A c k pc' := by
  induction c generalizing k with
  | zero => exact h
  | succ c ih =>
    rcases h with ⟨d, g⟩ | ⟨j, ej, q, d, g⟩
    · exact Or.inl ⟨DEP_congr (fun i hi t _ => by show A t (pc i) = A t (pc' i); rw [e i hi]) d, ih g e⟩
    · refine Or.inr ⟨j, ej, by rw [← e j (by omega)]; exact q, fun y => d (DEP_congr (fun i hi t _ => by show A t (pc' i) = A t (pc i); rw [e i (by omega)]) y), ih g (fun i hi => e i (by omega))⟩
theorem GRE_lt {R c k : Nat} {A : Nat → Nat → Int} {pc : Nat → Nat} (h : GRE R A c k pc) : k ≤ c ∧ ∀ i, i < k → pc i < c := by
  induction c generalizing k with
  | zero =>
    have h : k = 0 := h
    exact ⟨by omega, fun i hi => by omega⟩
  | succ c ih =>
    rcases h with ⟨d, g⟩ | ⟨j, ej, q, d, g⟩
    · obtain ⟨a, b⟩ := ih g
      exact ⟨by omega, fun i hi => by have := b i hi; omega⟩
    · obtain ⟨a, b⟩ := ih g
      refine ⟨by omega, fun i hi => ?_⟩
      by_cases z : i = j
      · subst z; omega
      · have := b i (by omega); omega
def bnd (k : Nat) : Int := if k = 0 then 99 else if k = 1 then 19602 else if k = 2 then 768476808 else 1200000000000000000
theorem bnd_ok {k : Nat} (h : k < 3) : 1 ≤ bnd k ∧ 2 * bnd k * bnd k ≤ bnd (k + 1) ∧ bnd k ≤ BIG := by
  have : k = 0 ∨ k = 1 ∨ k = 2 := by omega
  rcases this with rfl | rfl | rfl <;> decide
theorem BDE_le {R : Nat} {E : Nat → Nat → Int} {B B' : Int} (h : BDE R E B) (hB : B ≤ B') : BDE R E B' := fun t c ht => by
  have := h t c ht
  omega
theorem bnd_big (k : Nat) : bnd k ≤ 1200000000000000000 := by
  unfold bnd
  split
  · decide
  split
  · decide
  split
  · decide
  · exact Int.le_refl _
/-- the maker's state behind the columns below c -/
def MK (R N c k : Nat) (A : Nat → Nat → Int) (pc : Nat → Nat) (h0 h : pq_H) (σ : Nat → Nat) (E : Nat → Nat → Int) : Prop :=
  PM h σ ∧ (∀ P i, P ≠ 73 → rI h P i = rI h0 P i) ∧ CEm h σ R (N + 1) E ∧ BDE R E (bnd k) ∧ REQ R A E ∧ PIV R k pc E ∧ GRE R A c k pc ∧ ∀ c', c' < c → (∃ i, i < k ∧ pc i = c' ∧ rI h 73 c' = nI i) ∨ ((∀ i, i < k → pc i ≠ c') ∧ rI h 73 c' = -1)
theorem makesLoop {R N : Nat} {A : Nat → Nat → Int} {h0 : pq_H} {σ0 : Nat → Nat} (p : PM h0 σ0) (hR : rI h0 71 2 = nI R) (hR2 : R ≤ 28) (hN : rI h0 71 3 = nI N) (hN3 : N ≤ 3) (ce : CEm h0 σ0 R (N + 1) A) (hb : BDE R A 99) : ok (lp (fun _ _ _ => none) f_X5_makes_l104 1000 0 0 h0) (fun r => ∃ k pc σ E, MK R N N k A pc h0 r.2 σ E ∧ ((r.1 = true ∧ DEP R k (colsOf A pc) (fun t => A t N)) ∨ (r.1 = false ∧ ¬ DEP R k (colsOf A pc) (fun t => A t N)))) := by
  refine lp_gen (fun (w : Int32 → Int32 → pq_H → Option (Bool × pq_H)) (s : Int32 × Int32 × pq_H) => w s.1 s.2.1 s.2.2) (fun c s => ∃ k pc σ E, s.1 = nI k ∧ s.2.1 = nI c ∧ MK R N c k A pc h0 s.2.2 σ E) N ?_ ?_ 1000 0 (0, 0, h0) (by omega) (by omega) ⟨0, fun _ => 0, σ0, A, rfl, rfl, p, fun _ _ _ => rfl, ce, hb, REQ.rf _ _, fun i hi => by omega, rfl, fun c' hc => by omega⟩
  · intro c s w hc ⟨k, pc, σ, E, e1, e2, m1, m2, m3, m4, m5, m6, m7, m8⟩ hw
    obtain ⟨x, y, h⟩ := s
    simp only at e1 e2 m1 m2 m3 m4 m5 m6 m7 m8
    subst e1 e2
    show ok (f_X5_makes_l104 w (nI k) (nI c) h) _
    obtain ⟨g1, g2⟩ := GRE_lt m7
    have hk3 : k < 3 := by omega
    obtain ⟨b1, b2, b3⟩ := bnd_ok hk3
    have hkR : k ≤ R := by
      by_cases z : k = 0
      · omega
      · have := (m6 (k - 1) (by omega)).1
        omega
    have hp4 : ∀ i, i < k → pc i < 4 := fun i hi => by have := g2 i hi; omega
    unfold f_X5_makes_l104 f_X5_makes_j142
    rw [m2 _ _ (by omega), hN, if_neg (nI_ge hc (by omega))]
    have dep := dep_piv (c := c) m6 hp4 (by omega) m5
    rcases lead_ok m1 ((m2 _ _ (by omega)).trans hR) hR2 ((m2 _ _ (by omega)).trans hN) hN3 m3 (BDE_le m4 b3) hkR hc with ⟨t0, a1, a2, a3, ⟨r, h'⟩, er, rfl, f1, σ', f2, f3⟩ | ⟨a1, a2⟩
    · -- a led column
      simp only at f1 f2 f3
      rw [er, bd2_some, inbN (show c < 3 by omega) (by decide), gd_t, nI_clamp (by omega), hl_d, gd_t, rI_same, if_neg (fun q => ch_no (k := 1) (c := k) (by omega) (by omega) (by omega) q.symm), nI_1, nI_1]
      have nd : ¬ DEP R k (colsOf A pc) (fun t => A t c) := fun d => a3 (dep.mpr d t0 a2 a1)
      have mkk' : MK R N (c + 1) (k + 1) A (fun i => if i = k then c else pc i) h0 (wI h' 73 c (nI k)) σ' (EL (SW E k t0) k c) := by
       refine ⟨f2.fr (fun _ _ => rfl), fun P i hP => ?_, fun t x ht hx => f3 t x ht hx, ?_, ?_, PIV_step m6 a1 a2 a3, ?_, fun c' hc' => ?_⟩
       · rw [rI_ne (by omega), f1]; exact m2 P i hP
       · exact BDE_le (BDE_el (BDE_sw m4 (by omega) a2) (by omega) b1) b2
       · exact (m5.tr (REQ_sw E (by omega) a2)).tr (REQ_el _ (by omega) (by unfold SW; rw [if_pos rfl]; exact a3))
       · refine Or.inr ⟨k, rfl, if_pos rfl, fun d => nd (DEP_congr (fun i hi t _ => ?_) d), GRE_congr m7 (fun i hi => ?_)⟩
         · show A t (if i = k then c else pc i) = A t (pc i)
           rw [if_neg (by omega)]
         · rw [if_neg (by omega)]
       · by_cases z : c' = c
         · subst z
           exact Or.inl ⟨k, by omega, if_pos rfl, rI_same _ _ _ _⟩
         · rcases m8 c' (by omega) with ⟨i, i1, i2, i3⟩ | ⟨i1, i2⟩
           · refine Or.inl ⟨i, by omega, by show (if i = k then c else pc i) = c'; rw [if_neg (by omega)]; exact i2, ?_⟩
             rw [rI_ne (by omega), f1]; exact i3
           · refine Or.inr ⟨fun i hi => ?_, ?_⟩
             · by_cases y : i = k
               · simp only [if_pos y]; omega
               · simp only [if_neg y]; exact i1 i (by omega)
             · rw [rI_ne (by omega), f1]; exact i2
      exact hw (nI (k + 1), nI (c + 1), wI h' 73 c (nI k)) ⟨_, _, _, _, rfl, rfl, mkk'⟩
    · rw [a2, bd2_some, inbN (show c < 3 by omega) (by decide), gd_t, nI_clamp (by omega), hl_d, gd_t, rI_same, if_pos rfl, nI_1]
      have mkk' : MK R N (c + 1) k A pc h0 (wI h 73 c (-1)) σ E := by
       refine ⟨m1.fr (fun _ _ => rfl), fun P i hP => ?_, fun t x ht hx => m3 t x ht hx, m4, m5, m6, Or.inl ⟨dep.mp a1, m7⟩, fun c' hc' => ?_⟩
       · rw [rI_ne (by omega)]; exact m2 P i hP
       · by_cases z : c' = c
         · subst z
           exact Or.inr ⟨fun i hi => by have := g2 i hi; omega, rI_same _ _ _ _⟩
         · rcases m8 c' (by omega) with ⟨i, i1, i2, i3⟩ | ⟨i1, i2⟩
           · exact Or.inl ⟨i, i1, i2, by rw [rI_ne (by omega)]; exact i3⟩
           · exact Or.inr ⟨i1, by rw [rI_ne (by omega)]; exact i2⟩
      exact hw (nI k, nI (c + 1), wI h 73 c (-1)) ⟨_, _, _, _, rfl, rfl, mkk'⟩
  · intro s w ⟨k, pc, σ, E, e1, e2, mkk⟩
    obtain ⟨m1, m2, m3, m4, m5, m6, m7, m8⟩ := id mkk
    obtain ⟨x, y, h⟩ := s
    simp only at e1 e2 mkk m1 m2 m3 m4 m5 m6 m7 m8
    subst e1 e2
    show ok (f_X5_makes_l104 w (nI k) (nI N) h) _
    obtain ⟨g1, g2⟩ := GRE_lt m7
    have hkR : k ≤ R := by
      by_cases z : k = 0
      · omega
      · have := (m6 (k - 1) (by omega)).1
        omega
    have hp4 : ∀ i, i < k → pc i < 4 := fun i hi => by have := g2 i hi; omega
    have dep := dep_piv (c := N) m6 hp4 (by omega) m5
    have b3 : bnd k ≤ BIG := Int.le_trans (bnd_big k) (by decide)
    unfold f_X5_makes_l104 f_X5_makes_j148
    rw [m2 _ _ (by omega), hN, if_pos (le_nIn (Nat.le_refl _) (by omega))]
    rcases leader_ok m1 ((m2 _ _ (by omega)).trans hR) hR2 m3 (BDE_le m4 b3) hkR (show N < N + 1 by omega) (by omega) with ⟨t0, a1, a2, a3, a4⟩ | ⟨a1, a2⟩
    · rw [a4, Option.bind_some, if_neg (fun q => ch_no (k := 1) (c := t0) (by omega) (by omega) (by omega) q.symm)]
      exact ok_some ⟨k, pc, σ, E, mkk, Or.inr ⟨rfl, fun d => a3 (dep.mpr d t0 a2 a1)⟩⟩
    · rw [a2, Option.bind_some, if_pos rfl]
      exact ok_some ⟨k, pc, σ, E, mkk, Or.inl ⟨rfl, dep.mp a1⟩⟩
end GREEDY
