section INV
/-- what the class's scratch leaves as it was -/
def frC (h h' : pq_H) : Prop := (∀ p, (p < 59 ∨ p = 61 ∨ p = 62 ∨ (65 ≤ p ∧ p ≤ 69) ∨ 73 < p) → ∀ k, rI h' p k = rI h p k) ∧ ∀ k, rR h' 72 k = rR h 72 k
def frM (h h' : pq_H) : Prop := (∀ p, ((1 ≤ p ∧ p ≤ 7) ∨ p = 9 ∨ (11 ≤ p ∧ p ≤ 14) ∨ 20 ≤ p) → ∀ k, rI h' p k = rI h p k) ∧ rI h' 0 5 = rI h 0 5 ∧ rI h' 0 8 = rI h 0 8 ∧ rI h' 0 11 = rI h 0 11 ∧ rI h' 0 42 = rI h 0 42 ∧ rI h' 0 18 = rI h 0 18
theorem frC.rf (h : pq_H) : frC h h := ⟨fun _ _ _ => rfl, fun _ => rfl⟩
theorem frM.rf (h : pq_H) : frM h h := ⟨fun _ _ _ => rfl, rfl, rfl, rfl, rfl, rfl⟩
theorem frC.tr {a b c : pq_H} (h1 : frC a b) (h2 : frC b c) : frC a c := ⟨fun p hp k => (h2.1 p hp k).trans (h1.1 p hp k), fun k => (h2.2 k).trans (h1.2 k)⟩
theorem frM.tr {a b c : pq_H} (h1 : frM a b) (h2 : frM b c) : frM a c := ⟨fun p hp k => (h2.1 p hp k).trans (h1.1 p hp k), h2.2.1.trans h1.2.1, h2.2.2.1.trans h1.2.2.1, h2.2.2.2.1.trans h1.2.2.2.1, h2.2.2.2.2.1.trans h1.2.2.2.2.1, h2.2.2.2.2.2.trans h1.2.2.2.2.2⟩
theorem frC.wI (h : pq_H) (p k : Nat) (v : Int32) (hp : ¬ (p < 59 ∨ p = 61 ∨ p = 62 ∨ (65 ≤ p ∧ p ≤ 69) ∨ 73 < p)) : frC h (wI h p k v) := ⟨fun q hq j => by rw [rI_wI, if_neg (by omega)], fun j => rfl⟩
theorem frC.wJ (h : pq_H) (p k : Nat) (v : Int64) : frC h (wJ h p k v) := ⟨fun q hq j => rfl, fun j => rfl⟩
theorem frC.wR (h : pq_H) (p k : Nat) (v : Option Nat) (hp : p ≠ 72) : frC h (wR h p k v) := ⟨fun q hq j => rfl, fun j => by rw [rR_wR, if_neg (fun z => hp z.1.symm)]⟩
theorem frM.wI (h : pq_H) (p k : Nat) (v : Int32) (hp : (8 ≤ p ∧ p ≤ 19 ∧ p ≠ 9 ∧ ¬ (11 ≤ p ∧ p ≤ 14)) ∨ (p = 0 ∧ k ≠ 5 ∧ k ≠ 8 ∧ k ≠ 11 ∧ k ≠ 42 ∧ k ≠ 18)) : frM h (wI h p k v) := by
  refine ⟨fun q hq j => ?_, ?_, ?_, ?_, ?_, ?_⟩
  · rw [rI_wI, if_neg (by omega)]
  · rw [rI_wI, if_neg (by omega)]
  · rw [rI_wI, if_neg (by omega)]
  · rw [rI_wI, if_neg (by omega)]
  · rw [rI_wI, if_neg (by omega)]
  · rw [rI_wI, if_neg (by omega)]
theorem frM.wJ (h : pq_H) (p k : Nat) (v : Int64) : frM h (wJ h p k v) := ⟨fun _ _ _ => rfl, rfl, rfl, rfl, rfl, rfl⟩
theorem FormC.fr {h h' : pq_H} {p : Nat} {F : pF} (hF : FormC h p F) (h1 : ∀ k, rI h' p k = rI h p k) (h2 : ∀ k, rI h' (p + 12) k = rI h (p + 12) k) : FormC h' p F := ⟨(h1 1).trans hF.1, (h1 2).trans hF.2.1, (h1 3).trans hF.2.2.1, fun t ht => (h2 t).trans (hF.2.2.2 t ht)⟩
theorem FormC.frC {h h' : pq_H} {p : Nat} {F : pF} (hF : FormC h p F) (hp : p < 12) (hf : frC h h') : FormC h' p F := hF.fr (hf.1 p (by omega)) (hf.1 (p + 12) (by omega))
theorem FormM.fr {h h' : pq_H} {f : Nat} {F : pF} (hF : FormM h f F) (h3 : rI h' 3 f = rI h 3 f) (h4 : rI h' 4 f = rI h 4 f) (h5 : rI h' 5 f = rI h 5 f) (h2 : ∀ t, t < 28 → rI h' 2 (28 * f + t) = rI h 2 (28 * f + t)) : FormM h' f F := ⟨h3.trans hF.1, h4.trans hF.2.1, h5.trans hF.2.2.1, fun t ht => (h2 t ht).trans (hF.2.2.2 t ht)⟩
theorem FormM.frM {h h' : pq_H} {f : Nat} {F : pF} (hF : FormM h f F) (hf : frM h h') : FormM h' f F := hF.fr (hf.1 3 (by omega) f) (hf.1 4 (by omega) f) (hf.1 5 (by omega) f) (fun t _ => hf.1 2 (by omega) _)
def InvF (n : Nat) (hC hM : pq_H) : Prop := n ≤ 6 ∧ rI hC 56 3 = nI n ∧ rI hM 0 5 = nI n ∧ ∀ f, f < n → ∃ F, FormC hC f F ∧ FormM hM f F ∧ okF F
def FormK (h : pq_H) (f : Nat) (F : pF) : Prop := rI h 22 (1 + 3 * f) = nI F.1 ∧ rI h 22 (2 + 3 * f) = nI F.2.1 ∧ rI h 22 (3 + 3 * f) = nI F.2.2.1 ∧ ∀ t, t < 28 → rI h 22 (19 + (28 * f + t)) = F.2.2.2 t
def InvI (hC hM : pq_H) : Prop := (rI hC 56 4 < 0 ∧ rI hM 0 42 < 0) ∨ ∃ k, k ≤ 6 ∧ rI hC 56 4 = nI k ∧ ¬ rI hM 0 42 < 0 ∧ rI hM 22 0 = nI k ∧ ∀ f, f < k → ∃ F, FormC hC (6 + f) F ∧ FormK hM f F ∧ okF F
def InvL (hC hM : pq_H) : Prop := ∃ m, m ≤ 72 ∧ rI hC 61 1 = nI m ∧ rI hM 0 11 = nI m ∧ ∀ i, i < m → rI hM 9 i = rI hC 62 i
def InvR (hC hM : pq_H) : Prop := ∀ k, 1 ≤ k → k ≤ 6 → rI hC 82 k = rI hM 1 k
def InvS (hC hM : pq_H) : Prop := ∀ l, l < 3 → (rI hC 81 l < 0 ∧ rI hM 20 l < 0) ∨ ∃ s, s ≤ 40 ∧ rI hC 81 l = nI s ∧ rI hM 20 l = nI s ∧ ∀ i, i < s → rI hM 21 (40 * l + i) = rI hC (52 + l) i
def UE (n : Nat) (hC hM : pq_H) (j k : Nat) : Prop := ∃ f, f < n ∧ rI hC 75 j = nI f ∧ ((∃ t, t < 28 ∧ rI hC 76 j = nI t ∧ rI hM 6 k = nI (28 * f + t) ∧ rI hM 7 k = rI hC 77 j ∧ bdI (rI hC 77 j)) ∨ (rI hC 76 j = -1 ∧ ∃ a b, a ≤ 5 ∧ b ≤ 9 ∧ rI hC 77 j = nI a ∧ rI hC 78 j = nI b ∧ rI hM 6 k = -1 - nI f ∧ rI hM 7 k = nI (10 * a + b)))
def InvU (n : Nat) (hC hM : pq_H) : Prop := ∃ m x, m ≤ 16 ∧ x < 16 ∧ rI hC 74 0 = nI m ∧ rI hM 0 8 = nI m ∧ rI hC 74 5 = nI x ∧ ∀ k, k < m → UE n hC hM ((x + 16 - m + k) % 16) k
def Perm (hC : pq_H) : Prop := ∃ σ : Nat → Nat, (∀ t, t < 28 → rR hC 72 t = some (24 + σ t) ∧ σ t < 28) ∧ ∀ t t', t < 28 → t' < 28 → σ t = σ t' → t = t'
def InvG (n m : Nat) (hC hM : pq_H) : Prop := InvF n hC hM ∧ InvU m hC hM ∧ InvL hC hM ∧ InvR hC hM ∧ InvS hC hM ∧ InvI hC hM ∧ Perm hC
def Inv (hC hM : pq_H) : Prop := ∃ n, InvG n n hC hM
theorem InvF.fr {n : Nat} {hC hM hC' hM' : pq_H} (i : InvF n hC hM) (c1 : ∀ p, (p < 6 ∨ (12 ≤ p ∧ p < 18)) → ∀ k, rI hC' p k = rI hC p k) (c2 : rI hC' 56 3 = rI hC 56 3) (m1 : ∀ p, 2 ≤ p → p ≤ 5 → ∀ k, rI hM' p k = rI hM p k) (m2 : rI hM' 0 5 = rI hM 0 5) : InvF n hC' hM' := by
  obtain ⟨h0, h1, h2, h3⟩ := i
  refine ⟨h0, c2.trans h1, m2.trans h2, fun f hf => ?_⟩
  obtain ⟨F, a, b, c⟩ := h3 f hf
  exact ⟨F, a.fr (c1 f (by omega)) (c1 (f + 12) (by omega)), b.fr (m1 3 (by omega) (by omega) _) (m1 4 (by omega) (by omega) _) (m1 5 (by omega) (by omega) _) (fun t _ => m1 2 (by omega) (by omega) _), c⟩
theorem InvI.fr {hC hM hC' hM' : pq_H} (i : InvI hC hM) (c1 : ∀ p, ((6 ≤ p ∧ p < 12) ∨ (18 ≤ p ∧ p < 24)) → ∀ k, rI hC' p k = rI hC p k) (c2 : rI hC' 56 4 = rI hC 56 4) (m1 : ∀ k, rI hM' 22 k = rI hM 22 k) (m2 : rI hM' 0 42 = rI hM 0 42) : InvI hC' hM' := by
  rcases i with ⟨a, b⟩ | ⟨k, h0, h1, h2, h3, h4⟩
  · exact Or.inl ⟨by rw [c2]; exact a, by rw [m2]; exact b⟩
  · refine Or.inr ⟨k, h0, c2.trans h1, by rw [m2]; exact h2, (m1 0).trans h3, fun f hf => ?_⟩
    obtain ⟨F, a, b, c⟩ := h4 f hf
    exact ⟨F, a.fr (c1 (6 + f) (by omega)) (c1 (6 + f + 12) (by omega)), ⟨(m1 _).trans b.1, (m1 _).trans b.2.1, (m1 _).trans b.2.2.1, fun t ht => (m1 _).trans (b.2.2.2 t ht)⟩, c⟩
theorem InvL.fr {hC hM hC' hM' : pq_H} (i : InvL hC hM) (c1 : ∀ k, rI hC' 62 k = rI hC 62 k) (c2 : rI hC' 61 1 = rI hC 61 1) (m1 : ∀ k, rI hM' 9 k = rI hM 9 k) (m2 : rI hM' 0 11 = rI hM 0 11) : InvL hC' hM' := by
  obtain ⟨m, h0, h1, h2, h3⟩ := i
  exact ⟨m, h0, c2.trans h1, m2.trans h2, fun i hi => by rw [m1, c1]; exact h3 i hi⟩
theorem InvR.fr {hC hM hC' hM' : pq_H} (i : InvR hC hM) (c1 : ∀ k, rI hC' 82 k = rI hC 82 k) (m1 : ∀ k, rI hM' 1 k = rI hM 1 k) : InvR hC' hM' := fun k a b => by rw [c1, m1]; exact i k a b
theorem InvS.fr {hC hM hC' hM' : pq_H} (i : InvS hC hM) (c1 : ∀ p, 52 ≤ p → p < 55 → ∀ k, rI hC' p k = rI hC p k) (c2 : ∀ k, rI hC' 81 k = rI hC 81 k) (m1 : ∀ k, rI hM' 20 k = rI hM 20 k) (m2 : ∀ k, rI hM' 21 k = rI hM 21 k) : InvS hC' hM' := fun l hl => by
  rcases i l hl with ⟨a, b⟩ | ⟨s, h0, h1, h2, h3⟩
  · exact Or.inl ⟨by rw [c2]; exact a, by rw [m1]; exact b⟩
  · exact Or.inr ⟨s, h0, (c2 _).trans h1, (m1 _).trans h2, fun i hi => by rw [m2, c1 _ (by omega) (by omega)]; exact h3 i hi⟩
theorem InvU.fr {n : Nat} {hC hM hC' hM' : pq_H} (i : InvU n hC hM) (c1 : ∀ p, 74 ≤ p → p ≤ 78 → ∀ k, rI hC' p k = rI hC p k) (m1 : ∀ k, rI hM' 6 k = rI hM 6 k) (m2 : ∀ k, rI hM' 7 k = rI hM 7 k) (m3 : rI hM' 0 8 = rI hM 0 8) : InvU n hC' hM' := by
  obtain ⟨m, x, h0, h1, h2, h3, h4, h5⟩ := i
  refine ⟨m, x, h0, h1, (c1 _ (by omega) (by omega) _).trans h2, m3.trans h3, (c1 _ (by omega) (by omega) _).trans h4, fun k hk => ?_⟩
  have h6 := h5 k hk
  unfold UE at h6 ⊢
  rw [c1 75 (by omega) (by omega), c1 76 (by omega) (by omega), c1 77 (by omega) (by omega), c1 78 (by omega) (by omega), m1, m2]
  exact h6
theorem InvU.nil {n : Nat} {hC hM : pq_H} (x : Nat) (hx : x < 16) (h1 : rI hC 74 0 = nI 0) (h2 : rI hM 0 8 = nI 0) (h3 : rI hC 74 5 = nI x) : InvU n hC hM := ⟨0, x, by omega, hx, h1, h2, h3, fun k hk => by omega⟩
theorem Perm.fr {hC hC' : pq_H} (i : Perm hC) (c1 : ∀ k, rR hC' 72 k = rR hC 72 k) : Perm hC' := by
  obtain ⟨s, a, b⟩ := i
  exact ⟨s, fun t ht => by rw [c1]; exact a t ht, b⟩
theorem InvG.fr {n m : Nat} {hC hM hC' hM' : pq_H} (i : InvG n m hC hM) (hc : frC hC hC') (hm : frM hM hM') : InvG n m hC' hM' := by
  obtain ⟨i1, i2, i3, i4, i5, i6, i7⟩ := i
  exact ⟨i1.fr (fun p hp => hc.1 p (by omega)) (hc.1 56 (by omega) _) (fun p h1 h2 => hm.1 p (by omega)) hm.2.1, i2.fr (fun p h1 h2 => hc.1 p (by omega)) (hm.1 6 (by omega)) (hm.1 7 (by omega)) hm.2.2.1, i3.fr (hc.1 62 (by omega)) (hc.1 61 (by omega) _) (hm.1 9 (by omega)) hm.2.2.2.1, i4.fr (hc.1 82 (by omega)) (hm.1 1 (by omega)), i5.fr (fun p h1 h2 => hc.1 p (by omega)) (hc.1 81 (by omega)) (hm.1 20 (by omega)) (hm.1 21 (by omega)), i6.fr (fun p hp => hc.1 p (by omega)) (hc.1 56 (by omega) _) (hm.1 22 (by omega)) hm.2.2.2.2.1, i7.fr hc.2⟩
theorem Inv.fr {hC hM hC' hM' : pq_H} (i : Inv hC hM) (hc : frC hC hC') (hm : frM hM hM') : Inv hC' hM' := by
  obtain ⟨n, i⟩ := i
  exact ⟨n, i.fr hc hm⟩
theorem Inv0 : Inv hC0 hM0 := by
  refine ⟨0, ⟨by omega, rfl, rfl, fun f hf => by omega⟩, InvU.nil 0 (by omega) rfl rfl rfl, ⟨0, by omega, rfl, rfl, fun i hi => by omega⟩, fun k _ _ => rfl, fun l hl => ?_, Or.inl ⟨by decide, by decide⟩, ⟨id, fun t ht => ⟨?_, ht⟩, fun t t' _ _ e => e⟩⟩
  · refine Or.inl ?_
    match l, hl with
    | 0, _ => exact ⟨by decide, by decide⟩
    | 1, _ => exact ⟨by decide, by decide⟩
    | 2, _ => exact ⟨by decide, by decide⟩
    | l + 3, h => exact absurd h (by omega)
  · show (if t < 28 then some (24 + t) else none) = _
    rw [if_pos ht]
    rfl
/-- refusals: both sides count alike -/
theorem refuse_ok {hC hM : pq_H} (i : Inv hC hM) (k : Nat) (h1 : 1 ≤ k) (h2 : k ≤ 6) : ∃ hC' hM', f_X10_refuse (-nI k) hC = some (-nI k, hC') ∧ f_X11_no (-nI k) hM = some (-nI k, hM') ∧ Inv hC' hM' := by
  refine ⟨wI hC 82 k (rI hC 82 k + 1), wI hM 1 k (rI hM 1 k + 1), ?_, ?_, ?_⟩
  · unfold f_X10_refuse
    have e : - -nI k = nI k := Int32.neg_neg
    have c1 : ¬ (0 : Int32) ≤ -nI k := by
      rw [show (0 : Int32) = -nI 0 from rfl, sb_nle (by decide) (by omega)]; omega
    have c2 : ¬ -nI k < -6 := by
      rw [show (-6 : Int32) = -nI 6 from rfl, sb_nlt (by omega) (by decide)]; omega
    rw [if_neg c1, if_neg c2, e, inbN (by omega) (by decide), gd_t, gd_t, nI_clamp (by omega)]
  · unfold f_X11_no
    have e : - -nI k = nI k := Int32.neg_neg
    rw [e, inbN (by omega) (by decide), gd_t, gd_t, nI_clamp (by omega)]
  · obtain ⟨n, i1, i2, i3, i4, i5, i6, i7⟩ := i
    have hc : ∀ p, p ≠ 82 → ∀ j, rI (wI hC 82 k (rI hC 82 k + 1)) p j = rI hC p j := fun p hp j => by rw [rI_wI, if_neg (by omega)]
    have hm : ∀ p, p ≠ 1 → ∀ j, rI (wI hM 1 k (rI hM 1 k + 1)) p j = rI hM p j := fun p hp j => by rw [rI_wI, if_neg (by omega)]
    refine ⟨n, i1.fr (fun p hp => hc p (by omega)) (hc _ (by omega) _) (fun p h1 h2 => hm p (by omega)) (hm _ (by omega) _), i2.fr (fun p h1 h2 => hc p (by omega)) (hm 6 (by omega)) (hm 7 (by omega)) (hm 0 (by omega) _), i3.fr (hc 62 (by omega)) (hc 61 (by omega) _) (hm 9 (by omega)) (hm 0 (by omega) _), ?_, i5.fr (fun p h1 h2 => hc p (by omega)) (hc 81 (by omega)) (hm 20 (by omega)) (hm 21 (by omega)), i6.fr (fun p hp => hc p (by omega)) (hc 56 (by omega) _) (hm 22 (by omega)) (hm 0 (by omega) _), i7.fr (fun _ => rfl)⟩
    intro j a b
    rw [rI_wI, rI_wI]
    by_cases hj : j = k
    · rw [if_pos ⟨rfl, hj⟩, if_pos ⟨rfl, hj⟩, i4 k h1 h2]
    · rw [if_neg (fun z => hj z.2), if_neg (fun z => hj z.2)]
      exact i4 j a b
end INV
