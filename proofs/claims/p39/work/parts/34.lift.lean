section LIFT
variable {hC hM : pq_H}
def Wt (W : Nat → Nat → Int64) (t : Nat) : Int64 := W (skT t).1 (skT t).2
theorem Wt_eq {W : Nat → Nat → Int64} {s k : Nat} (hk : k ≤ s) : Wt W (tri s + k) = W s k := by
  unfold Wt
  rw [skT_eq hk]
theorem WC.t {h : pq_H} {D t : Nat} {W : Nat → Nat → Int64} (hW : WC h D W) (ht : t < tri (D + 1)) : rJ h 60 t = Wt W t := by
  obtain ⟨s, k, a, b, rfl⟩ := tri_exD ht
  rw [Wt_eq b]
  exact hW.2 s k a b
/-- the first number below N at which g holds; -9 -/
def fstN (g : Nat → Bool) (N : Nat) (r : Int32) : Prop := (∃ d, d < N ∧ g d = true ∧ (∀ j, j < d → g j = false) ∧ r = nI d) ∨ ((∀ d, d < N → g d = false) ∧ r = -9)
theorem fstN_eq {g : Nat → Bool} {N : Nat} {r r' : Int32} (h : fstN g N r) (h' : fstN g N r') : r = r' := by
  rcases h with ⟨d, a2, a3, a4, a5⟩ | ⟨a1, a2⟩ <;> rcases h' with ⟨e, b2, b3, b4, b5⟩ | ⟨b1, b2⟩
  · rcases Nat.lt_trichotomy d e with z | z | z
    · rw [b4 d z] at a3; cases a3
    · subst z; rw [a5, b5]
    · rw [a4 e z] at b3; cases b3
  · rw [b1 d a2] at a3; cases a3
  · rw [a1 e b2] at b3; cases b3
  · rw [a2, b2]
theorem nI_ne9 {d : Nat} (h : d < 100000) : ¬ nI d = -9 := fun e => by
  have := nI_pos (n := d) (by omega)
  rw [e] at this
  exact this (by decide)
theorem fstN_none {g : Nat → Bool} {N : Nat} {r : Int32} (hN : N < 100000) (h : fstN g N r) : (r = -9 ∧ allB (fun i => !g i) N = true) ∨ (¬ r = -9 ∧ 0 ≤ r ∧ allB (fun i => !g i) N = false) := by
  rcases h with ⟨d, a2, a3, a4, a5⟩ | ⟨a1, a2⟩
  · right
    rw [a5]
    exact ⟨nI_ne9 (by omega), nI_pos' (by omega), allB_f a2 (by rw [a3]; rfl)⟩
  · left
    refine ⟨a2, ?_⟩
    clear a2 hN
    induction N with
    | zero => rfl
    | succ N ih =>
      rw [allB_s, ih (fun d hd => a1 d (by omega)), a1 N (by omega)]
      rfl
/-- how many of a side's terms are ahead of t -/
def CN (g D t c : Nat) : Prop := c ≤ plc g D ∧ (∀ p, p < c → num g D p < t) ∧ ∀ p, c ≤ p → p < plc g D → t ≤ num g D p
theorem CN_0 (g D : Nat) : CN g D 0 0 := ⟨Nat.zero_le _, fun p hp => by omega, fun p _ _ => Nat.zero_le _⟩
theorem CN_on {g D s k c : Nat} (h1 : 1 ≤ g) (h2 : g ≤ 7) (hs : s ≤ D) (hk : k ≤ s) (ho : onS g D s k = true) (h : CN g D (tri s + k) c) : c < plc g D ∧ num g D c = tri s + k ∧ CN g D (tri s + k + 1) (c + 1) := by
  obtain ⟨a1, a2, a3⟩ := h
  obtain ⟨p, hp, e⟩ := on_num h1 h2 hs hk ho
  have hcp : c ≤ p := by
    by_cases z : c ≤ p
    · exact z
    · have := a2 p (by omega); omega
  have hc : c < plc g D := by omega
  have e2 : num g D c = tri s + k := by
    have b1 := a3 c (Nat.le_refl _) hc
    by_cases z : c = p
    · rw [z, e]
    · have b2 := num_mono h1 h2 (show c < p by omega) hp
      omega
  refine ⟨hc, e2, hc, fun q hq => ?_, fun q hq hq2 => ?_⟩
  · by_cases z : q = c
    · rw [z, e2]; omega
    · have := a2 q (by omega); omega
  · have := num_mono h1 h2 (show c < q by omega) hq2
    omega
theorem CN_off {g D s k c : Nat} (h1 : 1 ≤ g) (h2 : g ≤ 7) (hk : k ≤ s) (ho : ¬ onS g D s k = true) (h : CN g D (tri s + k) c) : CN g D (tri s + k + 1) c := by
  obtain ⟨a1, a2, a3⟩ := h
  refine ⟨a1, fun p hp => by have := a2 p hp; omega, fun p hp hp2 => ?_⟩
  have b := a3 p hp hp2
  by_cases z : num g D p = tri s + k
  · obtain ⟨s', k', c1, c2, c3, c4⟩ := num_at h1 h2 hp2
    obtain ⟨e1, e2⟩ := tri_inj c2 hk (c3.symm.trans z)
    rw [e1, e2] at c4
    exact absurd c4 ho
  · omega
theorem CN_end {g D c : Nat} (h1 : 1 ≤ g) (h2 : g ≤ 7) (h : CN g D (tri (D + 1)) c) : c = plc g D := by
  obtain ⟨a1, a2, a3⟩ := h
  by_cases z : c = plc g D
  · exact z
  · have := a3 c (Nat.le_refl _) (by omega)
    have := num_lt h1 h2 (show c < plc g D by omega)
    omega
theorem among_ok {h : pq_H} {g D p : Nat} {W : Nat → Nat → Int64} (h1 : 1 ≤ g) (h2 : g ≤ 7) (hD : D ≤ 18) (hW : WC h D W) (hp : p < plc g D) : f_X9_among (nI g) (nI p) h = some (Wt W (num g D p)) := by
  have hb : tri (D + 1) ≤ 190 := tri_mono (show D + 1 ≤ 19 by omega)
  have hn := num_lt h1 h2 hp
  unfold f_X9_among
  rw [hW.1, number_ok h1 h2 (by omega) hp, inbN (by omega) (by decide), gd_t, nI_clamp (by omega), hW.t hn]
def ffP (g D : Nat) (W : Nat → Nat → Int64) (q : Int32) (p : Nat) : Bool := f_X10_fails (Wt W (num g D p)) q
theorem firstC_ok {h : pq_H} {g D : Nat} {W : Nat → Nat → Int64} (h1 : 1 ≤ g) (h2 : g ≤ 7) (hD : D ≤ 18) (hW : WC h D W) (q : Int32) : ok (f_X9_firstFault (nI g) q h) (fstN (ffP g D W q) (plc g D)) := by
  have hb : tri (D + 1) ≤ 190 := tri_mono (show D + 1 ≤ 19 by omega)
  have hp := plc_le (g := g) (n := D)
  unfold f_X9_firstFault
  refine lp_forR (fun i => ∀ j, j < i → ffP g D W q j = false) (plc g D) ?_ ?_ 1000 0 (by omega) (by omega) (fun j hj => by omega)
  · intro i w hi hI hw
    unfold f_X9_firstFault_l2
    rw [hW.1, places_ok h1 h2 (by omega), if_neg (nI_ge hi (by omega)), among_ok h1 h2 hD hW hi, Option.bind_some, nI_1]
    by_cases z : f_X10_fails (Wt W (num g D i)) q = true
    · rw [if_pos z]
      exact ok_some (Or.inl ⟨i, hi, z, hI, rfl⟩)
    · rw [if_neg z]
      refine hw (fun j hj => ?_)
      by_cases e : j = i
      · subst e; exact Bool.eq_false_iff.mpr z
      · exact hI j (by omega)
  · intro w hI
    unfold f_X9_firstFault_l2
    rw [hW.1, places_ok h1 h2 (by omega), if_pos (le_nIn (Nat.le_refl _) (by omega))]
    exact ok_some (Or.inr ⟨hI, rfl⟩)
theorem workOn_ok {h : pq_H} {f g : Nat} {F : pF} (hF : FormC h f F) (hk : okF F) (hf : f < 6) (h1 : 1 ≤ g) (h2 : g ≤ 7) : ok (f_X10_workOn (nI f) (nI g) h) (fun h' => frC h h' ∧ WC h' F.2.2.1 (wr0 F g)) := by
  unfold f_X10_workOn
  rw [inbN hf (by decide), gd_t, nI_clamp (by omega), bind_id]
  exact takeOn_ok hF hk (by omega) h1 h2
end LIFT
