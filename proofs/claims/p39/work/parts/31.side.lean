section SIDE
variable {hC hM : pq_H}
/-- the term s, k of degree d stands on side g -/
def onS (g d s k : Nat) : Bool := (decide (g % 2 = 1) || decide (d = s)) && (decide (g / 2 % 2 = 1) || decide (s = k)) && (decide (g / 4 % 2 = 1) || decide (k = 0))
def plc (g n : Nat) : Nat := if g = 1 ∨ g = 2 ∨ g = 4 then 1 else if g = 3 ∨ g = 5 ∨ g = 6 then n + 1 else tri (n + 1)
def num (g n p : Nat) : Nat := if g = 1 then 0 else if g = 2 then tri n else if g = 3 then tri p else if g = 4 then tri n + n else if g = 5 then tri p + p else if g = 6 then tri n + p else p
theorem g_cases {g : Nat} (h1 : 1 ≤ g) (h2 : g ≤ 7) : g = 1 ∨ g = 2 ∨ g = 3 ∨ g = 4 ∨ g = 5 ∨ g = 6 ∨ g = 7 := by omega
theorem num_mono {g n p q : Nat} (h1 : 1 ≤ g) (h2 : g ≤ 7) (hpq : p < q) (hq : q < plc g n) : num g n p < num g n q := by
  have hm := tri_mono (show p + 1 ≤ q from hpq)
  rw [tri_succ] at hm
  rcases g_cases h1 h2 with rfl | rfl | rfl | rfl | rfl | rfl | rfl <;> simp [num, plc] at hq ⊢ <;> omega
theorem onS_iff {g d s k : Nat} : onS g d s k = true ↔ (g % 2 = 1 ∨ d = s) ∧ (g / 2 % 2 = 1 ∨ s = k) ∧ (g / 4 % 2 = 1 ∨ k = 0) := by
  simp [onS, and_assoc]
theorem num_at {g n p : Nat} (h1 : 1 ≤ g) (h2 : g ≤ 7) (hp : p < plc g n) : ∃ s k, s ≤ n ∧ k ≤ s ∧ num g n p = tri s + k ∧ onS g n s k = true := by
  rcases g_cases h1 h2 with rfl | rfl | rfl | rfl | rfl | rfl | rfl
  · exact ⟨0, 0, by omega, by omega, rfl, onS_iff.mpr (by omega)⟩
  · exact ⟨n, 0, by omega, by omega, rfl, onS_iff.mpr (by omega)⟩
  · have hp : p < n + 1 := hp
    exact ⟨p, 0, by omega, by omega, rfl, onS_iff.mpr (by omega)⟩
  · exact ⟨n, n, by omega, by omega, rfl, onS_iff.mpr (by omega)⟩
  · have hp : p < n + 1 := hp
    exact ⟨p, p, by omega, by omega, rfl, onS_iff.mpr (by omega)⟩
  · have hp : p < n + 1 := hp
    exact ⟨n, p, by omega, by omega, rfl, onS_iff.mpr (by omega)⟩
  · have hp : p < tri (n + 1) := hp
    obtain ⟨s, k, a, b, c⟩ := tri_exD hp
    exact ⟨s, k, a, b, c, onS_iff.mpr (by omega)⟩
theorem on_num {g n s k : Nat} (h1 : 1 ≤ g) (h2 : g ≤ 7) (hs : s ≤ n) (hk : k ≤ s) (h : onS g n s k = true) : ∃ p, p < plc g n ∧ tri s + k = num g n p := by
  have h := onS_iff.mp h
  rcases g_cases h1 h2 with rfl | rfl | rfl | rfl | rfl | rfl | rfl
  · have e : s = 0 ∧ k = 0 := by omega
    obtain ⟨rfl, rfl⟩ := e
    exact ⟨0, Nat.one_pos, rfl⟩
  · have e : s = n ∧ k = 0 := by omega
    obtain ⟨rfl, rfl⟩ := e
    exact ⟨0, Nat.one_pos, rfl⟩
  · have e : k = 0 := by omega
    subst e
    exact ⟨s, show s < n + 1 by omega, rfl⟩
  · have e : s = n ∧ k = n := by omega
    obtain ⟨rfl, rfl⟩ := e
    exact ⟨0, Nat.one_pos, rfl⟩
  · have e : k = s := by omega
    subst e
    exact ⟨k, show k < n + 1 by omega, rfl⟩
  · have e : s = n := by omega
    subst e
    exact ⟨k, show k < s + 1 by omega, rfl⟩
  · exact ⟨tri s + k, tri_lt (show s < n + 1 by omega) hk, rfl⟩
theorem num_lt {g n p : Nat} (h1 : 1 ≤ g) (h2 : g ≤ 7) (hp : p < plc g n) : num g n p < tri (n + 1) := by
  obtain ⟨s, k, a, b, c, -⟩ := num_at h1 h2 hp
  rw [c]
  exact tri_lt (by omega) b
theorem plc_le {g n : Nat} : plc g n ≤ tri (n + 1) := by
  have h : n + 1 ≤ tri (n + 1) := by
    rw [tri_succ]; omega
  unfold plc
  split
  · omega
  split
  · exact h
  · exact Nat.le_refl _
theorem bc_nI : ∀ g, g < 8 → f_J6_bitCount_0f7a4 (nI g) = nI (if g = 1 ∨ g = 2 ∨ g = 4 then 1 else if g = 3 ∨ g = 5 ∨ g = 6 then 2 else if g = 7 then 3 else 0) := by decide +kernel
theorem places_ok {g n : Nat} (h1 : 1 ≤ g) (h2 : g ≤ 7) (hn : n ≤ 1000) : f_X10_placesOn (nI g) (nI n) = nI (plc g n) := by
  unfold f_X10_placesOn
  rw [bc_nI g (by omega), nI_1, termsOf_nI hn]
  rcases g_cases h1 h2 with rfl | rfl | rfl | rfl | rfl | rfl | rfl <;> rfl
theorem number_ok {g n p : Nat} (h1 : 1 ≤ g) (h2 : g ≤ 7) (hn : n ≤ 500) (hp : p < plc g n) : f_X10_numberOn (nI g) (nI n) (nI p) = nI (num g n p) := by
  unfold f_X10_numberOn
  rcases g_cases h1 h2 with rfl | rfl | rfl | rfl | rfl | rfl | rfl
  · rfl
  · rw [if_neg (by decide), if_pos (show nI 2 = 2 from rfl)]
    exact termOf_nI0 (by omega)
  · have hp : p < n + 1 := hp
    rw [if_neg (by decide), if_neg (by decide), if_pos (show nI 3 = 3 from rfl)]
    exact termOf_nI0 (by omega)
  · rw [if_neg (by decide), if_neg (by decide), if_neg (by decide), if_pos (show nI 4 = 4 from rfl)]
    have e := termOf_nI (j := 0) (k := n) (by omega)
    rw [Nat.zero_add] at e
    exact e
  · have hp : p < n + 1 := hp
    rw [if_neg (by decide), if_neg (by decide), if_neg (by decide), if_neg (by decide), if_pos (show nI 5 = 5 from rfl)]
    have e := termOf_nI (j := 0) (k := p) (by omega)
    rw [Nat.zero_add] at e
    exact e
  · have hp : p < n + 1 := hp
    rw [if_neg (by decide), if_neg (by decide), if_neg (by decide), if_neg (by decide), if_neg (by decide), if_pos (show nI 6 = 6 from rfl), pk_sub (by omega), termOf_nI (by omega), show n - p + p = n by omega]
    rfl
  · rw [if_neg (by decide), if_neg (by decide), if_neg (by decide), if_neg (by decide), if_neg (by decide), if_neg (by decide)]
    rfl
theorem bit_nI : ∀ g, g < 8 → ∀ v, v < 3 → decide (((nI g >>> (nI v &&& 31)) &&& 1) = 1) = decide (g / 2 ^ v % 2 = 1) := by decide +kernel
theorem lp_s {σ : Type} (z : σ) (f : σ → σ) (n : Nat) : lp z f (n + 1) = f (lp z f n) := rfl
def wr0 (F : pF) (g s k : Nat) : Int64 := if onS g F.2.2.1 s k = true then (cfV F s k).toInt64 else 0
def WC (h : pq_H) (D : Nat) (W : Nat → Nat → Int64) : Prop := rI h 59 1 = nI D ∧ ∀ s k, s ≤ D → k ≤ s → rJ h 60 (tri s + k) = W s k
theorem nought_ok {D : Nat} (hD : D ≤ 18) (h : pq_H) : ok (f_X9_makeNought (nI D) h) (fun h' => frC h h' ∧ rI h' 59 1 = nI D ∧ ∀ t, t < tri (D + 1) → rJ h' 60 t = 0) := by
  have hb : tri (D + 1) ≤ 190 := tri_mono (show D + 1 ≤ 19 by omega)
  unfold f_X9_makeNought
  rw [hl_d]
  refine lp_forH (fun i h' => frC h h' ∧ rI h' 59 1 = nI D ∧ ∀ t, t < i → rJ h' 60 t = 0) (tri (D + 1)) ?_ ?_ 1000 0 _ (by omega) (by omega) ⟨frC.wI _ _ _ _ (by omega), rI_same _ _ _ _, fun t ht => by omega⟩
  · intro i h' w hi ⟨g1, g2, g3⟩ hw
    unfold f_X9_makeNought_l7
    rw [g2, termsOf_nI (by omega), if_neg (nI_ge hi (by omega)), inbN (show i < 190 by omega) (by decide), gd_t, nI_clamp (by omega), nI_1]
    refine hw _ ⟨g1.tr (frC.wJ _ _ _ _), g2, fun t ht => ?_⟩
    by_cases e : t = i
    · subst e; rw [rJ_same]
    · rw [rJ_ne (by omega)]; exact g3 t (by omega)
  · intro h' w ⟨g1, g2, g3⟩
    unfold f_X9_makeNought_l7
    rw [g2, termsOf_nI (by omega), if_pos (le_nIn (Nat.le_refl _) (by omega))]
    exact ok_some ⟨g1, g2, g3⟩
theorem b1_nI : ∀ g, g < 8 → decide ((nI g &&& 1) = 0) = decide (¬ g % 2 = 1) := by decide +kernel
theorem b2_nI : ∀ g, g < 8 → decide ((nI g &&& 2) = 0) = decide (¬ g / 2 % 2 = 1) := by decide +kernel
theorem b4_nI : ∀ g, g < 8 → decide ((nI g &&& 4) = 0) = decide (¬ g / 4 % 2 = 1) := by decide +kernel
theorem bit1 {g : Nat} (h : g ≤ 7) : ((nI g &&& 1) = 0) ↔ ¬ g % 2 = 1 := decide_eq_decide.mp (b1_nI g (by omega))
theorem bit2 {g : Nat} (h : g ≤ 7) : ((nI g &&& 2) = 0) ↔ ¬ g / 2 % 2 = 1 := decide_eq_decide.mp (b2_nI g (by omega))
theorem bit4 {g : Nat} (h : g ≤ 7) : ((nI g &&& 4) = 0) ↔ ¬ g / 4 % 2 = 1 := decide_eq_decide.mp (b4_nI g (by omega))
theorem stands_ok {g d s k : Nat} (h2 : g ≤ 7) (hd : d ≤ 18) (hs : s ≤ d) (hk : k ≤ s) : f_X10_standsOn (nI g) (nI (d - s)) (nI (s - k)) (nI k) = onS g d s k := by
  have z : ∀ n, n < 1000 → (nI n = 0 ↔ n = 0) := fun n hn => nI_eq (b := 0) (by omega) (by decide)
  unfold f_X10_standsOn f_X10_standsOn_j10 f_X10_standsOn_j20 onS
  simp only [z (d - s) (by omega), z (s - k) (by omega), z k (by omega), bit1 h2, bit2 h2, bit4 h2]
  have e1 : decide (d = s) = decide (d - s = 0) := decide_eq_decide.mpr (by omega)
  have e2 : decide (s = k) = decide (s - k = 0) := decide_eq_decide.mpr (by omega)
  rw [e1, e2]
  by_cases a1 : d - s = 0 <;> by_cases a2 : s - k = 0 <;> by_cases a3 : k = 0 <;> by_cases c1 : g % 2 = 1 <;> by_cases c2 : g / 2 % 2 = 1 <;> by_cases c3 : g / 4 % 2 = 1 <;> simp [a1, a2, a3, c1, c2, c3]
theorem takeOn_ok {h : pq_H} {f g : Nat} {F : pF} (hF : FormC h f F) (hk : okF F) (hf : f < 12) (h1 : 1 ≤ g) (h2 : g ≤ 7) : ok (f_X9_takeOn f (nI g) h) (fun h' => frC h h' ∧ WC h' F.2.2.1 (wr0 F g)) := by
  have hd := hk.2.2.1
  have b28 : ∀ s k, s ≤ F.2.2.1 → k ≤ s → tri s + k < 190 := fun s k a b => by
    have := tri_28 (show s ≤ 6 by omega) b
    omega
  unfold f_X9_takeOn
  rw [hF.2.2.1, hl_d]
  refine lp_forH (fun i h' => frC h h' ∧ rI h' 59 1 = nI F.2.2.1 ∧ ∀ s k, s < i → k ≤ s → rJ h' 60 (tri s + k) = wr0 F g s k) (F.2.2.1 + 1) ?_ ?_ 1000 0 _ (by omega) (by omega) ⟨frC.wI _ _ _ _ (by omega), rI_same _ _ _ _, fun s k hs => by omega⟩
  · intro i h1' w10 hi ⟨g1, g2, g3⟩ hw10
    unfold f_X9_takeOn_l10
    rw [g2, if_neg (show ¬ nI F.2.2.1 < nI i by rw [ilt (by omega) (by omega)]; omega)]
    refine lp_forH (fun q h' => frC h h' ∧ rI h' 59 1 = nI F.2.2.1 ∧ (∀ s k, s < i → k ≤ s → rJ h' 60 (tri s + k) = wr0 F g s k) ∧ ∀ k, k < q → rJ h' 60 (tri i + k) = wr0 F g i k) (i + 1) ?_ ?_ 1000 0 h1' (by omega) (by omega) ⟨g1, g2, g3, fun k hk => by omega⟩
    · intro q h' w21 hq ⟨k1, k2, k3, k4⟩ hw21
      have jb := b28 i q (by omega) (by omega)
      have fin : ∀ v : Int64, v = wr0 F g i q → ok (f_X9_takeOn_j80 w10 w21 (nI q) (nI (tri i + q)) v h') (fun h' => frC h h' ∧ WC h' F.2.2.1 (wr0 F g)) := by
        intro v hv
        unfold f_X9_takeOn_j80
        rw [inbN jb (by decide), gd_t, nI_clamp (by omega), nI_1]
        refine hw21 _ ⟨k1.tr (frC.wJ _ _ _ _), k2, fun s k hs hk => ?_, fun k hk1 => ?_⟩
        · have := tri_lt hs hk
          rw [rJ_ne (by omega)]
          exact k3 s k hs hk
        · by_cases e : k = q
          · subst e; rw [rJ_same, hv]
          · rw [rJ_ne (by omega)]; exact k4 k (by omega)
      unfold f_X9_takeOn_l21
      rw [if_neg (show ¬ nI i < nI q by rw [ilt (by omega) (by omega)]; omega), k2, pk_sub (by omega), pk_sub (by omega), stands_ok h2 (by omega) (by omega) (by omega), termOf_nI (by omega), show i - q + q = i by omega]
      by_cases z : onS g F.2.2.1 i q = true
      · rw [if_pos z, has_ok (hF.frC hf k1) hk (by omega), Option.bind_some]
        exact fin _ (if_pos z).symm
      · rw [if_neg z]
        exact fin _ (if_neg z).symm
    · intro h' w21 ⟨k1, k2, k3, k4⟩
      unfold f_X9_takeOn_l21 f_X9_takeOn_j87
      rw [if_pos (show nI i < nI (i + 1) by rw [ilt (by omega) (by omega)]; omega), nI_1]
      refine hw10 _ ⟨k1, k2, fun s k hs hk => ?_⟩
      by_cases e : s = i
      · subst e; exact k4 k (by omega)
      · exact k3 s k (by omega) hk
  · intro h' w ⟨g1, g2, g3⟩
    unfold f_X9_takeOn_l10
    rw [g2, if_pos (show nI F.2.2.1 < nI (F.2.2.1 + 1) by rw [ilt (by omega) (by omega)]; omega)]
    exact ok_some ⟨g1, g2, fun s k hs hk => g3 s k (by omega) hk⟩
end SIDE
