section OPS3
variable {hC hM : pq_H}
def ok2 {α β : Type} (x : Option α) (y : Option β) (Q : α → β → Prop) : Prop := ∃ a b, x = some a ∧ y = some b ∧ Q a b
theorem ok2_some {α β : Type} {a : α} {b : β} {Q : α → β → Prop} (h : Q a b) : ok2 (some a) (some b) Q := ⟨a, b, rfl, rfl, h⟩
/-- two loops in step -/
theorem lp_gen2 {σ1 σ2 S1 S2 α β : Type} {z1 : σ1} {z2 : σ2} {f1 : σ1 → σ1} {f2 : σ2 → σ2} {Q : α → β → Prop} (app1 : σ1 → S1 → Option α) (app2 : σ2 → S2 → Option β) (I : Nat → S1 → S2 → Prop) (n : Nat) (hs : ∀ i s1 s2 w1 w2, i < n → I i s1 s2 → (∀ s1' s2', I (i + 1) s1' s2' → ok2 (app1 w1 s1') (app2 w2 s2') Q) → ok2 (app1 (f1 w1) s1) (app2 (f2 w2) s2) Q) (he : ∀ s1 s2 w1 w2, I n s1 s2 → ok2 (app1 (f1 w1) s1) (app2 (f2 w2) s2) Q) (N a : Nat) (s1 : S1) (s2 : S2) (ha : a ≤ n) (hN : n < a + N) (hI : I a s1 s2) : ok2 (app1 (lp z1 f1 N) s1) (app2 (lp z2 f2 N) s2) Q := by
  have key : ∀ N, ∀ i s1 s2, i ≤ n → n < i + N → I i s1 s2 → ok2 (app1 (lp z1 f1 N) s1) (app2 (lp z2 f2 N) s2) Q := by
    intro N
    induction N with
    | zero => intro i s1 s2 h1 h2; omega
    | succ N ih =>
      intro i s1 s2 h1 h2 h3
      by_cases hi : i = n
      · subst hi
        exact he s1 s2 _ _ h3
      · exact hs i s1 s2 _ _ (by omega) h3 (fun s1' s2' h4 => ih (i + 1) s1' s2' (by omega) (by omega) h4)
  exact key N a s1 s2 ha hN hI
theorem lp_for2 {α β : Type} {z1 : Int32 → Option α} {z2 : Int32 → Option β} {f1 : (Int32 → Option α) → Int32 → Option α} {f2 : (Int32 → Option β) → Int32 → Option β} {Q : α → β → Prop} (n : Nat) (hs : ∀ i w1 w2, i < n → ok2 (w1 (nI (i + 1))) (w2 (nI (i + 1))) Q → ok2 (f1 w1 (nI i)) (f2 w2 (nI i)) Q) (he : ∀ w1 w2, ok2 (f1 w1 (nI n)) (f2 w2 (nI n)) Q) (N a : Nat) (ha : a ≤ n) (hN : n < a + N) : ok2 (lp z1 f1 N (nI a)) (lp z2 f2 N (nI a)) Q :=
  lp_gen2 (fun (w : Int32 → Option α) (s : Int32) => w s) (fun (w : Int32 → Option β) (s : Int32) => w s) (fun i s1 s2 => s1 = nI i ∧ s2 = nI i) n (fun i s1 s2 w1 w2 h1 h2 h3 => by obtain ⟨rfl, rfl⟩ := h2; exact hs i w1 w2 h1 (h3 _ _ ⟨rfl, rfl⟩)) (fun s1 s2 w1 w2 h2 => by obtain ⟨rfl, rfl⟩ := h2; exact he w1 w2) N a (nI a) (nI a) ha hN ⟨rfl, rfl⟩
/-- a term's powers by its number -/
def skT : Nat → Nat × Nat
  | 0 => (0, 0)
  | t + 1 => if (skT t).2 < (skT t).1 then ((skT t).1, (skT t).2 + 1) else ((skT t).1 + 1, 0)
theorem skT_ok (t : Nat) : (skT t).2 ≤ (skT t).1 ∧ t = tri (skT t).1 + (skT t).2 := by
  induction t with
  | zero => exact ⟨Nat.le_refl _, rfl⟩
  | succ t ih =>
    unfold skT
    split
    · simp only; omega
    · simp only
      rw [tri_succ]; omega
theorem skT_eq {s k : Nat} (hk : k ≤ s) : skT (tri s + k) = (s, k) := by
  obtain ⟨a, b⟩ := skT_ok (tri s + k)
  obtain ⟨e1, e2⟩ := tri_inj hk a b
  exact Prod.ext e1.symm e2.symm
theorem skT_lt {d t : Nat} (h : t < tri (d + 1)) : (skT t).1 ≤ d := by
  obtain ⟨s, k, h1, h2, rfl⟩ := tri_exD h
  rw [skT_eq h2]
  exact h1
def cfT (F : pF) (t : Nat) : Int32 := cfV F (skT t).1 (skT t).2
theorem atT {h : pq_H} {p t : Nat} {F : pF} (hF : FormC h p F) (hk : okF F) (ht : t < tri (F.2.2.1 + 1)) : f_X1_at p (nI t) h = some (cfT F t) := by
  obtain ⟨a, b⟩ := skT_ok t
  have := at_ok hF hk (skT_lt ht) a
  rw [← b] at this
  exact this
theorem coefT {h : pq_H} {f t : Nat} {F : pF} (hF : FormM h f F) (hk : okF F) (hf : f < 6) (ht : t < tri (F.2.2.1 + 1)) : f_X11_coefficientOf (nI f) (nI t) h = some (cfT F t) := by
  obtain ⟨a, b⟩ := skT_ok t
  have := coef_ok hF hk hf (skT_lt ht) a
  rw [← b] at this
  exact this
theorem cfT_b {F : pF} (hk : okF F) {t : Nat} (ht : t < tri (F.2.2.1 + 1)) : -1000009 ≤ (cfT F t).toInt ∧ (cfT F t).toInt ≤ 1000000 := cfV_b hk (skT_lt ht) (skT_ok t).1
def cnt (p : Nat → Bool) : Nat → Nat
  | 0 => 0
  | n + 1 => cnt p n + (if p n = true then 1 else 0)
theorem cnt_s (p : Nat → Bool) (n : Nat) : cnt p (n + 1) = cnt p n + (if p n = true then 1 else 0) := rfl
theorem cnt_le (p : Nat → Bool) (n : Nat) : cnt p n ≤ n := by
  induction n with
  | zero => exact Nat.le_refl _
  | succ n ih => unfold cnt; split <;> omega
theorem tri28 {d : Nat} (h : d ≤ 6) : tri (d + 1) ≤ 28 := tri_mono (show d + 1 ≤ 7 by omega)
theorem howMany_ok {h : pq_H} {p : Nat} {F : pF} (hF : FormC h p F) (hk : okF F) (b : Bool) : f_X1_howMany p b h = some (nI (cnt (fun t => if b = true then decide (cfT F t < 0) else decide (cfT F t = 0)) (tri (F.2.2.1 + 1)))) := by
  have hd := hk.2.2.1
  have hb := tri28 hd
  refine ok_eq ?_
  unfold f_X1_howMany
  refine lp_forA (fun i x => x = nI (cnt (fun t => if b = true then decide (cfT F t < 0) else decide (cfT F t = 0)) i)) (tri (F.2.2.1 + 1)) ?_ ?_ 1000 0 0 (by omega) (by omega) rfl
  · intro i x w hi hx hw
    subst hx
    unfold f_X1_howMany_l4 f_X1_howMany_j39 f_X1_howMany_j42
    rw [hF.2.2.1, termsOf_nI (by omega), if_neg (nI_ge hi (by omega)), atT hF hk hi, Option.bind_some, nI_1, nI_1]
    cases b with
    | true =>
      rw [if_pos rfl]
      refine ok_ite (fun h => hw _ ?_) (fun h => hw _ ?_)
      · rw [cnt_s]
        have q : ¬ cfT F i < 0 := fun z => by
          have a := Int32.le_iff_toInt_le.mp h
          have b := Int32.lt_iff_toInt_lt.mp z
          omega
        simp [q]
      · rw [cnt_s]
        have q : cfT F i < 0 := Int32.not_le.mp h
        simp [q]
    | false =>
      rw [if_neg (by decide)]
      refine ok_ite (fun h => hw _ ?_) (fun h => hw _ ?_)
      · rw [cnt_s]
        simp [h]
      · rw [cnt_s]
        simp [h]
  · intro x w hx
    unfold f_X1_howMany_l4
    rw [hF.2.2.1, termsOf_nI (by omega), if_pos (le_nIn (Nat.le_refl _) (by omega))]
    exact ok_some hx
theorem many_ok {h : pq_H} {f : Nat} {F : pF} (hF : FormM h f F) (hk : okF F) (hf : f < 6) (b : Int32) : f_X11_many (nI f) b h = some (nI (cnt (fun t => decide (cfT F t < b)) (tri (F.2.2.1 + 1)))) := by
  have hd := hk.2.2.1
  have hb := tri28 hd
  refine ok_eq ?_
  unfold f_X11_many
  refine lp_forA (fun i x => x = nI (cnt (fun t => decide (cfT F t < b)) i)) (tri (F.2.2.1 + 1)) ?_ ?_ 1000 0 0 (by omega) (by omega) rfl
  · intro i x w hi hx hw
    subst hx
    unfold f_X11_many_l5 f_X11_many_j32
    rw [isTerm_ok hF hk hf i (by omega), Option.bind_some, decide_eq_true hi, if_pos rfl, coefT hF hk hf hi, Option.bind_some, nI_1]
    refine ok_ite (fun h => hw _ ?_) (fun h => hw _ ?_)
    · rw [cnt_s]
      have q : ¬ cfT F i < b := fun z => by
        have a := Int32.le_iff_toInt_le.mp h
        have b := Int32.lt_iff_toInt_lt.mp z
        omega
      simp [q]
    · rw [cnt_s]
      have q : cfT F i < b := Int32.not_le.mp h
      simp only [q, decide_true, if_true]
      rw [nI_1]
  · intro x w hx
    unfold f_X11_many_l5
    rw [isTerm_ok hF hk hf _ (by omega), Option.bind_some, decide_eq_false (by omega), if_neg (by decide)]
    exact ok_some hx
theorem cnt_01 (F : pF) (n : Nat) : cnt (fun t => decide (cfT F t < 1)) n = cnt (fun t => decide (cfT F t < 0)) n + cnt (fun t => decide (cfT F t = 0)) n := by
  induction n with
  | zero => rfl
  | succ n ih =>
    rw [cnt_s, cnt_s, cnt_s, ih]
    have e1 : cfT F n < 1 ↔ (cfT F n).toInt < 1 := Int32.lt_iff_toInt_lt
    have e2 : cfT F n < 0 ↔ (cfT F n).toInt < 0 := Int32.lt_iff_toInt_lt
    have e3 : cfT F n = 0 ↔ (cfT F n).toInt = 0 := Int32.toInt_inj.symm
    simp only [e1, e2, e3, decide_eq_true_eq]
    repeat' split
    all_goals omega
theorem a_of : Ag_of Inv := by
  intro hC hM p1 p2 i
  obtain ⟨n, i1, -⟩ := id i
  unfold f_X10_of f_X11_of
  simp only [bd2_id, bind_id]
  rcases form_cases i1 p1 with ⟨a, b⟩ | ⟨f, hf, hf6, rfl, a, b, F, c1, c2, c3⟩
  · rw [if_pos a, if_neg (Bf b)]
    exact ag_no 1 rfl (by decide) (by decide) i
  rw [if_neg (Bf a), if_pos b]
  have hd := c3.2.2.1
  have hb := tri28 hd
  rcases nb_cases p2 6 (by decide) with ⟨a2, b2⟩ | ⟨k, hk, rfl, a2, b2⟩
  · have q : ∀ v : Nat, v < 6 → ¬ p2 = nI v := fun v hv e => by
      subst e
      have b3 : f_X11_isIn (nI v) 0 (nI 6 - 1) = true := by
        unfold f_X11_isIn
        rw [if_neg (nI_pos (by omega)), show nI 6 - 1 = nI 5 from rfl, if_neg (nI_nlt (by omega) (by omega))]
      rw [b3] at b2
      cases b2
    rw [if_pos (show f_X10_notBelow p2 6 = true from a2), if_neg (show ¬ p2 = 0 from q 0 (by decide)), if_neg (show ¬ p2 = 1 from q 1 (by decide)), if_neg (show ¬ p2 = 2 from q 2 (by decide)), if_neg (show ¬ p2 = 3 from q 3 (by decide)), if_neg (show ¬ p2 = 4 from q 4 (by decide)), if_neg (show ¬ p2 = 5 from q 5 (by decide))]
    exact ag_no 2 rfl (by decide) (by decide) i
  rw [if_neg (show ¬ f_X10_notBelow (nI k) 6 = true from Bf a2), inbN hf6 (by decide), nI_clamp (by omega), howMany_ok c1 c3, howMany_ok c1 c3, many_ok c2 c3 hf6, many_ok c2 c3 hf6, c1.1, c1.2.1, c1.2.2.1, c2.1, c2.2.1, c2.2.2.1]
  simp only [gd_t, Option.bind_some]
  match k, hk with
  | 0, _ => exact ag_c _ _ _ rfl rfl i
  | 1, _ => exact ag_c _ _ _ rfl rfl i
  | 2, _ => exact ag_c _ _ _ rfl rfl i
  | 3, _ => exact ag_c _ _ _ rfl rfl i
  | 4, _ =>
    refine ag_c _ hC hM rfl ?_ i
    rw [if_neg (by decide), if_neg (by decide), if_neg (by decide), if_neg (by decide), if_pos (show nI 4 = 4 from rfl)]
    have z1 := cnt_le (fun t => decide (cfT F t < 0)) (tri (F.2.2.1 + 1))
    have z2 := cnt_01 F (tri (F.2.2.1 + 1))
    rw [z2, pk_sub (by omega), Nat.add_sub_cancel_left]
    simp
  | 5, _ =>
    refine ag_c _ hC hM rfl ?_ i
    rw [if_neg (by decide), if_neg (by decide), if_neg (by decide), if_neg (by decide), if_neg (by decide), if_pos (show nI 5 = 5 from rfl)]
    simp
  | k + 6, h => exact absurd h (by omega)
theorem a_judge : Ag_judge Inv := by
  intro hC hM p1 p2 i
  unfold f_X10_judge f_X11_judge f_X10_judge_j19 f_X11_judge_j15
  simp only [bd2_id]
  rcases list_cases p1 with ⟨a, b⟩ | ⟨l, hl, rfl, a, b⟩
  · rw [if_pos a, if_neg (Bf b)]
    exact ag_no 1 rfl (by decide) (by decide) i
  rw [if_neg (Bf a), if_pos b]
  obtain ⟨n, i1, i2, i3, i4, i5, i6, i7⟩ := id i
  rcases form_cases i1 p2 with ⟨a, b⟩ | ⟨f, hf, hf6, rfl, a, b, F, c1, c2, c3⟩
  · rw [if_pos a, if_neg (Bf b)]
    exact ag_no 1 rfl (by decide) (by decide) i
  rw [if_neg (Bf a), if_pos b, inbN hl (by decide), inbN hf6 (by decide), nI_clamp (by omega), nI_clamp (by omega)]
  have hd := c3.2.2.1
  have hb := tri28 hd
  simp only [gd_t]
  rcases miss_cases i5 hl with ⟨a, b⟩ | ⟨a, b, s, h0, h1, h2, h3⟩
  · rw [a, if_neg b]
    exact ag_c _ _ _ rfl rfl i
  rw [a, if_pos b, Option.bind_some, if_neg (by decide)]
  have key := lp_for2 (z1 := fun _ => none) (z2 := fun _ => none) (f1 := f_X10_judge_l61 (nI l) f (f_X10_termsOf (rI hC f 3)) hC) (f2 := f_X11_judge_l35 (nI l) (nI f) hM) (Q := fun (x y : Int32 × pq_H) => x.1 = y.1 ∧ x.2 = hC ∧ y.2 = hM) s ?_ ?_ 1000 0 (by omega) (by omega)
  · obtain ⟨⟨r, x⟩, ⟨r2, y⟩, e1, e2, q1, q2, q3⟩ := key
    simp only at q1 q2 q3
    subst q1 q2 q3
    exact ag_c r _ _ e1 e2 i
  · intro i w1 w2 hi hw
    unfold f_X10_judge_l61 f_X11_judge_l35
    rw [inbN hl (by decide), inbN (show i < 40 by omega) (by decide), nI_clamp (by omega), nI_clamp (by omega), c1.2.2.1, termsOf_nI (by omega), h1, h2, isTerm_ok c2 c3 hf6 i (by omega), show (40 : Int32) = nI 40 from rfl, pk_mul, nI_add, inbN (show 40 * l + i < 120 by omega) (by decide), nI_clamp (by omega), h3 i hi]
    simp only [gd_t, Option.bind_some]
    rw [if_neg (nI_ge hi (by omega)), if_neg (nI_ge hi (by omega))]
    by_cases ht : i < tri (F.2.2.1 + 1)
    · rw [if_neg (nI_ge ht (by omega)), decide_eq_true ht, if_pos rfl, atT c1 c3 ht, coefT c2 c3 hf6 ht, Option.bind_some, Option.bind_some]
      by_cases e : rI hC (52 + l) i = cfT F i
      · rw [if_pos e, if_pos e, nI_1]; exact hw
      · rw [if_neg e, if_neg e]; exact ok2_some ⟨rfl, rfl, rfl⟩
    · rw [if_pos (le_nIn (by omega) (by omega)), decide_eq_false ht, if_neg (by decide)]
      exact ok2_some ⟨rfl, rfl, rfl⟩
  · intro w1 w2
    unfold f_X10_judge_l61 f_X11_judge_l35
    rw [inbN hl (by decide), nI_clamp (by omega), h1, h2, gd_t, gd_t, if_pos (le_nIn (Nat.le_refl _) (by omega)), if_pos (le_nIn (Nat.le_refl _) (by omega))]
    exact ok2_some ⟨rfl, rfl, rfl⟩
theorem a_lays : Ag_lays Inv := by
  intro hC hM p1 p2 p3 i
  unfold f_X10_lays f_X11_lays f_X10_lays_j19 f_X11_lays_j15
  simp only [bd2_id]
  rcases list_cases p1 with ⟨a, b⟩ | ⟨l, hl, rfl, a, b⟩
  · rw [if_pos a, if_neg (Bf b)]
    exact ag_no 1 rfl (by decide) (by decide) i
  rw [if_neg (Bf a), if_pos b]
  obtain ⟨n, i1, i2, i3, i4, i5, i6, i7⟩ := id i
  rcases form_cases i1 p3 with ⟨a, b⟩ | ⟨f, hf, hf6, rfl, a, b, F, c1, c2, c3⟩
  · rw [if_pos a, if_neg (Bf b)]
    exact ag_no 1 rfl (by decide) (by decide) i
  rw [if_neg (Bf a), if_pos b, inbN hl (by decide), inbN hf6 (by decide), nI_clamp (by omega), nI_clamp (by omega)]
  have hd := c3.2.2.1
  have hb := tri28 hd
  simp only [gd_t]
  rcases miss_cases i5 hl with ⟨a, b⟩ | ⟨a, b, s, h0, h1, h2, h3⟩
  · rw [a, if_neg b]
    exact ag_c _ _ _ rfl rfl i
  rw [a, if_pos b, Option.bind_some, if_neg (by decide), c1.2.2.1, c2.2.2.1, termsOf_nI (by omega), termsOfM_nI (by omega), h1, h2]
  by_cases hp : p2 < 0
  · rw [if_pos hp, if_pos hp]
    exact ag_c _ _ _ rfl rfl i
  rw [if_neg hp, if_neg hp]
  by_cases hq : p2 ≤ nI s - nI (tri (F.2.2.1 + 1))
  case neg =>
    rw [if_neg hq, if_neg hq]
    exact ag_c _ _ _ rfl rfl i
  rw [if_pos hq, if_pos hq]
  obtain ⟨j, hj, rfl⟩ := nI_of hp
  have hjs : j + tri (F.2.2.1 + 1) ≤ s := by
    have a := Int32.le_iff_toInt_le.mp hq
    rw [pk_sub_toInt (by omega) (by omega), nI_toInt (by omega)] at a
    omega
  have A : ok (lp (fun _ _ => none) (f_X10_lays_l86 (nI l) (nI j) f (nI (tri (F.2.2.1 + 1)))) 1000 0 hC) (fun r => r.1 = nI (tri (F.2.2.1 + 1)) ∧ (∀ p k, (p ≠ 52 + l ∨ k < j ∨ j + tri (F.2.2.1 + 1) ≤ k) → rI r.2 p k = rI hC p k) ∧ (∀ t, t < tri (F.2.2.1 + 1) → rI r.2 (52 + l) (j + t) = cfT F t) ∧ ∀ k, rR r.2 72 k = rR hC 72 k) := by
    refine lp_forH (fun i h' => (∀ p k, (p ≠ 52 + l ∨ k < j ∨ j + tri (F.2.2.1 + 1) ≤ k) → rI h' p k = rI hC p k) ∧ (∀ t, t < i → rI h' (52 + l) (j + t) = cfT F t) ∧ ∀ k, rR h' 72 k = rR hC 72 k) (tri (F.2.2.1 + 1)) ?_ ?_ 1000 0 hC (by omega) (by omega) ⟨fun _ _ _ => rfl, fun t ht => by omega, fun _ => rfl⟩
    · intro i h' w hi ⟨g1, g2, g3⟩ hw
      unfold f_X10_lays_l86
      rw [if_neg (nI_ge hi (by omega)), inbN hl (by decide), gd_t, atT (c1.fr (fun k => g1 _ _ (by omega)) (fun k => g1 _ _ (by omega))) c3 hi, Option.bind_some, nI_add, inbN (show j + i < 40 by omega) (by decide), gd_t, nI_clamp (by omega), nI_clamp (by omega), nI_1]
      refine hw _ ⟨fun p k e1 => ?_, fun t ht => ?_, fun k => ?_⟩
      · rw [rI_ne (by omega)]; exact g1 p k e1
      · by_cases e : t = i
        · subst e; rw [rI_same]
        · rw [rI_ne (by omega)]; exact g2 t (by omega)
      · rw [rR_wI]; exact g3 k
    · intro h' w g
      unfold f_X10_lays_l86
      rw [if_pos (le_nIn (Nat.le_refl _) (by omega))]
      exact ok_some ⟨rfl, g⟩
  have B : ok (lp (fun _ _ => none) (f_X11_lays_l67 (nI l) (nI j) (nI f) (nI (tri (F.2.2.1 + 1)))) 1000 0 hM) (fun r => r.1 = nI (tri (F.2.2.1 + 1)) ∧ (∀ p k, (p ≠ 21 ∨ k < 40 * l + j ∨ 40 * l + j + tri (F.2.2.1 + 1) ≤ k) → rI r.2 p k = rI hM p k) ∧ (∀ t, t < tri (F.2.2.1 + 1) → rI r.2 21 (40 * l + j + t) = cfT F t)) := by
    refine lp_forH (fun i h' => (∀ p k, (p ≠ 21 ∨ k < 40 * l + j ∨ 40 * l + j + tri (F.2.2.1 + 1) ≤ k) → rI h' p k = rI hM p k) ∧ (∀ t, t < i → rI h' 21 (40 * l + j + t) = cfT F t)) (tri (F.2.2.1 + 1)) ?_ ?_ 1000 0 hM (by omega) (by omega) ⟨fun _ _ _ => rfl, fun t ht => by omega⟩
    · intro i h' w hi ⟨g1, g2⟩ hw
      unfold f_X11_lays_l67
      rw [if_neg (nI_ge hi (by omega)), coefT (c2.fr (g1 _ _ (by omega)) (g1 _ _ (by omega)) (g1 _ _ (by omega)) (fun t _ => g1 _ _ (by omega))) c3 hf6 hi, Option.bind_some, show (40 : Int32) = nI 40 from rfl, pk_mul, nI_add, nI_add, inbN (show 40 * l + j + i < 120 by omega) (by decide), gd_t, nI_clamp (by omega), nI_1]
      refine hw _ ⟨fun p k e1 => ?_, fun t ht => ?_⟩
      · rw [rI_ne (by omega)]; exact g1 p k e1
      · by_cases e : t = i
        · subst e; rw [rI_same]
        · rw [rI_ne (by omega)]; exact g2 t (by omega)
    · intro h' w g
      unfold f_X11_lays_l67
      rw [if_pos (le_nIn (Nat.le_refl _) (by omega))]
      exact ok_some ⟨rfl, g⟩
  obtain ⟨⟨r, h'⟩, e1, k0, g1, g2, g3⟩ := A
  obtain ⟨⟨r2, k'⟩, e2, k2, k1, k3⟩ := B
  simp only at k0 k2 g1 g2 g3 k1 k3
  subst k0 k2
  refine ag_c _ h' k' e1 e2 ⟨n, i1.fr ?_ ?_ ?_ ?_, i2.fr ?_ ?_ ?_ ?_, i3.fr ?_ ?_ ?_ ?_, i4.fr ?_ ?_, ?_, i6.fr ?_ ?_ ?_ ?_, i7.fr g3⟩
  case refine_15 =>
    intro q hq
    rcases i5 q hq with ⟨z1, z2⟩ | ⟨t, z0, z1, z2, z3⟩
    · exact Or.inl ⟨by rw [g1 _ _ (by omega)]; exact z1, by rw [k1 _ _ (by omega)]; exact z2⟩
    · refine Or.inr ⟨t, z0, by rw [g1 _ _ (by omega)]; exact z1, by rw [k1 _ _ (by omega)]; exact z2, fun m hm => ?_⟩
      by_cases e : q = l ∧ j ≤ m ∧ m < j + tri (F.2.2.1 + 1)
      · obtain ⟨rfl, e1, e2⟩ := e
        obtain ⟨u, rfl⟩ := Nat.exists_eq_add_of_le e1
        rw [g2 u (by omega), show 40 * q + (j + u) = 40 * q + j + u by omega, k3 u (by omega)]
      · rw [g1 _ _ (by omega), k1 _ _ (by omega)]
        exact z3 m hm
  all_goals first | (intros; exact g1 _ _ (by omega)) | (intros; exact k1 _ _ (by omega))
end OPS3
