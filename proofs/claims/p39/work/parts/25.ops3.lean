section OPS3
variable {hC hM : pq_H}
def ok2 {α β : Type} (x : Option α) (y : Option β) (Q : α → β → Prop) : Prop := ∃ a b, x = some a ∧ y = some b ∧ Q a b
theorem ok2_some {α β : Type} {a : α} {b : β} {Q : α → β → Prop} (h : Q a b) : ok2 (some a) (some b) Q := ⟨a, b, rfl, rfl, h⟩
/-- two loops in step -/
theorem lp_gen2 {σ1 σ2 S1 S2 α β : Type} {z1 : σ1} {z2 : σ2} {f1 : σ1 → σ1} {f2 : σ2 → σ2} {Q : α → β → Prop} (app1 : σ1 → S1 → Option α) (app2 : σ2 → S2 → Option β) (I : Nat → S1 → S2 → Prop) (n : Nat) (hs : ∀ i s1 s2 w1 w2, i < n → I i s1 s2 → (∀ s1' s2', I (i + 1) s1' s2' → ok2 (app1 w1 s1') (app2 w2 s2') Q) → ok2 (app1 (f1 w1) s1) (app2 (f2 w2) s2) Q) (he : ∀ s1 s2 w1 w2, I n s1 s2 → ok2 (app1 (f1 w1) s1) (app2 (f2 w2) s2) Q) (N a : Nat) (s1 : S1) (s2 : S2) (ha : a ≤ n) (hN : n < a + N) (hI : I a s1 s2) : ok2 (app1 (lp z1 f1 N) s1) (app2 (lp z2 f2 N) s2) Q := by
  have key : ∀ N, ∀ i s1 s2, i ≤ n → n < i + N → I i s1 s2 → ok2 (app1 (lp z1 f1 N) s1) (app2 (lp z2 f2 N) s2) Q := by
    intro N
    induction N with
    | zero => intro i s1 s2 h1 h2; omega
    | succ N ih =>
      intro i s1 s2 h1 h2 h3
      by_cases hi : i = n
      · subst hi
        exact he s1 s2 _ _ h3
      · exact hs i s1 s2 _ _ (by omega) h3 (fun s1' s2' h4 => ih (i + 1) s1' s2' (by omega) (by omega) h4)
  exact key N a s1 s2 ha hN hI
theorem lp_for2 {α β : Type} {z1 : Int32 → Option α} {z2 : Int32 → Option β} {f1 : (Int32 → Option α) → Int32 → Option α} {f2 : (Int32 → Option β) → Int32 → Option β} {Q : α → β → Prop} (n : Nat) (hs : ∀ i w1 w2, i < n → ok2 (w1 (nI (i + 1))) (w2 (nI (i + 1))) Q → ok2 (f1 w1 (nI i)) (f2 w2 (nI i)) Q) (he : ∀ w1 w2, ok2 (f1 w1 (nI n)) (f2 w2 (nI n)) Q) (N a : Nat) (ha : a ≤ n) (hN : n < a + N) : ok2 (lp z1 f1 N (nI a)) (lp z2 f2 N (nI a)) Q :=
  lp_gen2 (fun (w : Int32 → Option α) (s : Int32) => w s) (fun (w : Int32 → Option β) (s : Int32) => w s) (fun i s1 s2 => s1 = nI i ∧ s2 = nI i) n (fun i s1 s2 w1 w2 h1 h2 h3 => by obtain ⟨rfl, rfl⟩ := h2; exact hs i w1 w2 h1 (h3 _ _ ⟨rfl, rfl⟩)) (fun s1 s2 w1 w2 h2 => by obtain ⟨rfl, rfl⟩ := h2; exact he w1 w2) N a (nI a) (nI a) ha hN ⟨rfl, rfl⟩
/-- a term's powers by its number -/
def skT : Nat → Nat × Nat
  | 0 => (0, 0)
  | t + 1 => if (skT t).2 < (skT t).1 then ((skT t).1, (skT t).2 + 1) else ((skT t).1 + 1, 0)
theorem skT_ok (t : Nat) : (skT t).2 ≤ (skT t).1 ∧ t = tri (skT t).1 + (skT t).2 := by
  induction t with
  | zero => exact ⟨Nat.le_refl _, rfl⟩
  | succ t ih =>
    unfold skT
    split
    · simp only; omega
    · simp only
      rw [tri_succ]; omega
theorem skT_eq {s k : Nat} (hk : k ≤ s) : skT (tri s + k) = (s, k) := by
  obtain ⟨a, b⟩ := skT_ok (tri s + k)
  obtain ⟨e1, e2⟩ := tri_inj hk a b
  exact Prod.ext e1.symm e2.symm
theorem skT_lt {d t : Nat} (h : t < tri (d + 1)) : (skT t).1 ≤ d := by
  obtain ⟨s, k, h1, h2, rfl⟩ := tri_exD h
  rw [skT_eq h2]
  exact h1
def cfT (F : pF) (t : Nat) : Int32 := cfV F (skT t).1 (skT t).2
theorem atT {h : pq_H} {p t : Nat} {F : pF} (hF : FormC h p F) (hk : okF F) (ht : t < tri (F.2.2.1 + 1)) : f_X1_at p (nI t) h = some (cfT F t) := by
  obtain ⟨a, b⟩ := skT_ok t
  have := at_ok hF hk (skT_lt ht) a
  rw [← b] at this
  exact this
theorem cfT_b {F : pF} (hk : okF F) {t : Nat} (ht : t < tri (F.2.2.1 + 1)) : -1000009 ≤ (cfT F t).toInt ∧ (cfT F t).toInt ≤ 1000000 := cfV_b hk (skT_lt ht) (skT_ok t).1
def cnt (p : Nat → Bool) : Nat → Nat
  | 0 => 0
  | n + 1 => cnt p n + (if p n = true then 1 else 0)
theorem cnt_s (p : Nat → Bool) (n : Nat) : cnt p (n + 1) = cnt p n + (if p n = true then 1 else 0) := rfl
theorem cnt_le (p : Nat → Bool) (n : Nat) : cnt p n ≤ n := by
  induction n with
  | zero => exact Nat.le_refl _
  | succ n ih => unfold cnt; split <;> omega
theorem tri28 {d : Nat} (h : d ≤ 6) : tri (d + 1) ≤ 28 := tri_mono (show d + 1 ≤ 7 by omega)
theorem howMany_ok {h : pq_H} {p : Nat} {F : pF} (hF : FormC h p F) (hk : okF F) (b : Bool) : f_X1_howMany p b h = some (nI (cnt (fun t => if b = true then decide (cfT F t < 0) else decide (cfT F t = 0)) (tri (F.2.2.1 + 1)))) := by
  have hd := hk.2.2.1
  have hb := tri28 hd
  refine ok_eq ?_
  unfold f_X1_howMany
  refine lp_forA (fun i x => x = nI (cnt (fun t => if b = true then decide (cfT F t < 0) else decide (cfT F t = 0)) i)) (tri (F.2.2.1 + 1)) ?_ ?_ 1000 0 0 (by omega) (by omega) rfl
  · intro i x w hi hx hw
    subst hx
    unfold f_X1_howMany_l4 f_X1_howMany_j39 f_X1_howMany_j42
    rw [hF.2.2.1, termsOf_nI (by omega), if_neg (nI_ge hi (by omega)), atT hF hk hi, Option.bind_some, nI_1, nI_1]
    cases b with
    | true =>
      rw [if_pos rfl]
      refine ok_ite (fun h => hw _ ?_) (fun h => hw _ ?_)
      · rw [cnt_s]
        have q : ¬ cfT F i < 0 := fun z => by
          have a := Int32.le_iff_toInt_le.mp h
          have b := Int32.lt_iff_toInt_lt.mp z
          omega
        simp [q]
      · rw [cnt_s]
        have q : cfT F i < 0 := Int32.not_le.mp h
        simp [q]
    | false =>
      rw [if_neg (by decide)]
      refine ok_ite (fun h => hw _ ?_) (fun h => hw _ ?_)
      · rw [cnt_s]
        simp [h]
      · rw [cnt_s]
        simp [h]
  · intro x w hx
    unfold f_X1_howMany_l4
    rw [hF.2.2.1, termsOf_nI (by omega), if_pos (le_nIn (Nat.le_refl _) (by omega))]
    exact ok_some hx
theorem cnt_01 (F : pF) (n : Nat) : cnt (fun t => decide (cfT F t < 1)) n = cnt (fun t => decide (cfT F t < 0)) n + cnt (fun t => decide (cfT F t = 0)) n := by
  induction n with
  | zero => rfl
  | succ n ih =>
    rw [cnt_s, cnt_s, cnt_s, ih]
    have e1 : cfT F n < 1 ↔ (cfT F n).toInt < 1 := Int32.lt_iff_toInt_lt
    have e2 : cfT F n < 0 ↔ (cfT F n).toInt < 0 := Int32.lt_iff_toInt_lt
    have e3 : cfT F n = 0 ↔ (cfT F n).toInt = 0 := Int32.toInt_inj.symm
    simp only [e1, e2, e3, decide_eq_true_eq]
    repeat' split
    all_goals omega
end OPS3
