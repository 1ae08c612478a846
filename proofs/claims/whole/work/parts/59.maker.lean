section MAKER
theorem oM (x y : Int) : Int64.ofInt (x * y) = Int64.ofInt x * Int64.ofInt y := Int64.ofInt_mul x y
theorem oS (x y : Int) : Int64.ofInt (x - y) = Int64.ofInt x - Int64.ofInt y := Int64.ofInt_sub x y
theorem oA (x y : Int) : Int64.ofInt (x + y) = Int64.ofInt x + Int64.ofInt y := Int64.ofInt_add x y
theorem oT {x : Int} (h : -9223372036854775808 ≤ x ∧ x ≤ 9223372036854775807) : (Int64.ofInt x).toInt = x := by
  rw [Int64.toInt_ofInt, show Int64.size = 18446744073709551616 from rfl, Int.bmod_eq_of_le (by omega) (by omega)]
theorem o0 {x : Int} (h : -9223372036854775808 ≤ x ∧ x ≤ 9223372036854775807) : (Int64.ofInt x = 0) ↔ x = 0 := by
  rw [← Int64.toInt_inj, oT h]
  exact Iff.rfl
theorem o32 (x : Int32) : x.toInt64 = Int64.ofInt x.toInt := by
  have a := Int32.toInt_lt x
  have b := Int32.le_toInt x
  apply Int64.toInt_inj.mp
  rw [Int32.toInt_toInt64, oT (by omega)]
theorem rowG_ok {β : Type} {q : Nat} (hq : q < 28) (k : Nat → Option β) : rowG 24 52 (some (24 + q)) k = k (24 + q) := by
  show (if 24 ≤ 24 + q ∧ 24 + q < 52 then k (24 + q) else none) = _
  rw [if_pos (by omega)]
def PM (h : pq_H) (σ : Nat → Nat) : Prop := (∀ t, t < 28 → rR h 72 t = some (24 + σ t) ∧ σ t < 28) ∧ ∀ t t', t < 28 → t' < 28 → σ t = σ t' → t = t'
theorem PM.fr {h h' : pq_H} {σ : Nat → Nat} (p : PM h σ) (f : ∀ P k, rR h' P k = rR h P k) : PM h' σ := ⟨fun t ht => ⟨(f 72 t).trans (p.1 t ht).1, (p.1 t ht).2⟩, p.2⟩
theorem fill_ok {h : pq_H} {σ : Nat → Nat} {m f : Nat} {F : pF} (p : PM h σ) (hm : m < 4) (hf : f < 12) (hF : FormC h f F) (hk : okF F) (hR : rI h 71 2 = nI (tri (F.2.2.1 + 1))) : ok (f_X5_fill (nI m) f h) (fun h' => (∀ P k, rI h' P k = rI h P k) ∧ (∀ P k, rR h' P k = rR h P k) ∧ (∀ P c, c ≠ m → rJ h' P c = rJ h P c) ∧ ∀ t, t < tri (F.2.2.1 + 1) → rJ h' (24 + σ t) m = Int64.ofInt (cfT F t).toInt) := by
  have hb := tri28 hk.2.2.1
  unfold f_X5_fill
  refine lp_forH (fun i h' => (∀ P k, rI h' P k = rI h P k) ∧ (∀ P k, rR h' P k = rR h P k) ∧ (∀ P c, c ≠ m → rJ h' P c = rJ h P c) ∧ ∀ t, t < i → rJ h' (24 + σ t) m = Int64.ofInt (cfT F t).toInt) (tri (F.2.2.1 + 1)) ?_ ?_ 1000 0 h (by omega) (by omega) ⟨fun _ _ => rfl, fun _ _ => rfl, fun _ _ _ => rfl, fun t ht => by omega⟩
  · intro i h' w hi ⟨g1, g2, g3, g4⟩ hw
    unfold f_X5_fill_l2
    have hF' : FormC h' f F := hF.fr (fun k => g1 f k) (fun k => g1 (f + 12) k)
    rw [g1, hR, if_neg (nI_ge hi (by omega)), inbN (show i < 28 by omega) (by decide), gd_t, nI_clamp (by omega), g2, (p.1 i (by omega)).1, rowG_ok (p.1 i (by omega)).2, atT hF' hk hi, Option.bind_some, inbN hm (by decide), gd_t, nI_clamp (by omega), nI_1]
    refine hw _ ⟨g1, g2, fun P c hc => ?_, fun t ht => ?_⟩
    · rw [rJ_ne (by omega)]; exact g3 P c hc
    · by_cases z : t = i
      · subst z
        rw [rJ_same, o32]
      · rw [rJ_ne (Or.inl (fun y => z (p.2 t i (by omega) (by omega) (by omega))))]
        exact g4 t (by omega)
  · intro h' w g
    unfold f_X5_fill_l2
    rw [g.1, hR, if_pos (le_nIn (Nat.le_refl _) (by omega))]
    exact ok_some g
def CEm (h : pq_H) (σ : Nat → Nat) (R M : Nat) (E : Nat → Nat → Int) : Prop := ∀ t c, t < R → c < M → rJ h (24 + σ t) c = Int64.ofInt (E t c)
def BIG : Int := 9000000000000000000
theorem leader_ok {h : pq_H} {σ : Nat → Nat} {R M l c : Nat} {E : Nat → Nat → Int} (p : PM h σ) (hR : rI h 71 2 = nI R) (hR2 : R ≤ 28) (ce : CEm h σ R M E) (hb : BDE R E BIG) (hl : l ≤ R) (hc : c < M) (hM : M ≤ 4) : (∃ t0, l ≤ t0 ∧ t0 < R ∧ E t0 c ≠ 0 ∧ f_X5_leader (nI l) (nI c) h = some (nI t0)) ∨ ((∀ t, t < R → l ≤ t → E t c = 0) ∧ f_X5_leader (nI l) (nI c) h = some (-1)) := by
  have run : ok (f_X5_leader (nI l) (nI c) h) (fun r => (∃ t0, l ≤ t0 ∧ t0 < R ∧ E t0 c ≠ 0 ∧ r = nI t0) ∨ ((∀ t, t < R → l ≤ t → E t c = 0) ∧ r = -1)) := by
    unfold f_X5_leader
    refine lp_forR (fun i => l ≤ i ∧ ∀ t, t < i → l ≤ t → E t c = 0) R ?_ ?_ 1000 l hl (by omega) ⟨Nat.le_refl _, fun t h1 h2 => by omega⟩
    · intro i w hi ⟨g1, g2⟩ hw
      unfold f_X5_leader_l2
      have bb := hb i c hi
      unfold BIG at bb
      rw [hR, if_neg (nI_ge hi (by omega)), inbN (show i < 28 by omega) (by decide), gd_t, nI_clamp (by omega), (p.1 i (by omega)).1, rowG_ok (p.1 i (by omega)).2, inbN (show c < 4 by omega) (by decide), gd_t, nI_clamp (by omega), ce i c hi hc, nI_1]
      by_cases z : E i c = 0
      · rw [if_pos ((o0 (by omega)).mpr z)]
        refine hw ⟨by omega, fun t h1 h2 => ?_⟩
        by_cases y : t = i
        · subst y; exact z
        · exact g2 t (by omega) h2
      · rw [if_neg (fun y => z ((o0 (by omega)).mp y))]
        exact ok_some (Or.inl ⟨i, g1, hi, z, rfl⟩)
    · intro w ⟨g1, g2⟩
      unfold f_X5_leader_l2
      rw [hR, if_pos (le_nIn (Nat.le_refl _) (by omega))]
      exact ok_some (Or.inr ⟨g2, rfl⟩)
  obtain ⟨r, e, ⟨t0, a, b, c, rfl⟩ | ⟨a, rfl⟩⟩ := run
  · exact Or.inl ⟨t0, a, b, c, e⟩
  · exact Or.inr ⟨a, e⟩
theorem takeAway_ok {h : pq_H} {σ : Nat → Nat} {N t l c : Nat} {a b : Nat → Int} (p : PM h σ) (hN : rI h 71 3 = nI N) (hN3 : N ≤ 3) (ht : t < 28) (hl : l < 28) (htl : t ≠ l) (hc : c ≤ N) (ha : ∀ k, k ≤ N → rJ h (24 + σ t) k = Int64.ofInt (a k)) (hb : ∀ k, k ≤ N → rJ h (24 + σ l) k = Int64.ofInt (b k)) : ok (f_X5_takeAway (nI t) (nI l) (nI c) h) (fun h' => (∀ P k, rI h' P k = rI h P k) ∧ (∀ P k, rR h' P k = rR h P k) ∧ (∀ P k, P ≠ 24 + σ t → rJ h' P k = rJ h P k) ∧ ∀ k, k ≤ N → rJ h' (24 + σ t) k = Int64.ofInt (a k * b c - b k * a c)) := by
  have hn : 24 + σ l ≠ 24 + σ t := fun y => htl (p.2 t l ht hl (by omega))
  unfold f_X5_takeAway
  rw [inbN ht (by decide), gd_t, nI_clamp (by omega), (p.1 t ht).1, rowG_ok (p.1 t ht).2, inbN (show c < 4 by omega) (by decide), gd_t, inbN hl (by decide), nI_clamp (n := l) (by omega), gd_t, (p.1 l hl).1, rowG_ok (p.1 l hl).2, gd_t, nI_clamp (n := c) (by omega), ha c hc, hb c hc]
  refine lp_forH (fun i h' => (∀ P k, rI h' P k = rI h P k) ∧ (∀ P k, rR h' P k = rR h P k) ∧ (∀ P k, P ≠ 24 + σ t → rJ h' P k = rJ h P k) ∧ (∀ k, k < i → rJ h' (24 + σ t) k = Int64.ofInt (a k * b c - b k * a c)) ∧ ∀ k, i ≤ k → rJ h' (24 + σ t) k = rJ h (24 + σ t) k) (N + 1) ?_ ?_ 1000 0 h (by omega) (by omega) ⟨fun _ _ => rfl, fun _ _ => rfl, fun _ _ _ => rfl, fun k hk => by omega, fun _ _ => rfl⟩
  · intro i h' w hi ⟨g1, g2, g3, g4, g5⟩ hw
    unfold f_X5_takeAway_l23
    rw [g1, hN, if_neg (nI_nlt (by omega) (by omega)), inbN ht (by decide), gd_t, nI_clamp (by omega), g2, (p.1 t ht).1, rowG_ok (p.1 t ht).2, gd_t, rowG_ok (p.1 t ht).2, inbN (show i < 4 by omega) (by decide), gd_t, inbN hl (by decide), gd_t, nI_clamp (n := l) (by omega), g2, (p.1 l hl).1, rowG_ok (p.1 l hl).2, gd_t, gd_t, nI_clamp (n := i) (by omega), g5 i (Nat.le_refl _), ha i (by omega), g3 _ _ hn, hb i (by omega), ← oM, ← oM, ← oS, nI_1]
    refine hw _ ⟨g1, g2, fun P k hP => ?_, fun k hk => ?_, fun k hk => ?_⟩
    · rw [rJ_ne (by omega)]; exact g3 P k hP
    · by_cases z : k = i
      · subst z; rw [rJ_same]
      · rw [rJ_ne (by omega)]; exact g4 k (by omega)
    · rw [rJ_ne (by omega)]; exact g5 k (by omega)
  · intro h' w ⟨g1, g2, g3, g4, g5⟩
    unfold f_X5_takeAway_l23
    rw [g1, hN, if_pos (nI_lt (by omega) (by omega))]
    exact ok_some ⟨g1, g2, g3, fun k hk => g4 k (by omega)⟩
end MAKER
