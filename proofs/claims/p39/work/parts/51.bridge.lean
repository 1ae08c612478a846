section BRIDGE
theorem i64_32 (x : Int32) : x.toInt64 = Int64.ofInt x.toInt := by
  rw [← Int32.toInt_toInt64, Int64.ofInt_toInt]
def aZ (F : pF) (g s k : Nat) : Int := if onS g F.2.2.1 s k = true then (cfV F s k).toInt else 0
theorem wr0_Z (F : pF) (g s k : Nat) : wr0 F g s k = Int64.ofInt (aZ F g s k) := by
  unfold wr0 aZ
  split
  · exact i64_32 _
  · rfl
theorem ofZ_ite {c : Prop} [Decidable c] (a b : Int) : (if c then Int64.ofInt a else Int64.ofInt b) = Int64.ofInt (if c then a else b) := by split <;> rfl
theorem rz_Z {g D : Nat} {W : Nat → Nat → Int64} {A : Nat → Nat → Int} (h : ∀ s k, W s k = Int64.ofInt (A s k)) (s k : Nat) : rz g D W s k = Int64.ofInt (rzZ g D A s k) := by
  unfold rz rzZ
  rw [h, h, h, Int64.ofInt_add, Int64.ofInt_add, show (0 : Int64) = Int64.ofInt 0 from rfl, ofZ_ite, ofZ_ite, ofZ_ite]
theorem rzN_Z {g D : Nat} {W : Nat → Nat → Int64} {A : Nat → Nat → Int} (h : ∀ s k, W s k = Int64.ofInt (A s k)) : ∀ n s k, rzN g D W n s k = Int64.ofInt (rnZ g D A n s k)
  | 0, s, k => h s k
  | n + 1, s, k => rz_Z (fun s k => rzN_Z h n s k) s k
theorem rzZ_b {g D : Nat} {A : Nat → Nat → Int} {M : Int} (hM : 0 ≤ M) (h : ∀ s k, -M ≤ A s k ∧ A s k ≤ M) (s k : Nat) : -(3 * M) ≤ rzZ g D A s k ∧ rzZ g D A s k ≤ 3 * M := by
  have h1 := h s k
  have h2 := h (s - 1) k
  have h3 := h (s - 1) (k - 1)
  unfold rzZ
  split <;> split <;> split <;> omega
theorem rnZ_b {g D : Nat} {A : Nat → Nat → Int} {M : Int} (hM : 0 ≤ M) (h : ∀ s k, -M ≤ A s k ∧ A s k ≤ M) : ∀ n s k, -(3 ^ n * M) ≤ rnZ g D A n s k ∧ rnZ g D A n s k ≤ 3 ^ n * M
  | 0, s, k => by simpa [rnZ] using h s k
  | n + 1, s, k => by
    have h1 := rzZ_b (g := g) (D := D + n) (A := rnZ g D A n) (M := 3 ^ n * M) (Int.mul_nonneg (Int.pow_nonneg (by decide)) hM) (rnZ_b hM h n) s k
    rw [Int.pow_succ, Int.mul_comm (3 ^ n) 3, Int.mul_assoc]
    exact h1
theorem i32_b (x : Int32) : -2147483648 ≤ x.toInt ∧ x.toInt ≤ 2147483648 := by
  have h1 := Int32.le_toInt x
  have h2 := Int32.toInt_lt x
  omega
theorem aZ_b (F : pF) (g s k : Nat) : -2147483648 ≤ aZ F g s k ∧ aZ F g s k ≤ 2147483648 := by
  unfold aZ
  split
  · exact i32_b _
  · decide
theorem p3_b {n : Nat} (h : n ≤ 13) : (3 : Int) ^ n ≤ 1594323 := by
  have : (3 : Int) ^ n ≤ 3 ^ 13 := by
    have e : ∀ m, m < 14 → (3 : Int) ^ m ≤ 3 ^ 13 := by decide
    exact e n (by omega)
  exact this
theorem rzN_int {F : pF} {g n : Nat} (hn : n ≤ 13) (s k : Nat) : (rzN g F.2.2.1 (wr0 F g) n s k).toInt = rnZ g F.2.2.1 (aZ F g) n s k := by
  rw [rzN_Z (wr0_Z F g)]
  have h1 := rnZ_b (g := g) (D := F.2.2.1) (A := aZ F g) (M := 2147483648) (by decide) (aZ_b F g) n s k
  have h2 := p3_b hn
  have h3 : (3 : Int) ^ n * 2147483648 ≤ 1594323 * 2147483648 := Int.mul_le_mul_of_nonneg_right h2 (by decide)
  exact Int64.toInt_ofInt_of_le (by omega) (by omega)
theorem fails_iff (v : Int64) (q : Nat) (hq : q < 2) : f_X10_fails v (nI q) = false ↔ (if q = 0 then 0 ≤ v.toInt else 0 < v.toInt) := by
  have z : (0 : Int64).toInt = 0 := rfl
  have l1 : (0 : Int64) ≤ v ↔ 0 ≤ v.toInt := le64
  have l2 : (0 : Int64) < v ↔ 0 < v.toInt := lt64
  unfold f_X10_fails
  by_cases c : q = 0
  · subst c
    rw [if_pos rfl, if_pos (show nI 0 = 0 from rfl), ← l1]
    by_cases c : (0 : Int64) ≤ v
    · rw [if_pos c]; exact ⟨fun _ => c, fun _ => rfl⟩
    · rw [if_neg c]; exact ⟨fun h => (by cases h), fun h => absurd h c⟩
  · have c1 : q = 1 := by omega
    subst c1
    rw [if_neg (show ¬ nI 1 = 0 by decide), if_neg (show ¬ (1 : Nat) = 0 by decide), ← l2]
    by_cases c : (0 : Int64) < v
    · rw [if_pos c]; exact ⟨fun _ => c, fun _ => rfl⟩
    · rw [if_neg c]; exact ⟨fun h => (by cases h), fun h => absurd h c⟩
theorem allB_iff {p : Nat → Bool} {n : Nat} : allB p n = true ↔ ∀ i, i < n → p i = true := by
  refine ⟨fun h i hi => allB_t h hi, fun h => ?_⟩
  induction n with
  | zero => rfl
  | succ n ih => rw [allB_s, ih (fun i hi => h i (by omega)), h n (by omega)]; rfl
/-- clear at a lift, in integers -/
def clZ (F : pF) (g q n : Nat) : Prop := ∀ s k, s ≤ F.2.2.1 + n → k ≤ s → onS g (F.2.2.1 + n) s k = true → if q = 0 then 0 ≤ rnZ g F.2.2.1 (aZ F g) n s k else 0 < rnZ g F.2.2.1 (aZ F g) n s k
theorem clr_iff {F : pF} {g q n : Nat} (h1 : 1 ≤ g) (h2 : g ≤ 7) (hq : q < 2) (hn : n ≤ 13) : clrN g F.2.2.1 (wr0 F g) (nI q) n = true ↔ clZ F g q n := by
  unfold clrN
  rw [allB_iff]
  constructor
  · intro h s k hs hk ho
    obtain ⟨p, hp, e⟩ := on_num h1 h2 hs hk ho
    have := h p hp
    unfold ffP at this
    rw [← e, Wt_eq hk, Bool.not_eq_true', fails_iff _ _ hq, rzN_int hn] at this
    exact this
  · intro h p hp
    obtain ⟨s, k, a1, a2, a3, a4⟩ := num_at h1 h2 hp
    have := h s k a1 a2 a4
    rw [← rzN_int hn, ← fails_iff _ _ hq] at this
    unfold ffP
    rw [a3, Wt_eq a2, this]
    rfl
theorem aZ_off (F : pF) (g : Nat) : offZ g F.2.2.1 (aZ F g) := fun s k hs hk h => by
  unfold aZ
  rw [if_neg]
  intro c
  have := onS_iff.mp c
  omega
theorem clZ_non {F : pF} {g q n : Nat} (h : clZ F g q n) : nonZ (F.2.2.1 + n) (rnZ g F.2.2.1 (aZ F g) n) := nonZ_on (offZ_rn (aZ_off F g) n) (fun s k hs hk c => by
  have := h s k hs hk (onS_iff.mpr c)
  split at this <;> omega)
theorem clZ_pos {F : pF} {g n : Nat} (h : clZ F g 1 n) : posZ g (F.2.2.1 + n) (rnZ g F.2.2.1 (aZ F g) n) := fun s k hs hk c => by
  have := h s k hs hk (onS_iff.mpr c)
  rw [if_neg (by decide)] at this
  exact this
theorem clZ_of {F : pF} {g q n : Nat} (h0 : nonZ (F.2.2.1 + n) (rnZ g F.2.2.1 (aZ F g) n)) (h1 : q = 0 ∨ posZ g (F.2.2.1 + n) (rnZ g F.2.2.1 (aZ F g) n)) : clZ F g q n := fun s k hs hk ho => by
  rcases h1 with h1 | h1
  · rw [if_pos h1]; exact h0 s k hs hk
  · have := h1 s k hs hk (onS_iff.mp ho)
    split
    · omega
    · exact this
/-- clear stays clear -/
theorem clZ_up {F : pF} {g q n : Nat} (hq : q < 2) (h : clZ F g q n) : clZ F g q (n + 1) := by
  refine clZ_of (nonZ_rz (clZ_non h)) ?_
  by_cases c : q = 0
  · exact Or.inl c
  · have : q = 1 := by omega
    subst this
    exact Or.inr (posZ_rz (clZ_non h) (clZ_pos h))
theorem clZ_10 {F : pF} {g n : Nat} (h : clZ F g 1 n) : clZ F g 0 n := clZ_of (clZ_non h) (Or.inl rfl)
theorem pow_le {a b : Int} (ha : 0 ≤ a) (hb : a ≤ b) : ∀ n : Nat, a ^ n ≤ b ^ n
  | 0 => by simp
  | n + 1 => by
    rw [Int.pow_succ, Int.pow_succ]
    exact Int.mul_le_mul (pow_le ha hb n) hb ha (Int.pow_nonneg (by omega))
theorem mul_ab {P b y c : Int} (hP : 0 ≤ P) (hb : -P ≤ b ∧ b ≤ P) (hy : 0 ≤ y ∧ y ≤ c) : -(P * c) ≤ b * y ∧ b * y ≤ P * c := by
  have h1 := Int.mul_le_mul_of_nonneg_right hb.2 hy.1
  have h2 := Int.mul_le_mul_of_nonneg_left hy.2 hP
  have h3 := Int.mul_le_mul_of_nonneg_right hb.1 hy.1
  rw [Int.neg_mul] at h3
  omega
theorem bZ_ab {A : Nat → Nat → Int} {M y z : Int} {s : Nat} (hM : 0 ≤ M) (hy : 0 ≤ y ∧ y ≤ 12) (hz : 0 ≤ z ∧ z ≤ 12) : ∀ n, (∀ k, k < n → -M ≤ A s k ∧ A s k ≤ M) → -(M * 25 ^ n) ≤ bZ A y z s n ∧ bZ A y z s n ≤ M * 25 ^ n
  | 0, _ => by simp [bZ]; omega
  | n + 1, h => by
    have hz0 : 0 ≤ z ^ n := Int.pow_nonneg hz.1
    have hz1 : z ^ n ≤ 25 ^ n := Int.le_trans (pow_le hz.1 hz.2 n) (pow_le (by decide) (by decide) n)
    have hQ : 0 ≤ M * 25 ^ n := Int.mul_nonneg hM (Int.pow_nonneg (by decide))
    have h1 := mul_ab hQ (bZ_ab hM hy hz n (fun k hk => h k (by omega))) hy
    have h2 := mul_ab hM (h n (by omega)) ⟨hz0, hz1⟩
    rw [bZ_s, Int.pow_succ, ← Int.mul_assoc]
    omega
theorem hZ_ab {A : Nat → Nat → Int} {M x y z : Int} (hM : 0 ≤ M) (hx : 0 ≤ x ∧ x ≤ 12) (hy : 0 ≤ y ∧ y ≤ 12) (hz : 0 ≤ z ∧ z ≤ 12) : ∀ n, (∀ s k, s < n → k ≤ s → -M ≤ A s k ∧ A s k ≤ M) → -(M * 50 ^ n) ≤ hZ A x y z n ∧ hZ A x y z n ≤ M * 50 ^ n
  | 0, _ => by simp [hZ]; omega
  | n + 1, h => by
    have hQ : 0 ≤ M * 50 ^ n := Int.mul_nonneg hM (Int.pow_nonneg (by decide))
    have h1 := mul_ab hQ (hZ_ab hM hx hy hz n (fun s k a b => h s k (by omega) b)) hx
    have h2 := bZ_ab (A := A) (s := n) hM hy hz (n + 1) (fun k hk => h n k (by omega) (by omega))
    have h3 : M * 25 ^ n ≤ M * 50 ^ n := Int.mul_le_mul_of_nonneg_left (pow_le (by decide) (by decide) n) hM
    rw [Int.pow_succ, ← Int.mul_assoc] at h2
    rw [hZ_s, Int.pow_succ, ← Int.mul_assoc]
    omega
theorem pw_Z {X : Int64} {x : Int} (h : X = Int64.ofInt x) : ∀ n, pw X n = Int64.ofInt (x ^ n)
  | 0 => by simp [pw]
  | n + 1 => by rw [pw_s, pw_Z h n, h, Int.pow_succ, Int64.ofInt_mul]
theorem bh_Z {W : Nat → Nat → Int64} {A : Nat → Nat → Int} {Y Z : Int64} {y z : Int} (hW : ∀ s k, W s k = Int64.ofInt (A s k)) (hY : Y = Int64.ofInt y) (hZ : Z = Int64.ofInt z) (s : Nat) : ∀ n, bh W Y Z s n = Int64.ofInt (bZ A y z s n)
  | 0 => rfl
  | n + 1 => by rw [bh_s, bh_Z hW hY hZ s n, hW, pw_Z hZ, hY, bZ_s, Int64.ofInt_add, Int64.ofInt_mul, Int64.ofInt_mul]
theorem ah_Z {W : Nat → Nat → Int64} {A : Nat → Nat → Int} {X Y Z : Int64} {x y z : Int} (hW : ∀ s k, W s k = Int64.ofInt (A s k)) (hX : X = Int64.ofInt x) (hY : Y = Int64.ofInt y) (hZ' : Z = Int64.ofInt z) : ∀ n, ah W X Y Z n = Int64.ofInt (hZ A x y z n)
  | 0 => rfl
  | n + 1 => by rw [ah_s, ah_Z hW hX hY hZ' n, bh_Z hW hY hZ', hX, hZ_s, Int64.ofInt_add, Int64.ofInt_mul]
theorem nI_64 {a : Nat} (h : a < 1000000) : (nI a).toInt64 = Int64.ofInt (a : Int) := by
  rw [i64_32, nI_toInt (by omega)]
/-- a value at a point on a side -/
theorem val_Z {F : pF} {g a b c : Nat} (ha : a < 1000000) (hb : b < 1000000) (hc : c < 1000000) (ho : onZ g a b c) : valF F (nI a) (nI b) (nI c) = Int64.ofInt (hZ (aZ F g) a b c (F.2.2.1 + 1)) := by
  have e : ∀ n : Nat, (n : Int) = 0 → nI n = 0 := fun n h => by
    have : n = 0 := by omega
    subst this; rfl
  rw [← worth_val (F := F) (g := g) ⟨ho.1.imp id (e a), ho.2.1.imp id (e b), ho.2.2.imp id (e c)⟩]
  exact ah_Z (wr0_Z F g) (nI_64 ha) (nI_64 hb) (nI_64 hc) _
theorem aZ_c {F : pF} (hk : okF F) (g : Nat) {s k : Nat} (hs : s ≤ F.2.2.1) (hks : k ≤ s) : -1000009 ≤ aZ F g s k ∧ aZ F g s k ≤ 1000009 := by
  have := cfV_b hk hs hks
  unfold aZ
  split
  · omega
  · decide
theorem val_int {F : pF} (hk : okF F) {g a b c : Nat} (ha : a ≤ 12) (hb : b ≤ 12) (hc : c ≤ 12) (ho : onZ g a b c) : (valF F (nI a) (nI b) (nI c)).toInt = hZ (aZ F g) a b c (F.2.2.1 + 1) := by
  rw [val_Z (by omega) (by omega) (by omega) ho]
  have h1 := hZ_ab (A := aZ F g) (M := 1000009) (x := a) (y := b) (z := c) (by decide) (by omega) (by omega) (by omega) (F.2.2.1 + 1) (fun s k hs hks => aZ_c hk g (by omega) hks)
  have h2 : (50 : Int) ^ (F.2.2.1 + 1) ≤ 50 ^ 7 := by
    have e : ∀ m, m < 7 → (50 : Int) ^ (m + 1) ≤ 50 ^ 7 := by decide
    exact e _ (by have := hk.2.2.1; omega)
  have h3 : (1000009 : Int) * 50 ^ (F.2.2.1 + 1) ≤ 1000009 * 50 ^ 7 := Int.mul_le_mul_of_nonneg_left h2 (by decide)
  have h4 : (1000009 : Int) * 50 ^ 7 < 2 ^ 63 := by decide
  exact Int64.toInt_ofInt_of_le (by omega) (by omega)
/-- no point of a size fails, where the form is clear at a lift -/
theorem pv_ok {F : pF} (hk : okF F) {g q n m p : Nat} (h1 : 1 ≤ g) (h2 : g ≤ 7) (hq : q < 2) (hm1 : 1 ≤ m) (hm : m ≤ 12) (hp : p < plc g m) (h : clZ F g q n) : f_X10_fails (pv F g m p) (nI q) = false := by
  obtain ⟨s, k, a1, a2, a3, a4⟩ := num_at h1 h2 hp
  have o := onS_iff.mp a4
  have ho : onZ g ((m - s : Nat) : Int) ((s - k : Nat) : Int) (k : Int) := ⟨o.1.imp id (fun e => by omega), o.2.1.imp id (fun e => by omega), o.2.2.imp id (fun e => by omega)⟩
  unfold pv
  rw [a3, ptV_eq a2, fails_iff _ _ hq, val_int hk (by omega) (by omega) (by omega) ho]
  by_cases c : q = 0
  · rw [if_pos c]
    exact val_nn (n := n) (by omega) (by omega) (by omega) (by omega) ho (clZ_non h)
  · have : q = 1 := by omega
    subst this
    rw [if_neg c]
    exact val_pos (n := n) (by omega) (by omega) (by omega) (by omega) ho (clZ_non h) (clZ_pos h)
end BRIDGE
