section BITS
def rk (q : Nat) : Nat → Nat
  | 0 => 0
  | v + 1 => rk q v + (if q.testBit v = true then 1 else 0)
def sel (q j : Nat) : Nat := ((List.range 6).filter (fun v => q.testBit v)).getD j 0
theorem bitq_nI : ∀ q, q < 64 → ∀ v, v < 6 → (((nI q >>> (nI v &&& 31)) &&& 1 = 0) ↔ q.testBit v = false) := by decide +kernel
theorem bc6_nI : ∀ q, q < 64 → f_J6_bitCount_0f7a4 (nI q) = nI (rk q 6) := by decide +kernel
theorem bcg_nI : ∀ q, q < 64 → ∀ g, g < 6 → f_J6_bitCount_0f7a4 (nI q &&& ((1 <<< (nI g &&& 31)) - 1)) = nI (rk q g) := by decide +kernel
theorem rk_n : ∀ q, q < 64 → ∀ n, n < 7 → q < 2 ^ n → rk q n = rk q 6 := by decide +kernel
theorem rk_pos : ∀ q, q < 64 → 1 ≤ q → 1 ≤ rk q 6 := by decide +kernel
theorem sel_rk : ∀ q, q < 64 → ∀ v, v < 6 → q.testBit v = true → sel q (rk q v) = v ∧ rk q v < rk q 6 := by decide +kernel
theorem rk_sel : ∀ q, q < 64 → ∀ j, j < 6 → j < rk q 6 → q.testBit (sel q j) = true ∧ sel q j < 6 ∧ rk q (sel q j) = j := by decide +kernel
theorem rk_6 (q : Nat) : rk q 6 ≤ 6 := by
  unfold rk rk rk rk rk rk rk
  repeat' split
  all_goals omega
theorem bit_lt {q n v : Nat} (h : q < 2 ^ n) (hv : q.testBit v = true) : v < n := by
  by_cases z : v < n
  · exact z
  · have := Nat.testBit_lt_two_pow (Nat.lt_of_lt_of_le h (Nat.pow_le_pow_right (by decide) (show n ≤ v by omega)))
    rw [this] at hv
    cases hv
theorem pow_nI : ∀ n, n < 7 → (1 : Int32) <<< (nI n &&& 31) = nI (2 ^ n) ∧ 2 ^ n ≤ 64 ∧ (nI n &&& 31) = nI n := by decide +kernel
theorem shr_0 {n : Nat} (hn : n < 7) {x : Int32} (h0 : 0 ≤ x.toInt) : (x >>> nI n = 0) ↔ x.toInt < 2 ^ n := by
  have e : (x >>> nI n).toInt = x.toInt / (2 ^ n : Nat) := by
    rw [← Int.shiftRight_eq_div_pow]
    have k : ∀ n, n < 7 → ((nI n).toBitVec.smod 32).toNat = n := by decide +kernel
    show (x >>> nI n).toBitVec.toInt = _
    rw [Int32.toBitVec_shiftRight, BitVec.sshiftRight_eq', BitVec.toInt_sshiftRight, k n hn]
    rfl
  rw [← Int32.toInt_inj, e, show (0 : Int32).toInt = 0 from rfl]
  have : n = 0 ∨ n = 1 ∨ n = 2 ∨ n = 3 ∨ n = 4 ∨ n = 5 ∨ n = 6 := by omega
  rcases this with rfl | rfl | rfl | rfl | rfl | rfl | rfl <;> simp only [Nat.reducePow, Int.reducePow, Int.cast_ofNat_Int] <;> omega
theorem set_cases {n : Nat} (hn : n < 7) (h : pq_H) (e : rI h 56 3 = nI n) (p : Int32) : (f_X6_lacksOf p h = true ∧ ¬ (1 ≤ p.toInt ∧ p.toInt < 2 ^ n)) ∨ ∃ q, 1 ≤ q ∧ q < 2 ^ n ∧ q < 64 ∧ p = nI q ∧ f_X6_lacksOf p h = false := by
  obtain ⟨p1, p2, p3⟩ := pow_nI n hn
  unfold f_X6_lacksOf
  rw [e, p1]
  have c1 : (1 : Int32).toInt = 1 := rfl
  have cp : (nI (2 ^ n)).toInt = ((2 ^ n : Nat) : Int) := nI_toInt (by omega)
  have cq : ((2 ^ n : Nat) : Int) = 2 ^ n := by simp
  by_cases z : p < 1
  · left
    rw [if_pos z]
    refine ⟨rfl, fun y => ?_⟩
    have := Int32.lt_iff_toInt_lt.mp z
    omega
  rw [if_neg z]
  have z' := Int32.le_iff_toInt_le.mp (Int32.not_lt.mp z)
  by_cases y : p < nI (2 ^ n)
  · right
    rw [if_pos y]
    have y' := Int32.lt_iff_toInt_lt.mp y
    rw [cp] at y'
    refine ⟨p.toInt.toNat, by omega, by omega, by omega, ?_, rfl⟩
    apply Int32.toInt_inj.mp
    rw [nI_toInt (by omega)]
    omega
  · left
    rw [if_neg y]
    refine ⟨rfl, fun w => ?_⟩
    have y' := Int32.le_iff_toInt_le.mp (Int32.not_lt.mp y)
    rw [cp] at y'
    omega
end BITS
