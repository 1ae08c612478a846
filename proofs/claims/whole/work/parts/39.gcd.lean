section GCD
variable {hC hM : pq_H}
def fbG : Nat → Nat
  | 0 => 1
  | 1 => 2
  | n + 2 => fbG (n + 1) + fbG n
/-- the steps of the common divisor are n at most -/
def eu : Nat → Nat → Nat → Prop
  | 0, _, b => b = 0
  | n + 1, a, b => b = 0 ∨ eu n b (a % b)
theorem eu_s (n a b : Nat) : eu (n + 1) a b ↔ (b = 0 ∨ eu n b (a % b)) := Iff.rfl
theorem eu_G : ∀ n, (∀ a b, b < fbG n → eu n a b) ∧ (∀ a b, b < fbG (n + 1) → eu (n + 1) a b) := by
  intro n
  induction n with
  | zero =>
    refine ⟨fun a b h => ?_, fun a b h => ?_⟩
    · have h : b < 1 := h
      show b = 0
      omega
    · have h : b < 2 := h
      by_cases z : b = 0
      · exact Or.inl z
      · refine Or.inr ?_
        have e : b = 1 := by omega
        subst e
        show a % 1 = 0
        omega
  | succ n ih =>
    refine ⟨ih.2, fun a b h => ?_⟩
    have h : b < fbG (n + 1) + fbG n := h
    by_cases z : b = 0
    · exact Or.inl z
    · refine Or.inr ?_
      have hr : a % b < b := Nat.mod_lt _ (by omega)
      by_cases q : a % b < fbG (n + 1)
      · exact ih.2 b (a % b) q
      · by_cases y : a % b = 0
        · exact Or.inl y
        · refine Or.inr (ih.1 _ _ ?_)
          have e := Nat.div_add_mod b (a % b)
          have d : 1 ≤ b / (a % b) := (Nat.le_div_iff_mul_le (by omega)).mpr (by omega)
          have m : a % b * 1 ≤ a % b * (b / (a % b)) := Nat.mul_le_mul_left _ d
          omega
theorem gcd_step (a b : Nat) : Nat.gcd a b = Nat.gcd b (a % b) := by
  rw [Nat.gcd_comm a b, Nat.gcd_rec b a, Nat.gcd_comm]
theorem lN_0 : (0 : Int64) = lN 0 := rfl
theorem lN_e0 {b : Nat} (hb : b < 2 ^ 63) : (lN b = 0) ↔ b = 0 := pk_lEQ hb (by decide)
theorem common_run : ∀ n a b i N, eu n a b → i + n ≤ 99 → n < N → a < 2 ^ 63 → b < 2 ^ 63 → lp (fun _ _ _ => none) f_X10_commonOf_l9 N (lN a) (lN b) (nI i) = some (lN (Nat.gcd a b)) := by
  intro n
  induction n with
  | zero =>
    intro a b i N he hi hN ha hb
    obtain ⟨M, rfl⟩ := Nat.exists_eq_add_of_le' (show 1 ≤ N by omega)
    have he : b = 0 := he
    subst he
    rw [lp_s]
    unfold f_X10_commonOf_l9
    rw [if_neg (show ¬ (100 : Int32) ≤ nI i from nI_ge (b := 100) (by omega) (by omega)), if_pos (show lN 0 = 0 from rfl), Nat.gcd_zero_right]
  | succ n ih =>
    intro a b i N he hi hN ha hb
    obtain ⟨M, rfl⟩ := Nat.exists_eq_add_of_le' (show 1 ≤ N by omega)
    rw [lp_s]
    unfold f_X10_commonOf_l9
    rw [if_neg (show ¬ (100 : Int32) ≤ nI i from nI_ge (b := 100) (by omega) (by omega))]
    by_cases z : b = 0
    · subst z
      rw [if_pos (show lN 0 = 0 from rfl), Nat.gcd_zero_right]
    · have z2 : ¬ lN b = 0 := fun e => z ((lN_e0 hb).mp e)
      rw [if_neg z2, show (lN b != 0) = true by simp [z2], gd_t, pk_lRem ha (by omega) hb, nI_1, gcd_step]
      exact ih b (a % b) (i + 1) M (he.resolve_left z) (by omega) (by omega) hb (Nat.lt_of_lt_of_le (Nat.mod_lt _ (by omega)) (by omega))
theorem divisor_run : ∀ n a b N, eu n a b → n < N → a < 2 ^ 63 → b < 2 ^ 63 → lp (fun _ _ => none) f_X11_divisor_l28 N (lN a) (lN b) = some (lN (Nat.gcd a b)) := by
  intro n
  induction n with
  | zero =>
    intro a b N he hN ha hb
    obtain ⟨M, rfl⟩ := Nat.exists_eq_add_of_le' (show 1 ≤ N by omega)
    have he : b = 0 := he
    subst he
    rw [lp_s]
    unfold f_X11_divisor_l28
    rw [if_pos (show lN 0 = 0 from rfl), Nat.gcd_zero_right]
  | succ n ih =>
    intro a b N he hN ha hb
    obtain ⟨M, rfl⟩ := Nat.exists_eq_add_of_le' (show 1 ≤ N by omega)
    rw [lp_s]
    unfold f_X11_divisor_l28
    by_cases z : b = 0
    · subst z
      rw [if_pos (show lN 0 = 0 from rfl), Nat.gcd_zero_right]
    · have z2 : ¬ lN b = 0 := fun e => z ((lN_e0 hb).mp e)
      rw [if_neg z2, show (lN b != 0) = true by simp [z2], gd_t, pk_lRem ha (by omega) hb, gcd_step]
      exact ih b (a % b) M (he.resolve_left z) (by omega) hb (Nat.lt_of_lt_of_le (Nat.mod_lt _ (by omega)) (by omega))
theorem fb90 : 4611686018427387904 ≤ fbG 90 := by decide +kernel
theorem lN_I {n : Nat} (h : n < 2 ^ 63) : (lN n).toInt = (n : Int) := Int64.toInt_ofNat_of_lt h
/-- numbers of 62 bits -/
def bd62 (u : Int64) : Prop := -4611686018427387904 < u.toInt ∧ u.toInt < 4611686018427387904
theorem abs_lN {u : Int64} (h : bd62 u) : (if 0 < u then u else -u) = lN u.toInt.natAbs ∧ (if 0 ≤ u then u else -u) = lN u.toInt.natAbs := by
  obtain ⟨h1, h2⟩ := h
  have z : (0 : Int64).toInt = 0 := rfl
  have hn : (-u).toInt = -u.toInt := by rw [Int64.toInt_neg, Int.bmod_eq_of_le (by omega) (by omega)]
  have c1 : (0 < u) ↔ 0 < u.toInt := by rw [Int64.lt_iff_toInt_lt, z]
  have c2 : (0 ≤ u) ↔ 0 ≤ u.toInt := by rw [Int64.le_iff_toInt_le, z]
  have e : (lN u.toInt.natAbs).toInt = (u.toInt.natAbs : Int) := lN_I (by omega)
  constructor
  · apply Int64.toInt_inj.mp
    rw [e]
    split
    · rename_i q; have := c1.mp q; omega
    · rename_i q; rw [hn]; have y : ¬ 0 < u.toInt := fun y => q (c1.mpr y)
      omega
  · apply Int64.toInt_inj.mp
    rw [e]
    split
    · rename_i q; have := c2.mp q; omega
    · rename_i q; rw [hn]; have y : ¬ 0 ≤ u.toInt := fun y => q (c2.mpr y)
      omega
def ggI (u d : Int) : Nat := Nat.gcd u.natAbs d.natAbs
def resI (u d : Int) (p : Nat) : Int := if p = 0 then (if 0 ≤ d then u else -u).tdiv (ggI u d) else (d.natAbs : Int).tdiv (ggI u d)
theorem common_ok {u d : Int64} (hu : bd62 u) (hd : bd62 d) : f_X10_commonOf (if 0 < u then u else -u) (if 0 < d then d else -d) = some (lN (ggI u.toInt d.toInt)) := by
  unfold f_X10_commonOf
  rw [(abs_lN hu).1, (abs_lN hd).1]
  obtain ⟨h1, h2⟩ := hu
  obtain ⟨h3, h4⟩ := hd
  have hb := fb90
  exact common_run 90 _ _ 0 1000 ((eu_G 90).1 _ _ (by omega)) (by omega) (by omega) (by omega) (by omega)
theorem divisor_ok {u d : Int64} (hu : bd62 u) (hd : bd62 d) : f_X11_divisor u d = some (lN (ggI u.toInt d.toInt)) := by
  have e : f_X11_divisor u d = lp (fun _ _ => none) f_X11_divisor_l28 1000 (if 0 ≤ u then u else -u) (if 0 ≤ d then d else -d) := by
    unfold f_X11_divisor f_X11_divisor_j12 f_X11_divisor_j26
    split <;> split <;> rfl
  rw [e, (abs_lN hu).2, (abs_lN hd).2]
  obtain ⟨h1, h2⟩ := hu
  obtain ⟨h3, h4⟩ := hd
  have hb := fb90
  exact divisor_run 90 _ _ 1000 ((eu_G 90).1 _ _ (by omega)) (by omega) (by omega) (by omega)
theorem gg_pos {u d : Int} (hd : d ≠ 0) : 0 < ggI u d := Nat.gcd_pos_of_pos_right _ (by omega)
theorem gg_le {u d : Int} (hd : d ≠ 0) : ggI u d ≤ d.natAbs := Nat.gcd_le_right _ (by omega)
theorem neg62 {u : Int64} (h : bd62 u) : (-u).toInt = -u.toInt := by
  obtain ⟨h1, h2⟩ := h
  rw [Int64.toInt_neg, Int.bmod_eq_of_le (by omega) (by omega)]
theorem div62 {u v : Int64} (h : bd62 u) : (u / v).toInt = u.toInt.tdiv v.toInt := by
  refine Int64.toInt_div_of_ne_left u v (fun e => ?_)
  obtain ⟨h1, h2⟩ := h
  rw [e] at h1
  exact absurd h1 (by decide)
theorem bd62_neg {u : Int64} (h : bd62 u) : bd62 (-u) := by
  have e := neg62 h
  obtain ⟨h1, h2⟩ := h
  exact ⟨by rw [e]; omega, by rw [e]; omega⟩
theorem partC_ok {u d : Int64} (hu : bd62 u) (hd : bd62 d) (h0 : d.toInt ≠ 0) {p : Nat} (hp : p < 2) : ∃ r, f_X10_partOf u d (nI p) = some r ∧ r.toInt = resI u.toInt d.toInt p := by
  have hg := gg_pos (u := u.toInt) h0
  have hl := gg_le (u := u.toInt) h0
  have hd2 := hd
  obtain ⟨h3, h4⟩ := hd2
  have eg : (lN (ggI u.toInt d.toInt)).toInt = (ggI u.toInt d.toInt : Int) := lN_I (by omega)
  have ne : ¬ lN (ggI u.toInt d.toInt) = 0 := fun e => by have := (lN_e0 (by omega)).mp e; omega
  have nb : (lN (ggI u.toInt d.toInt) != 0) = true := by simp [ne]
  have cd : (0 ≤ d) ↔ 0 ≤ d.toInt := by rw [Int64.le_iff_toInt_le, show (0 : Int64).toInt = 0 from rfl]
  unfold f_X10_partOf f_X10_partOf_j56
  rw [common_ok hu hd, Option.bind_some, if_neg ne, nb]
  simp only [gd_t]
  have hp0 : (nI p = 0) ↔ p = 0 := nI_eq (b := 0) (by omega) (by decide)
  by_cases z : p = 0
  · rw [if_pos (hp0.mpr z)]
    by_cases q : 0 ≤ d
    · rw [if_pos q]
      refine ⟨_, rfl, ?_⟩
      rw [div62 hu, eg]
      unfold resI
      rw [if_pos z, if_pos (cd.mp q)]
    · rw [if_neg q]
      refine ⟨_, rfl, ?_⟩
      rw [div62 (bd62_neg hu), eg, neg62 hu]
      unfold resI
      rw [if_pos z, if_neg (fun y => q (cd.mpr y))]
  · rw [if_neg (fun y => z (hp0.mp y)), (abs_lN hd).1]
    refine ⟨_, rfl, ?_⟩
    have ea : (lN d.toInt.natAbs).toInt = (d.toInt.natAbs : Int) := lN_I (by omega)
    rw [div62 ⟨by rw [ea]; omega, by rw [ea]; omega⟩, eg, ea]
    unfold resI
    rw [if_neg z]
theorem partM_ok {u d : Int64} (hu : bd62 u) (hd : bd62 d) (h0 : d.toInt ≠ 0) {p : Nat} (hp : p < 2) : ∃ r, f_X11_partOf u d (nI p) = some r ∧ r.toInt = resI u.toInt d.toInt p := by
  have hg := gg_pos (u := u.toInt) h0
  have hl := gg_le (u := u.toInt) h0
  have hd2 := hd
  obtain ⟨h3, h4⟩ := hd2
  have eg : (lN (ggI u.toInt d.toInt)).toInt = (ggI u.toInt d.toInt : Int) := lN_I (by omega)
  have ne : ¬ lN (ggI u.toInt d.toInt) = 0 := fun e => by have := (lN_e0 (by omega)).mp e; omega
  have nb : (lN (ggI u.toInt d.toInt) != 0) = true := by simp [ne]
  have bg : bd62 (lN (ggI u.toInt d.toInt)) := ⟨by rw [eg]; omega, by rw [eg]; omega⟩
  have eg2 := neg62 bg
  rw [eg] at eg2
  have ne2 : ¬ -lN (ggI u.toInt d.toInt) = 0 := fun e => by
    rw [e] at eg2
    have : (0 : Int64).toInt = 0 := rfl
    omega
  have nb2 : (-lN (ggI u.toInt d.toInt) != 0) = true := by simp [ne2]
  have cd : (0 ≤ d) ↔ 0 ≤ d.toInt := by rw [Int64.le_iff_toInt_le, show (0 : Int64).toInt = 0 from rfl]
  have hp0 : (nI p = 0) ↔ p = 0 := nI_eq (b := 0) (by omega) (by decide)
  unfold f_X11_partOf f_X11_partOf_j20 f_X11_partOf_j32
  rw [divisor_ok hu hd, Option.bind_some, Option.bind_some, nb, nb2]
  simp only [gd_t]
  by_cases q : 0 ≤ d
  · have q2 := cd.mp q
    rw [if_pos q]
    by_cases z : p = 0
    · rw [if_pos (hp0.mpr z)]
      refine ⟨_, rfl, ?_⟩
      rw [div62 hu, eg]
      unfold resI
      rw [if_pos z, if_pos q2]
    · rw [if_neg (fun y => z (hp0.mp y))]
      refine ⟨_, rfl, ?_⟩
      rw [div62 hd, eg]
      unfold resI
      rw [if_neg z, show d.toInt = (d.toInt.natAbs : Int) by omega]
      simp
  · have q2 : ¬ 0 ≤ d.toInt := fun y => q (cd.mpr y)
    rw [if_neg q]
    by_cases z : p = 0
    · rw [if_pos (hp0.mpr z)]
      refine ⟨_, rfl, ?_⟩
      rw [div62 hu, eg2]
      unfold resI
      rw [if_pos z, if_neg q2, Int.tdiv_neg, Int.neg_tdiv]
    · rw [if_neg (fun y => z (hp0.mp y))]
      refine ⟨_, rfl, ?_⟩
      rw [div62 hd, eg2]
      unfold resI
      rw [if_neg z, Int.tdiv_neg, ← Int.neg_tdiv, show -d.toInt = (d.toInt.natAbs : Int) by omega]
theorem resI_eq {u d u' d' : Int} (h0 : d ≠ 0) (h0' : d' ≠ 0) (h : u * d' = u' * d) (p : Nat) : resI u d p = resI u' d' p := by
  have hg := gg_pos (u := u) h0
  have hg' := gg_pos (u := u') h0'
  obtain ⟨k, ek⟩ : ggI u d ∣ d.natAbs := Nat.gcd_dvd_right _ _
  obtain ⟨k', ek'⟩ : ggI u' d' ∣ d'.natAbs := Nat.gcd_dvd_right _ _
  obtain ⟨m, em⟩ : ggI u d ∣ u.natAbs := Nat.gcd_dvd_left _ _
  obtain ⟨m', em'⟩ : ggI u' d' ∣ u'.natAbs := Nat.gcd_dvd_left _ _
  have cp : Nat.Coprime m k := by
    have := Nat.coprime_div_gcd_div_gcd (m := u.natAbs) (n := d.natAbs) hg
    rw [show Nat.gcd u.natAbs d.natAbs = ggI u d from rfl, em, ek, Nat.mul_div_cancel_left _ hg, Nat.mul_div_cancel_left _ hg] at this
    exact this
  have cp' : Nat.Coprime m' k' := by
    have := Nat.coprime_div_gcd_div_gcd (m := u'.natAbs) (n := d'.natAbs) hg'
    rw [show Nat.gcd u'.natAbs d'.natAbs = ggI u' d' from rfl, em', ek', Nat.mul_div_cancel_left _ hg', Nat.mul_div_cancel_left _ hg'] at this
    exact this
  have hn : u.natAbs * d'.natAbs = u'.natAbs * d.natAbs := by
    rw [← Int.natAbs_mul, ← Int.natAbs_mul, h]
  have hmk : m * k' = m' * k := by
    rw [em, ek, em', ek'] at hn
    have e : (ggI u d * ggI u' d') * (m * k') = (ggI u d * ggI u' d') * (m' * k) := by
      calc (ggI u d * ggI u' d') * (m * k') = ggI u d * m * (ggI u' d' * k') := by ac_rfl
        _ = ggI u' d' * m' * (ggI u d * k) := hn
        _ = (ggI u d * ggI u' d') * (m' * k) := by ac_rfl
    exact Nat.eq_of_mul_eq_mul_left (Nat.mul_pos hg hg') e
  have kk : k = k' := by
    refine Nat.dvd_antisymm ?_ ?_
    · exact cp.symm.dvd_of_dvd_mul_left (by rw [hmk]; exact Nat.dvd_mul_left k m')
    · exact cp'.symm.dvd_of_dvd_mul_left (by rw [← hmk]; exact Nat.dvd_mul_left k' m)
  have kp : 0 < k := by
    rcases Nat.eq_zero_or_pos k with z | z
    · rw [z, Nat.mul_zero] at ek; omega
    · exact z
  subst kk
  have mm : m = m' := Nat.eq_of_mul_eq_mul_right kp hmk
  subst mm
  have gI : (ggI u d : Int) ≠ 0 := by omega
  have gI' : (ggI u' d' : Int) ≠ 0 := by omega
  unfold resI
  by_cases z : p = 0
  · rw [if_pos z, if_pos z]
    -- the signs
    have key : ∀ (g : Nat) (w : Int), 0 < g → w.natAbs = g * m → w.tdiv g = if 0 ≤ w then (m : Int) else -(m : Int) := by
      intro g w hg hw
      by_cases s : 0 ≤ w
      · rw [if_pos s, show w = (g : Int) * m by rw [← Int.natCast_mul, ← hw]; omega, Int.mul_tdiv_cancel_left _ (by omega)]
      · rw [if_neg s, show w = (g : Int) * (-(m : Int)) by rw [Int.mul_neg, ← Int.natCast_mul, ← hw]; omega, Int.mul_tdiv_cancel_left _ (by omega)]
    rw [key (ggI u d) _ hg (by split <;> omega), key (ggI u' d') _ hg' (by split <;> omega)]
    by_cases m0 : m = 0
    · subst m0; simp
    have u0 : u ≠ 0 := fun e => by
      rw [e] at em
      have : 0 < ggI 0 d * m := Nat.mul_pos (by rw [e] at hg; exact hg) (by omega)
      rw [← em] at this
      exact absurd this (by decide)
    have u0' : u' ≠ 0 := fun e => by
      rw [e] at em'
      have : 0 < ggI 0 d' * m := Nat.mul_pos (by rw [e] at hg'; exact hg') (by omega)
      rw [← em'] at this
      exact absurd this (by decide)
    have sg : (0 < u * d') ↔ (0 < u' * d) := by rw [h]
    have s1 : ∀ a b : Int, a ≠ 0 → b ≠ 0 → (0 < a * b ↔ ((0 < a ∧ 0 < b) ∨ (a < 0 ∧ b < 0))) := by
      intro a b ha hb
      constructor
      · intro x
        rcases Int.lt_or_gt_of_ne ha with p1 | p1 <;> rcases Int.lt_or_gt_of_ne hb with p2 | p2
        · exact Or.inr ⟨p1, p2⟩
        · have := Int.mul_neg_of_neg_of_pos p1 p2; omega
        · have := Int.mul_neg_of_pos_of_neg p1 p2; omega
        · exact Or.inl ⟨p1, p2⟩
      · rintro (⟨p1, p2⟩ | ⟨p1, p2⟩)
        · exact Int.mul_pos p1 p2
        · exact Int.mul_pos_of_neg_of_neg p1 p2
    rw [s1 u d' u0 h0', s1 u' d u0' h0] at sg
    have fin : (0 ≤ (if 0 ≤ d then u else -u)) ↔ (0 ≤ (if 0 ≤ d' then u' else -u')) := by
      by_cases a : 0 ≤ d <;> by_cases b : 0 ≤ d' <;> simp only [a, b, if_true, if_false] <;> omega
    by_cases w : 0 ≤ (if 0 ≤ d then u else -u)
    · rw [if_pos w, if_pos (fin.mp w)]
    · rw [if_neg w, if_neg (fun y => w (fin.mpr y))]
  · rw [if_neg z, if_neg z, ek, ek', Int.natCast_mul, Int.natCast_mul, Int.mul_tdiv_cancel_left _ gI, Int.mul_tdiv_cancel_left _ gI']
end GCD
