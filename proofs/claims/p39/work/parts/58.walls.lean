section WALLSC
theorem and31 (x : Int32) : ∃ a, a < 2147483648 ∧ x &&& 2147483647 = nI a := by
  refine ⟨(x.toBitVec &&& 2147483647#32).toNat, ?_, ?_⟩
  · rw [BitVec.toNat_and]
    exact Nat.lt_of_le_of_lt Nat.and_le_right (by decide)
  · refine Int32.toBitVec_inj.mp ?_
    show x.toBitVec &&& 2147483647#32 = BitVec.ofNat 32 _
    rw [BitVec.ofNat_toNat, BitVec.setWidth_eq]
theorem pick_ok (v : Int32) {m : Nat} (h0 : 0 < m) (hm : m < 2147483648) : ∃ r, r < m ∧ f_L_pick v (nI m) = some (nI r) := by
  obtain ⟨a, ha, e⟩ := and31 v
  refine ⟨a % m, Nat.mod_lt _ h0, ?_⟩
  unfold f_L_pick
  rw [show (nI m != 0) = true by simpa using (fun z => by have := (nI_eq (b := 0) (a := m) (by omega) (by decide)).mp z; omega), gd_t, e, pk_rem (by omega) h0 (by omega)]
theorem cell_ok {sc : Nat × (Nat → Int32)} (hs : sc.1 ≤ 260) (k : Nat) (hk : k < 1000) : ∃ v, f_L_cell sc (nI k) = some v := by
  unfold f_L_cell
  by_cases c : sc.1 ≤ k
  · rw [if_pos (show Int32.ofNat sc.1 ≤ nI k from le_nIn c (by omega))]
    exact ⟨_, rfl⟩
  · rw [if_neg (show ¬ Int32.ofNat sc.1 ≤ nI k from nle (by omega) (by omega)), inbN (by omega) (by omega), gd_t]
    exact ⟨_, rfl⟩
/-- in how many ways -/
def wy (n k : Nat) : Int64 := (f_X4_ways (nI n) (nI k)).getD 0
theorem wy_some : ∀ n, n < 17 → ∀ k, k < n + 1 → (f_X4_ways (nI n) (nI k)).isSome = true := by decide +kernel
theorem wy_ok {n k : Nat} (hn : n ≤ 16) (hk : k ≤ n) : f_X4_ways (nI n) (nI k) = some (wy n k) := by
  have := wy_some n (by omega) k (by omega)
  unfold wy
  cases e : f_X4_ways (nI n) (nI k) with
  | none => rw [e] at this; cases this
  | some v => rfl
theorem wy_0 : ∀ n, n < 17 → wy n 0 = 1 := by decide +kernel
theorem wy_n : ∀ n, n < 17 → wy n n = 1 := by decide +kernel
theorem wy_p : ∀ n, n < 16 → ∀ k, k < n → wy (n + 1) (k + 1) = wy n k + wy n (k + 1) := by decide +kernel
def wsum (row : Nat → Int32) (d i : Nat) : Nat → Int64
  | 0 => 0
  | k + 1 => wsum row d i k + (if k ≤ i then (row k).toInt64 * wy (d - k) (i - k) else 0)
theorem wsum_s (row : Nat → Int32) (d i k : Nat) : wsum row d i (k + 1) = wsum row d i k + (if k ≤ i then (row k).toInt64 * wy (d - k) (i - k) else 0) := rfl
theorem wsum_up (row : Nat → Int32) (d i : Nat) : ∀ m, wsum row d i (i + 1 + m) = wsum row d i (i + 1)
  | 0 => rfl
  | m + 1 => by rw [show i + 1 + (m + 1) = i + 1 + m + 1 by omega, wsum_s, wsum_up row d i m, if_neg (by omega), Int64.add_zero]
/-- a list -/
def Ls (h : pq_H) (s : Nat) (row : Nat → Int32) : Prop := s ≤ 9 ∧ rI h 81 0 = nI s ∧ ∀ i, i < s → rI h 52 i = row i
theorem wall_c {h : pq_H} {s d i : Nat} {row : Nat → Int32} (L : Ls h s row) (hd : d ≤ 16) (hi : i ≤ d) : f_X4_wall 0 (nI d) (nI i) h = some (wsum row d i s) := by
  obtain ⟨l1, l2, l3⟩ := L
  refine ok_eq ?_
  unfold f_X4_wall
  refine lp_gen (fun (w : Int64 → Int32 → Option Int64) (x : Int64 × Int32) => w x.1 x.2) (fun k x => x.2 = nI k ∧ x.1 = wsum row d i k ∧ k ≤ s ∧ k ≤ i + 1) (if s ≤ i + 1 then s else i + 1) ?_ ?_ 1000 0 (0, 0) (by omega) (by split <;> omega) ⟨rfl, rfl, by omega, by omega⟩
  · intro k x w hk hI hw
    obtain ⟨v, c⟩ := x
    obtain ⟨e1, e2, e3, e4⟩ := hI
    simp only at e1 e2
    subst e1 e2
    have hks : k < s := by split at hk <;> omega
    have hki : k ≤ i := by split at hk <;> omega
    show ok (f_X4_wall_l6 0 (nI d) (nI i) h w (wsum row d i k) (nI k)) _
    unfold f_X4_wall_l6
    rw [show inb 0 3 = true from inbN (i := 0) (by decide) (by decide), show (0 : Int32).toNatClampNeg = 0 from rfl, gd_t, gd_t, l2, if_neg (nle hks (by omega)), if_neg (nI_nlt hki (by omega)), inbN (show k < 40 by omega) (by decide), gd_t, pk_sub (by omega), pk_sub (by omega), wy_ok (by omega) (by omega), Option.bind_some, nI_clamp (by omega), l3 k hks, nI_1]
    exact hw (_, _) ⟨rfl, by rw [wsum_s, if_pos hki], by omega, by omega⟩
  · intro x w hI
    obtain ⟨v, c⟩ := x
    obtain ⟨e1, e2, e3, e4⟩ := hI
    simp only at e1 e2
    subst e1 e2
    show ok (f_X4_wall_l6 0 (nI d) (nI i) h w (wsum row d i _) (nI _)) _
    unfold f_X4_wall_l6
    rw [show inb 0 3 = true from inbN (i := 0) (by decide) (by decide), show (0 : Int32).toNatClampNeg = 0 from rfl, gd_t, l2]
    by_cases c : s ≤ i + 1
    · rw [if_pos c, if_pos (le_nIn (Nat.le_refl _) (by omega))]
      exact ok_some rfl
    · rw [if_neg c, if_neg (nle (by omega) (by omega)), if_pos (nI_lt (by omega) (by omega))]
      refine ok_some ?_
      rw [show s = i + 1 + (s - (i + 1)) by omega, wsum_up]
theorem poly_c {h : pq_H} {s : Nat} {row : Nat → Int32} (L : Ls h s row) (hr : ∀ i, i < s → -1000000 ≤ row i ∧ row i ≤ 1000000) : f_X4_isPolynomial 0 h = some true := by
  obtain ⟨l1, l2, l3⟩ := L
  refine ok_eq ?_
  unfold f_X4_isPolynomial
  rw [show inb 0 3 = true from inbN (i := 0) (by decide) (by decide), gd_t, show (0 : Int32).toNatClampNeg = 0 from rfl, l2, if_pos (show nI s ≤ 9 from le_nIn (b := 9) l1 (by decide))]
  refine lp_forR (fun _ => True) s ?_ ?_ 1000 0 (by omega) (by omega) trivial
  · intro i w hi _ hw
    unfold f_X4_isPolynomial_l15
    rw [show inb 0 3 = true from inbN (i := 0) (by decide) (by decide), gd_t, gd_t, gd_t, show (0 : Int32).toNatClampNeg = 0 from rfl, l2, if_neg (nle hi (by omega)), inbN (show i < 40 by omega) (by decide), gd_t, gd_t, nI_clamp (by omega), l3 i hi, if_neg (Int32.not_lt.mpr (hr i hi).1), if_pos (hr i hi).2, nI_1]
    exact hw trivial
  · intro w _
    unfold f_X4_isPolynomial_l15
    rw [show inb 0 3 = true from inbN (i := 0) (by decide) (by decide), gd_t, show (0 : Int32).toNatClampNeg = 0 from rfl, l2, if_pos (le_nIn (Nat.le_refl _) (by omega))]
    exact ok_some rfl
theorem miss_c {h : pq_H} {s : Nat} {row : Nat → Int32} (L : Ls h s row) : f_X4_misses 0 h = some false := by
  unfold f_X4_misses
  rw [show inb 0 3 = true from inbN (i := 0) (by decide) (by decide), gd_t, show (0 : Int32).toNatClampNeg = 0 from rfl, L.2.1, if_pos (nI_pos' (by have := L.1; omega))]
theorem walls_q {h : pq_H} {s d i : Nat} {row : Nat → Int32} (L : Ls h s row) (hr : ∀ i, i < s → -1000000 ≤ row i ∧ row i ≤ 1000000) (h0 : 0 < s) (hs : s ≤ d + 1) (hd : d ≤ 16) (hi : i ≤ d) : f_X10_walls 0 (nI d) (nI i) h = some (wsum row d i s, h) := by
  unfold f_X10_walls
  rw [if_neg (show ¬ f_X10_notBelow 0 3 = true by decide), if_neg (nI_pos (by omega)), if_pos (nI_pos' (by omega)), if_neg (show ¬ (16 : Int32) < nI d from nI_nlt (a := 16) hd (by omega)), if_pos (le_nIn hi (by omega)), miss_c L, Option.bind_some, if_neg (by decide), poly_c L hr, Option.bind_some, if_pos rfl, show inb 0 3 = true from inbN (i := 0) (by decide) (by decide), gd_t, show (0 : Int32).toNatClampNeg = 0 from rfl, L.2.1, i1, pk_sub (by omega), if_pos (le_nIn (by omega) (by omega)), wall_c L hd hi, Option.bind_some]
theorem look_q {h : pq_H} {s : Nat} {row : Nat → Int32} (L : Ls h s row) (h0 : 0 < s) : f_X10_look 0 0 h = some ((row 0).toInt64, h) := by
  unfold f_X10_look
  rw [if_neg (show ¬ f_X10_notBelow 0 3 = true by decide), miss_c L, Option.bind_some, if_neg (by decide), show inb 0 3 = true from inbN (i := 0) (by decide) (by decide), gd_t, gd_t, show (0 : Int32).toNatClampNeg = 0 from rfl, L.2.1, if_neg (Bf (show f_X10_notBelow 0 (nI s) = false from nb_no (j := 0) h0 (by have := L.1; omega))), show inb 0 40 = true from inbN (i := 0) (by decide) (by decide), gd_t, L.2.2 0 h0]
theorem clearC_ok {h : pq_H} {s d : Nat} {row : Nat → Int32} (L : Ls h s row) (hd : d ≤ 16) (q : Int32) : ok (f_X4_wallsClear 0 (nI d) q h) (fun r => r = true → f_X10_fails (wsum row d d s) q = false) := by
  unfold f_X4_wallsClear
  refine lp_forR (fun i => ∀ j, j < i → f_X10_fails (wsum row d j s) q = false) (d + 1) ?_ ?_ 1000 0 (by omega) (by omega) (fun j hj => by omega)
  · intro i w hi hI hw
    unfold f_X4_wallsClear_l3
    rw [if_neg (nI_nlt (by omega) (by omega)), wall_c L hd (by omega), Option.bind_some, nI_1]
    refine ok_ite (fun _ => ok_some (fun z => by cases z)) (fun z => hw (fun j hj => ?_))
    by_cases e : j = i
    · subst e; exact Bool.eq_false_iff.mpr z
    · exact hI j (by omega)
  · intro w hI
    unfold f_X4_wallsClear_l3
    rw [if_pos (nI_lt (by omega) (by omega))]
    exact ok_some (fun _ => hI d (by omega))
theorem wleast_q {h : pq_H} {s q : Nat} {row : Nat → Int32} (L : Ls h s row) (hr : ∀ i, i < s → -1000000 ≤ row i ∧ row i ≤ 1000000) (h0 : 0 < s) (hq : q < 2) : ok (f_X10_wallsLeast 0 (nI q) h) (fun r => r.2 = h ∧ ((r.1 = -9) ∨ ∃ d, s ≤ d + 1 ∧ d ≤ 16 ∧ r.1 = nI d ∧ f_X10_fails (wsum row d d s) (nI q) = false)) := by
  have l1 := L.1
  unfold f_X10_wallsLeast
  rw [if_neg (show ¬ f_X10_notBelow 0 3 = true by decide), if_neg (Bf (sort_no hq)), miss_c L, Option.bind_some, if_neg (by decide), poly_c L hr, Option.bind_some, if_pos rfl, show inb 0 3 = true from inbN (i := 0) (by decide) (by decide), gd_t, show (0 : Int32).toNatClampNeg = 0 from rfl, L.2.1, i1, pk_sub (by omega)]
  have e : (if 0 < nI (s - 1) then nI (s - 1) else 0) = nI (s - 1) := by
    by_cases c : s = 1
    · subst c; rfl
    · rw [if_pos (show (0 : Int32) < nI (s - 1) from nI_lt (a := 0) (by omega) (by omega))]
  rw [e]
  refine lp_forR (fun i => s ≤ i + 1) 17 ?_ ?_ 1000 (s - 1) (by omega) (by omega) (by omega)
  · intro i w hi hI hw
    unfold f_X10_wallsLeast_l77
    rw [if_neg (show ¬ (16 : Int32) < nI i from nI_nlt (a := 16) (by omega) (by omega))]
    refine ok_bind (clearC_ok L (show i ≤ 16 by omega) (nI q)) (fun r hr => ?_)
    rw [nI_1]
    exact ok_ite (fun z => ok_some ⟨rfl, Or.inr ⟨i, hI, by omega, rfl, hr z⟩⟩) (fun _ => hw (by omega))
  · intro w _
    unfold f_X10_wallsLeast_l77
    rw [if_pos (by decide)]
    exact ok_some ⟨rfl, Or.inl rfl⟩
/-- truths of walls -/
def sumR (row : Nat → Int32) : Nat → Int64
  | 0 => 0
  | k + 1 => sumR row k + (row k).toInt64
theorem wsum_first (row : Nat → Int32) {d : Nat} (hd : d ≤ 16) (m : Nat) : wsum row d 0 (m + 1) = (row 0).toInt64 := by
  rw [show m + 1 = 0 + 1 + m by omega, wsum_up, wsum_s, if_pos (by omega), Nat.sub_zero, wy_0 d (by omega)]
  show 0 + (row 0).toInt64 * 1 = _
  rw [Int64.zero_add, Int64.mul_one]
theorem wsum_last (row : Nat → Int32) {d : Nat} (hd : d ≤ 16) : ∀ m, m ≤ d + 1 → wsum row d d m = sumR row m
  | 0, _ => rfl
  | m + 1, h => by
    rw [wsum_s, wsum_last row hd m (by omega), if_pos (by omega), wy_n _ (by omega), Int64.mul_one]
    rfl
theorem wsum_pas (row : Nat → Int32) {d i : Nat} (hd : d < 16) (h1 : 1 ≤ i) (hi : i ≤ d) : ∀ m, m ≤ d + 1 → wsum row (d + 1) i m = wsum row d (i - 1) m + wsum row d i m
  | 0, _ => rfl
  | m + 1, h => by
    rw [wsum_s, wsum_s, wsum_s, wsum_pas row hd h1 hi m (by omega)]
    by_cases c : m ≤ i - 1
    · rw [if_pos (show m ≤ i by omega), if_pos c, if_pos (show m ≤ i by omega), show d + 1 - m = (d - m) + 1 by omega, show i - m = (i - 1 - m) + 1 by omega, wy_p (d - m) (by omega) (i - 1 - m) (by omega)]
      grind
    · by_cases c2 : m = i
      · subst c2
        rw [if_pos (Nat.le_refl _), if_neg c, if_pos (Nat.le_refl _), Nat.sub_self, wy_0 _ (by omega), wy_0 _ (by omega)]
        grind
      · rw [if_neg (by omega), if_neg c, if_neg (by omega)]
        grind
/-- only the lists are written -/
def FW (h h' : pq_H) : Prop := ∀ p k, p ≠ 52 → p ≠ 81 → rI h' p k = rI h p k
theorem FW.tr {a b c : pq_H} (x : FW a b) (y : FW b c) : FW a c := fun p k h1 h2 => (y p k h1 h2).trans (x p k h1 h2)
theorem FW.rf (a : pq_H) : FW a a := fun _ _ _ _ => rfl
theorem FW.kx {a b : pq_H} (x : FW a b) : Kx a b := ⟨fun p hp k => x p k (by omega) (by omega), x _ _ (by omega) (by omega), x _ _ (by omega) (by omega), x _ _ (by omega) (by omega)⟩
theorem St.fw {h h' : pq_H} {n : Nat} {Fs : Nat → pF} (S : St h n Fs) (x : FW h h') : St h' n Fs := by
  have h6 := S.1
  exact ⟨h6, (x _ _ (by omega) (by omega)).trans S.2.1, fun f hf => ⟨(S.2.2 f hf).1.fr (fun k => x _ _ (by omega) (by omega)) (fun k => x _ _ (by omega) (by omega)), (S.2.2 f hf).2⟩⟩
theorem list_q {h : pq_H} {s : Nat} (hs : s ≤ 9) : ok (f_X10_list 0 (nI s) h) (fun r => r.1 = 1 ∧ FW h r.2 ∧ Ls r.2 s (fun _ => 0)) := by
  unfold f_X10_list
  rw [if_neg (show ¬ f_X10_notBelow 0 3 = true by decide), if_pos (show nI s ≤ 40 from le_nIn (b := 40) (by omega) (by decide)), if_pos (nI_pos' (by omega))]
  refine ok_bind (renew_ok 0 s (by decide) (by omega) h) (fun h' ⟨a1, a2, a3, _⟩ => ?_)
  exact ok_some ⟨rfl, fun p k h1 h2 => a1 p k (by omega) (by omega), hs, a2, fun i hi => a3 i hi⟩
theorem put_q {h : pq_H} {s i : Nat} {row : Nat → Int32} (L : Ls h s row) (hi : i < s) (v : Int32) : ok (f_X10_put 0 (nI i) v h) (fun r => r.1 = 1 ∧ FW h r.2 ∧ Ls r.2 s (fun k => if k = i then v else row k)) := by
  have l1 := L.1
  unfold f_X10_put
  rw [if_neg (show ¬ f_X10_notBelow 0 3 = true by decide), miss_c L, Option.bind_some, if_neg (by decide), show inb 0 3 = true from inbN (i := 0) (by decide) (by decide), gd_t, gd_t, show (0 : Int32).toNatClampNeg = 0 from rfl, L.2.1, if_neg (Bf (nb_no hi (by omega))), inbN (show i < 40 by omega) (by decide), gd_t, nI_clamp (by omega)]
  refine ok_some ⟨rfl, fun p k h1 h2 => rI_ne (by omega), l1, (rI_ne (by omega)).trans L.2.1, fun k hk => ?_⟩
  show rI (wI h (52 + 0) i v) 52 k = if k = i then v else row k
  by_cases e : k = i
  · subst e; rw [if_pos rfl]; exact rI_same _ _ _ _
  · rw [if_neg e]; exact (rI_ne (by omega)).trans (L.2.2 k hk)
end WALLSC
