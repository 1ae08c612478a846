section WALLS
variable {hC hM : pq_H}
def allB (p : Nat → Bool) : Nat → Bool
  | 0 => true
  | n + 1 => allB p n && p n
theorem allB_s (p : Nat → Bool) (n : Nat) : allB p (n + 1) = (allB p n && p n) := rfl
theorem allB_f {p : Nat → Bool} {i n : Nat} (h : i < n) (hp : p i = false) : allB p n = false := by
  induction n with
  | zero => omega
  | succ n ih =>
    rw [allB_s]
    by_cases e : i = n
    · subst e; rw [hp, Bool.and_false]
    · rw [ih (by omega), Bool.false_and]
theorem allB_t {p : Nat → Bool} {n : Nat} (h : allB p n = true) {i : Nat} (hi : i < n) : p i = true := by
  cases e : p i with
  | true => rfl
  | false => rw [allB_f hi e] at h; cases h
theorem ways_eq : ∀ n, n < 17 → ∀ k, k < n + 1 → (f_X4_ways (nI n) (nI k)).isSome = true ∧ f_X11_ways (nI n) (nI k) = f_X4_ways (nI n) (nI k) := by decide +kernel
theorem ways_ok {n k : Nat} (hn : n ≤ 16) (hk : k ≤ n) : ∃ v, f_X4_ways (nI n) (nI k) = some v ∧ f_X11_ways (nI n) (nI k) = some v := by
  obtain ⟨a, b⟩ := ways_eq n (by omega) k (by omega)
  obtain ⟨v, e⟩ := Option.isSome_iff_exists.mp a
  exact ⟨v, e, b.trans e⟩
def LST (hC hM : pq_H) (l s : Nat) : Prop := l < 3 ∧ s ≤ 40 ∧ rI hC 81 l = nI s ∧ rI hM 20 l = nI s ∧ ∀ i, i < s → rI hM 21 (40 * l + i) = rI hC (52 + l) i
theorem wall2_ok {l s d i : Nat} (L : LST hC hM l s) (hd : d ≤ 16) (hi : i ≤ d) : ∃ v, f_X4_wall (nI l) (nI d) (nI i) hC = some v ∧ f_X11_wallOf (nI l) (nI d) (nI i) hM = some v := by
  obtain ⟨hl, hs, a1, a2, a3⟩ := L
  have key := lp_gen2 (z1 := fun _ _ => none) (z2 := fun _ _ => none) (f1 := f_X4_wall_l6 (nI l) (nI d) (nI i) hC) (f2 := f_X11_wallOf_l6 (nI l) (nI d) (nI i) hM) (Q := fun (x y : Int64) => x = y) (fun (w : Int64 → Int32 → Option Int64) (s : Int64 × Int32) => w s.1 s.2) (fun (w : Int64 → Int32 → Option Int64) (s : Int64 × Int32) => w s.1 s.2) (fun i s1 s2 => s1 = s2 ∧ s1.2 = nI i) 40 ?_ ?_ 1000 0 (0, 0) (0, 0) (by omega) (by omega) ⟨rfl, rfl⟩
  · obtain ⟨a, b, e1, e2, e3⟩ := key
    subst e3
    exact ⟨a, e1, e2⟩
  · intro k s1 s2 w1 w2 hk hI hw
    obtain ⟨rfl, e⟩ := hI
    obtain ⟨v, c⟩ := s1
    simp only at e
    subst e
    show ok2 (f_X4_wall_l6 (nI l) (nI d) (nI i) hC w1 v (nI k)) (f_X11_wallOf_l6 (nI l) (nI d) (nI i) hM w2 v (nI k)) _
    unfold f_X4_wall_l6 f_X11_wallOf_l6
    rw [inbN hl (by decide), nI_clamp (by omega), a1, a2]
    simp only [gd_t]
    by_cases q1 : s ≤ k
    · rw [if_pos (le_nIn q1 (by omega)), if_pos (le_nIn q1 (by omega))]
      exact ok2_some rfl
    rw [if_neg (nI_ge (by omega) (by omega)), if_neg (nI_ge (by omega) (by omega))]
    by_cases q2 : i < k
    · rw [if_pos (nI_lt q2 (by omega)), if_pos (nI_lt q2 (by omega))]
      exact ok2_some rfl
    rw [if_neg (nI_nlt (by omega) (by omega)), if_neg (nI_nlt (by omega) (by omega)), inbN hk (by decide), show (40 : Int32) = nI 40 from rfl, pk_mul, nI_add, inbN (show 40 * l + k < 120 by omega) (by decide), pk_sub (by omega), pk_sub (by omega)]
    obtain ⟨u, e1, e2⟩ := ways_ok (n := d - k) (k := i - k) (by omega) (by omega)
    rw [e1, e2, Option.bind_some, Option.bind_some, nI_clamp (by omega), nI_clamp (by omega), a3 k (by omega), nI_1]
    exact hw (_, _) (_, _) ⟨rfl, rfl⟩
  · intro s1 s2 w1 w2 hI
    obtain ⟨rfl, e⟩ := hI
    obtain ⟨v, c⟩ := s1
    simp only at e
    subst e
    show ok2 (f_X4_wall_l6 (nI l) (nI d) (nI i) hC w1 v (nI 40)) (f_X11_wallOf_l6 (nI l) (nI d) (nI i) hM w2 v (nI 40)) _
    unfold f_X4_wall_l6 f_X11_wallOf_l6
    rw [inbN hl (by decide), nI_clamp (by omega), a1, a2, gd_t, gd_t, if_pos (le_nIn hs (by omega)), if_pos (le_nIn hs (by omega))]
    exact ok2_some rfl
def inR (x : Int32) : Bool := f_X11_isIn x (-1000000) 1000000
theorem poly_ok {l s : Nat} (L : LST hC hM l s) : ∃ b, f_X4_isPolynomial (nI l) hC = some b ∧ f_X11_isTold (nI l) hM = some b ∧ (b = true → s ≤ 9) := by
  obtain ⟨hl, hs, a1, a2, a3⟩ := L
  unfold f_X4_isPolynomial f_X11_isTold f_X11_isTold_j16
  rw [inbN hl (by decide), nI_clamp (by omega), a1, a2, gd_t, gd_t]
  have M : ∀ b : Bool, (b = false → False) → ok (lp (fun _ _ => none) (f_X11_isTold_l19 (nI l) hM) 1000 b 0) (fun r => r = allB (fun i => inR (rI hC (52 + l) i)) s) := by
    intro b hb
    refine lp_gen (fun (w : Bool → Int32 → Option Bool) (s : Bool × Int32) => w s.1 s.2) (fun i (x : Bool × Int32) => (x.1 = true → x.2 = nI i ∧ allB (fun i => inR (rI hC (52 + l) i)) i = true) ∧ (x.1 = false → allB (fun i => inR (rI hC (52 + l) i)) s = false)) s ?_ ?_ 1000 0 (b, 0) (by omega) (by omega) ⟨fun _ => ⟨rfl, rfl⟩, fun z => (hb z).elim⟩
    · intro i x w hi hI hw
      obtain ⟨f, c⟩ := x
      obtain ⟨h1, h2⟩ := hI
      show ok (f_X11_isTold_l19 (nI l) hM w f c) _
      unfold f_X11_isTold_l19
      cases f with
      | false =>
        rw [if_neg (by decide)]
        exact ok_some (h2 rfl).symm
      | true =>
        obtain ⟨e, h3⟩ := h1 rfl
        simp only at e
        subst e
        rw [if_pos rfl, inbN hl (by decide), gd_t, nI_clamp (by omega), a2, if_neg (nI_ge hi (by omega)), show (40 : Int32) = nI 40 from rfl, pk_mul, nI_add, inbN (show 40 * l + i < 120 by omega) (by decide), gd_t, nI_clamp (by omega), a3 i hi, nI_1]
        refine hw (_, _) ⟨fun z => ⟨rfl, ?_⟩, fun z => allB_f hi z⟩
        rw [allB_s, h3]
        exact z
    · intro x w hI
      obtain ⟨f, c⟩ := x
      obtain ⟨h1, h2⟩ := hI
      show ok (f_X11_isTold_l19 (nI l) hM w f c) _
      unfold f_X11_isTold_l19
      cases f with
      | false =>
        rw [if_neg (by decide)]
        exact ok_some (h2 rfl).symm
      | true =>
        obtain ⟨e, h3⟩ := h1 rfl
        simp only at e
        subst e
        rw [if_pos rfl, inbN hl (by decide), gd_t, nI_clamp (by omega), a2, if_pos (le_nIn (Nat.le_refl _) (by omega))]
        exact ok_some h3.symm
  by_cases q : s ≤ 9
  · rw [if_pos (show nI s ≤ 9 from le_nIn (b := 9) q (by omega)), if_neg (show ¬ (9 : Int32) < nI s from nI_nlt (a := 9) q (by omega))]
    refine ⟨allB (fun i => inR (rI hC (52 + l) i)) s, ok_eq ?_, ok_eq (M true (by decide)), fun _ => q⟩
    refine lp_forR (fun i => allB (fun i => inR (rI hC (52 + l) i)) i = true) s ?_ ?_ 1000 0 (by omega) (by omega) rfl
    · intro i w hi hI hw
      unfold f_X4_isPolynomial_l15
      rw [inbN hl (by decide), nI_clamp (by omega), a1, inbN (show i < 40 by omega) (by decide), nI_clamp (by omega)]
      simp only [gd_t]
      rw [if_neg (nI_ge hi (by omega)), nI_1]
      have eR : inR (rI hC (52 + l) i) = if rI hC (52 + l) i < -1000000 then false else if 1000000 < rI hC (52 + l) i then false else true := rfl
      by_cases q1 : rI hC (52 + l) i < -1000000
      · rw [if_pos q1]
        exact ok_some (allB_f hi (by rw [eR, if_pos q1])).symm
      rw [if_neg q1]
      by_cases q2 : rI hC (52 + l) i ≤ 1000000
      · rw [if_pos q2]
        refine hw ?_
        rw [allB_s, hI, eR, if_neg q1, if_neg (Int32.not_lt.mpr q2)]
        rfl
      · rw [if_neg q2]
        exact ok_some (allB_f hi (by rw [eR, if_neg q1, if_pos (Int32.not_le.mp q2)])).symm
    · intro w hI
      unfold f_X4_isPolynomial_l15
      rw [inbN hl (by decide), nI_clamp (by omega), a1, gd_t, if_pos (le_nIn (Nat.le_refl _) (by omega))]
      exact ok_some hI.symm
  · rw [if_neg (show ¬ nI s ≤ 9 from nI_ge (a := 9) (by omega) (by omega)), if_pos (show (9 : Int32) < nI s from nI_lt (a := 9) (by omega) (by omega))]
    exact ⟨false, rfl, rfl, fun z => by cases z⟩
theorem far11 (h : pq_H) : f_X10_refuseFar (-11) h = some (4000000000000000011, h) := by
  have e : (4000000000000000000 : Int64) - (-11 : Int32).toInt64 = 4000000000000000011 := by decide +kernel
  unfold f_X10_refuseFar f_X10_refuse
  rw [if_neg (by decide), if_pos (by decide), bd2_some, e]
theorem neg_pos {x : Int32} (h : ¬ x < 0) : 0 ≤ x := Int32.not_lt.mp h
theorem a_walls : Ag_walls Inv := by
  intro hC hM p1 p2 p3 i
  unfold f_X10_walls f_X11_walls f_X10_walls_j22 f_X10_walls_j40 f_X10_walls_j91 f_X11_walls_j19 f_X11_walls_j35 f_X11_walls_j41 f_X11_walls_j88
  simp only [bd2_id, bind_id]
  rcases list_cases p1 with ⟨a, b⟩ | ⟨l, hl, rfl, a, b⟩
  · rw [if_pos a, if_neg (Bf b), if_neg (by decide)]
    exact ag_low 1 rfl (by decide) (by decide) i
  rw [if_neg (Bf a), if_pos b]
  by_cases q1 : p2 < 0
  · rw [if_pos q1, if_pos q1, if_neg (by decide)]
    exact ag_low 4 rfl (by decide) (by decide) i
  rw [if_neg q1, if_neg q1]
  by_cases q2 : 0 ≤ p3
  case neg =>
    rw [if_neg q2, if_neg q2, if_neg (by decide)]
    exact ag_low 4 rfl (by decide) (by decide) i
  rw [if_pos q2, if_pos q2]
  by_cases q3 : 16 < p2
  · rw [if_pos q3, if_pos q3, if_neg (by decide)]
    exact ag_low 6 rfl (by decide) (by decide) i
  rw [if_neg q3, if_neg q3]
  by_cases q4 : p3 ≤ p2
  case neg =>
    rw [if_neg q4, if_neg q4, if_neg (by decide)]
    exact ag_low 6 rfl (by decide) (by decide) i
  rw [if_pos q4, if_pos q4]
  obtain ⟨d, hd, rfl⟩ := nI_of2 (M := 16) (n := 16) rfl q1 (Int32.not_lt.mp q3)
  obtain ⟨c, hc, rfl⟩ := nI_of2 (M := nI d) (n := d) (nI_toInt (by omega)) (Int32.not_lt.mpr q2) q4
  obtain ⟨n, i1, i2, i3, i4, i5, i6, i7⟩ := id i
  rw [inbN hl (by decide), nI_clamp (by omega)]
  simp only [gd_t, if_true]
  rcases miss_cases i5 hl with ⟨a, b⟩ | ⟨a, b, s, h0, h1, h2, h3⟩
  · rw [a, if_neg b, Option.bind_some, if_pos rfl, far11]
    exact ag_c _ hC hM rfl rfl i
  have L : LST hC hM l s := ⟨hl, h0, h1, h2, h3⟩
  rw [a, if_pos b, Option.bind_some, if_neg (by decide)]
  obtain ⟨pb, e1, e2, e3⟩ := poly_ok L
  rw [e1, e2, Option.bind_some, Option.bind_some]
  cases pb with
  | false =>
    rw [if_neg (by decide), if_neg (by decide)]
    exact ag_low 3 rfl (by decide) (by decide) i
  | true =>
    rw [if_pos rfl, if_pos rfl, h1, h2]
    by_cases q5 : nI s - 1 ≤ nI d
    case neg =>
      rw [if_neg q5, if_neg q5]
      exact ag_low 3 rfl (by decide) (by decide) i
    rw [if_pos q5, if_pos q5]
    obtain ⟨v, w1, w2⟩ := wall2_ok L hd hc
    rw [w1, w2]
    exact ag_c _ hC hM rfl rfl i
def wlV (hC : pq_H) (l d i : Nat) : Int64 := (f_X4_wall (nI l) (nI d) (nI i) hC).getD 0
theorem wlV_ok {l s d i : Nat} (L : LST hC hM l s) (hd : d ≤ 16) (hi : i ≤ d) : f_X4_wall (nI l) (nI d) (nI i) hC = some (wlV hC l d i) ∧ f_X11_wallOf (nI l) (nI d) (nI i) hM = some (wlV hC l d i) := by
  obtain ⟨v, e1, e2⟩ := wall2_ok L hd hi
  have e : wlV hC l d i = v := by unfold wlV; rw [e1]; rfl
  rw [e]
  exact ⟨e1, e2⟩
def clrW (hC : pq_H) (l : Nat) (p : Int32) (d : Nat) : Bool := allB (fun i => !f_X10_fails (wlV hC l d i) p) (d + 1)
theorem clear_ok {l s d : Nat} (L : LST hC hM l s) (hd : d ≤ 16) (p : Int32) : f_X4_wallsClear (nI l) (nI d) p hC = some (clrW hC l p d) := by
  refine ok_eq ?_
  unfold f_X4_wallsClear
  refine lp_forR (fun i => allB (fun i => !f_X10_fails (wlV hC l d i) p) i = true) (d + 1) ?_ ?_ 1000 0 (by omega) (by omega) rfl
  · intro i w hi hI hw
    unfold f_X4_wallsClear_l3
    rw [if_neg (nI_nlt (by omega) (by omega)), (wlV_ok L hd (by omega)).1, Option.bind_some, nI_1]
    by_cases q : f_X10_fails (wlV hC l d i) p = true
    · rw [if_pos q]
      exact ok_some (allB_f hi (by rw [q]; rfl)).symm
    · rw [if_neg q]
      refine hw ?_
      rw [allB_s, hI, Bool.eq_false_iff.mpr q]
      rfl
  · intro w hI
    unfold f_X4_wallsClear_l3
    rw [if_pos (nI_lt (by omega) (by omega))]
    exact ok_some hI.symm
theorem in107_ok {l s d : Nat} {β : Type} (L : LST hC hM l s) (hd : d ≤ 16) (p : Int32) (w89 : Int32 → Bool → Option (Int32 × pq_H)) {Q : Int32 × pq_H → Prop} (hw : ok (w89 (nI (d + 1)) (clrW hC l p d)) Q) : ok (lp (fun _ _ => none) (f_X11_wallsLeast_l107 (nI l) p hM w89 (nI d)) 1000 true 0) Q := by
  refine lp_forA (fun i x => x = allB (fun i => !f_X10_fails (wlV hC l d i) p) i) (d + 1) ?_ ?_ 1000 0 true (by omega) (by omega) rfl
  · intro i x w hi hI hw2
    subst hI
    unfold f_X11_wallsLeast_l107 f_X11_wallsLeast_j161
    rw [if_neg (nI_nlt (by omega) (by omega)), (wlV_ok L hd (by omega)).2, nI_1]
    simp only [Option.bind_some]
    have e0 : f_X10_fails (wlV hC l d i) p = if p = 0 then (if 0 ≤ wlV hC l d i then false else true) else (if 0 < wlV hC l d i then false else true) := rfl
    by_cases hp : p = 0
    · rw [if_pos hp]
      by_cases q : wlV hC l d i < 0
      · rw [if_pos q]
        refine hw2 _ ?_
        rw [allB_s, e0, if_pos hp, if_neg (Int64.not_le.mpr q)]
        rfl
      · rw [if_neg q]
        refine hw2 _ ?_
        rw [allB_s, e0, if_pos hp, if_pos (Int64.not_lt.mp q)]
        rfl
    · rw [if_neg hp]
      by_cases q : wlV hC l d i ≤ 0
      · rw [if_pos q]
        refine hw2 _ ?_
        rw [allB_s, e0, if_neg hp, if_neg (Int64.not_lt.mpr q)]
        rfl
      · rw [if_neg q]
        refine hw2 _ ?_
        rw [allB_s, e0, if_neg hp, if_pos (Int64.not_le.mp q)]
        rfl
  · intro x w hI
    subst hI
    unfold f_X11_wallsLeast_l107 f_X11_wallsLeast_j170
    rw [if_pos (nI_lt (by omega) (by omega)), nI_1]
    exact hw
/-- the first degree by which the walls are clear, from d0 on -/
def fstD (g : Nat → Bool) (d0 : Nat) (r : Int32) : Prop := (∃ d, d0 ≤ d ∧ d ≤ 16 ∧ g d = true ∧ (∀ j, d0 ≤ j → j < d → g j = false) ∧ r = nI d) ∨ ((∀ d, d0 ≤ d → d ≤ 16 → g d = false) ∧ r = -9)
theorem fstD_eq {g : Nat → Bool} {d0 : Nat} {r r' : Int32} (h : fstD g d0 r) (h' : fstD g d0 r') : r = r' := by
  rcases h with ⟨d, a1, a2, a3, a4, a5⟩ | ⟨a1, a2⟩ <;> rcases h' with ⟨e, b1, b2, b3, b4, b5⟩ | ⟨b1, b2⟩
  · rcases Nat.lt_trichotomy d e with z | z | z
    · rw [b4 d a1 z] at a3; cases a3
    · subst z; rw [a5, b5]
    · rw [a4 e b1 z] at b3; cases b3
  · rw [b1 d a1 a2] at a3; cases a3
  · rw [a1 e b1 b2] at b3; cases b3
  · rw [a2, b2]
theorem a_wallsLeast : Ag_wallsLeast Inv := by
  intro hC hM p1 p2 i
  unfold f_X10_wallsLeast f_X11_wallsLeast f_X11_wallsLeast_j24
  simp only [bd2_id, bind_id]
  rcases list_cases p1 with ⟨a, b⟩ | ⟨l, hl, rfl, a, b⟩
  · rw [if_pos a, if_neg (Bf b), if_neg (by decide)]
    exact ag_no 1 rfl (by decide) (by decide) i
  rw [if_neg (Bf a), if_pos b]
  rcases nb_cases p2 2 (by decide) with ⟨a2, b2⟩ | ⟨k, hk, rfl, a2, b2⟩
  · rw [if_pos (show f_X10_notBelow p2 2 = true from a2), if_neg (show ¬ f_X11_isSort p2 = true from Bf b2), if_neg (by decide)]
    exact ag_no 2 rfl (by decide) (by decide) i
  rw [if_neg (show ¬ f_X10_notBelow (nI k) 2 = true from Bf a2), if_pos (show f_X11_isSort (nI k) = true from b2), inbN hl (by decide), nI_clamp (by omega)]
  obtain ⟨n, i1, i2, i3, i4, i5, i6, i7⟩ := id i
  simp only [gd_t, if_true]
  rcases miss_cases i5 hl with ⟨a, b⟩ | ⟨a, b, s, h0, h1, h2, h3⟩
  · rw [a, if_neg b, Option.bind_some, if_pos rfl]
    exact ag_c _ hC hM rfl rfl i
  have L : LST hC hM l s := ⟨hl, h0, h1, h2, h3⟩
  rw [a, if_pos b, Option.bind_some, if_neg (by decide)]
  obtain ⟨pb, e1, e2, e3⟩ := poly_ok L
  rw [e1, e2, Option.bind_some, Option.bind_some]
  cases pb with
  | false =>
    rw [if_neg (by decide), if_neg (by decide)]
    exact ag_no 3 rfl (by decide) (by decide) i
  | true =>
    rw [if_pos rfl, if_pos rfl, h1, h2]
    have hs9 := e3 rfl
    obtain ⟨d0, hd0, c1, c2⟩ : ∃ d0, d0 ≤ 9 ∧ (if 0 < nI s - 1 then nI s - 1 else 0) = nI d0 ∧ (if 1 ≤ nI s then f_X11_wallsLeast_j84 (nI l) (nI k) (nI s - 1) hM else f_X11_wallsLeast_j84 (nI l) (nI k) 0 hM) = f_X11_wallsLeast_j84 (nI l) (nI k) (nI d0) hM := by
      by_cases z : s = 0
      · subst z
        exact ⟨0, by omega, by rw [if_neg (by decide)]; rfl, by rw [if_neg (by decide)]; rfl⟩
      · have e : nI s - 1 = nI (s - 1) := by rw [show (1 : Int32) = nI 1 from rfl, pk_sub (by omega)]
        refine ⟨s - 1, by omega, ?_, ?_⟩
        · rw [e]
          by_cases z1 : s = 1
          · subst z1; rw [if_neg (by decide)]; rfl
          · rw [if_pos (show (0 : Int32) < nI (s - 1) from nI_lt (a := 0) (by omega) (by omega))]
        · rw [e, if_pos (show (1 : Int32) ≤ nI s from le_nIn (a := 1) (by omega) (by omega))]
    rw [c1, c2]
    have A : ok (lp (fun _ => none) (f_X10_wallsLeast_l77 (nI l) (nI k) hC) 1000 (nI d0)) (fun r => fstD (clrW hC l (nI k)) d0 r.1 ∧ r.2 = hC) := by
      refine lp_forR (fun i => d0 ≤ i ∧ ∀ j, d0 ≤ j → j < i → clrW hC l (nI k) j = false) 17 ?_ ?_ 1000 d0 (by omega) (by omega) ⟨Nat.le_refl _, fun j h1 h2 => by omega⟩
      · intro i w hi ⟨hi0, hI⟩ hw
        unfold f_X10_wallsLeast_l77
        rw [if_neg (show ¬ (16 : Int32) < nI i from nI_nlt (a := 16) (by omega) (by omega)), clear_ok L (by omega), Option.bind_some, nI_1]
        by_cases q : clrW hC l (nI k) i = true
        · rw [if_pos q]
          exact ok_some ⟨Or.inl ⟨i, hi0, by omega, q, hI, rfl⟩, rfl⟩
        · rw [if_neg q]
          refine hw ⟨by omega, fun j j1 j2 => ?_⟩
          by_cases e : j = i
          · subst e; exact Bool.eq_false_iff.mpr q
          · exact hI j j1 (by omega)
      · intro w ⟨_, hI⟩
        unfold f_X10_wallsLeast_l77
        rw [if_pos (show (16 : Int32) < nI 17 from nI_lt (a := 16) (by omega) (by omega))]
        exact ok_some ⟨Or.inr ⟨fun d j1 j2 => hI d j1 (by omega), rfl⟩, rfl⟩
    have B : ok (f_X11_wallsLeast_j84 (nI l) (nI k) (nI d0) hM) (fun r => fstD (clrW hC l (nI k)) d0 r.1 ∧ r.2 = hM) := by
      unfold f_X11_wallsLeast_j84
      refine lp_gen (fun (w : Int32 → Bool → Option (Int32 × pq_H)) (s : Int32 × Bool) => w s.1 s.2) (fun i (x : Int32 × Bool) => d0 ≤ i ∧ x.1 = nI i ∧ (x.2 = false → ∀ j, d0 ≤ j → j < i → clrW hC l (nI k) j = false) ∧ (x.2 = true → d0 < i ∧ clrW hC l (nI k) (i - 1) = true ∧ ∀ j, d0 ≤ j → j < i - 1 → clrW hC l (nI k) j = false)) 17 ?_ ?_ 1000 d0 (nI d0, false) (by omega) (by omega) ⟨Nat.le_refl _, rfl, fun _ j h1 h2 => by omega, fun z => by cases z⟩
      · intro i x w hi hI hw
        obtain ⟨c, f⟩ := x
        obtain ⟨hi0, h1, h2, h3⟩ := hI
        simp only at h1
        subst h1
        show ok (f_X11_wallsLeast_l89 (nI l) (nI k) hM w (nI i) f) _
        unfold f_X11_wallsLeast_l89 f_X11_wallsLeast_j176
        cases f with
        | true =>
          obtain ⟨g1, g2, g3⟩ := h3 rfl
          rw [if_pos rfl, if_pos rfl, show (1 : Int32) = nI 1 from rfl, pk_sub (by omega)]
          exact ok_some ⟨Or.inl ⟨i - 1, by omega, by omega, g2, g3, rfl⟩, rfl⟩
        | false =>
          have g := h2 rfl
          rw [if_neg (show ¬ false = true by decide), if_neg (show ¬ (16 : Int32) < nI i from nI_nlt (a := 16) (by omega) (by omega))]
          refine in107_ok (β := Nat) L (by omega) (nI k) w (hw (_, _) ⟨by omega, rfl, fun z j j1 j2 => ?_, fun z => ⟨by omega, z, fun j j1 j2 => g j j1 (by omega)⟩⟩)
          by_cases e : j = i
          · subst e; exact z
          · exact g j j1 (by omega)
      · intro x w hI
        obtain ⟨c, f⟩ := x
        obtain ⟨hi0, h1, h2, h3⟩ := hI
        simp only at h1
        subst h1
        show ok (f_X11_wallsLeast_l89 (nI l) (nI k) hM w (nI 17) f) _
        unfold f_X11_wallsLeast_l89 f_X11_wallsLeast_j176
        cases f with
        | true =>
          obtain ⟨g1, g2, g3⟩ := h3 rfl
          rw [if_pos rfl, if_pos rfl]
          exact ok_some ⟨Or.inl ⟨16, by omega, by omega, g2, g3, rfl⟩, rfl⟩
        | false =>
          have g := h2 rfl
          rw [if_neg (show ¬ false = true by decide), if_pos (show (16 : Int32) < nI 17 from nI_lt (a := 16) (by omega) (by omega)), if_neg (show ¬ false = true by decide)]
          exact ok_some ⟨Or.inr ⟨fun d j1 j2 => g d j1 (by omega), rfl⟩, rfl⟩
    obtain ⟨⟨r, x⟩, e4, f1, f2⟩ := A
    obtain ⟨⟨r', y⟩, e5, f3, f4⟩ := B
    simp only at f1 f2 f3 f4
    subst f2 f4
    have := fstD_eq f1 f3
    subst this
    exact ag_c r _ _ e4 e5 i
end WALLS
