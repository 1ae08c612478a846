section WORTH
variable {hC hM : pq_H}
def pw (x : Int64) : Nat → Int64
  | 0 => 1
  | n + 1 => pw x n * x
theorem pw_s (x : Int64) (n : Nat) : pw x (n + 1) = pw x n * x := rfl
def bh (W : Nat → Nat → Int64) (Y Z : Int64) (s : Nat) : Nat → Int64
  | 0 => 0
  | k + 1 => bh W Y Z s k * Y + W s k * pw Z k
def ah (W : Nat → Nat → Int64) (X Y Z : Int64) : Nat → Int64
  | 0 => 0
  | s + 1 => ah W X Y Z s * X + bh W Y Z s (s + 1)
theorem bh_s (W : Nat → Nat → Int64) (Y Z : Int64) (s k : Nat) : bh W Y Z s (k + 1) = bh W Y Z s k * Y + W s k * pw Z k := rfl
theorem ah_s (W : Nat → Nat → Int64) (X Y Z : Int64) (s : Nat) : ah W X Y Z (s + 1) = ah W X Y Z s * X + bh W Y Z s (s + 1) := rfl
theorem worth_ok {h : pq_H} {D : Nat} {W : Nat → Nat → Int64} (hD : D ≤ 18) (hW : WC h D W) (x y z : Int32) : f_X9_worth x y z h = some (ah W x.toInt64 y.toInt64 z.toInt64 (D + 1)) := by
  refine ok_eq ?_
  unfold f_X9_worth
  refine lp_gen (fun (w : Int64 → Int32 → Int32 → Option Int64) (s : Int64 × Int32 × Int32) => w s.1 s.2.1 s.2.2) (fun i s => s.1 = ah W x.toInt64 y.toInt64 z.toInt64 i ∧ s.2.1 = nI (tri i) ∧ s.2.2 = nI i) (D + 1) ?_ ?_ 1000 0 (0, 0, 0) (by omega) (by omega) ⟨rfl, rfl, rfl⟩
  · intro i s w hi hI hw
    obtain ⟨a, t, b⟩ := s
    obtain ⟨e1, e2, e3⟩ := hI
    simp only at e1 e2 e3
    subst e1 e2 e3
    show ok (f_X9_worth_l9 x y z h w (ah W x.toInt64 y.toInt64 z.toInt64 i) (nI (tri i)) (nI i)) _
    have hb := tri18 (show i ≤ 18 by omega)
    unfold f_X9_worth_l9
    rw [hW.1, if_neg (nI_nlt (by omega) (by omega))]
    refine lp_gen (fun (w : Int32 → Int64 → Int64 → Int32 → Option Int64) (s : Int32 × Int64 × Int64 × Int32) => w s.1 s.2.1 s.2.2.1 s.2.2.2) (fun k s => s.1 = nI (tri i + k) ∧ s.2.1 = bh W y.toInt64 z.toInt64 i k ∧ s.2.2.1 = pw z.toInt64 k ∧ s.2.2.2 = nI k) (i + 1) ?_ ?_ 1000 0 (nI (tri i), 0, 1, 0) (by omega) (by omega) ⟨rfl, rfl, rfl, rfl⟩
    · intro k s w2 hk hI hw2
      obtain ⟨a1, a2, a3, a4⟩ := s
      obtain ⟨e1, e2, e3, e4⟩ := hI
      simp only at e1 e2 e3 e4
      subst e1 e2 e3 e4
      show ok (f_X9_worth_l27 x y z h w (ah W x.toInt64 y.toInt64 z.toInt64 i) (nI i) w2 (nI (tri i + k)) (bh W y.toInt64 z.toInt64 i k) (pw z.toInt64 k) (nI k)) _
      unfold f_X9_worth_l27
      rw [if_neg (nI_nlt (by omega) (by omega)), inbN (show tri i + k < 190 by omega) (by decide), gd_t, nI_clamp (by omega), hW.2 i k (by omega) (by omega), nI_1, nI_1]
      exact hw2 (_, _, _, _) ⟨rfl, rfl, rfl, rfl⟩
    · intro s w2 hI
      obtain ⟨a1, a2, a3, a4⟩ := s
      obtain ⟨e1, e2, e3, e4⟩ := hI
      simp only at e1 e2 e3 e4
      subst e1 e2 e3 e4
      show ok (f_X9_worth_l27 x y z h w (ah W x.toInt64 y.toInt64 z.toInt64 i) (nI i) w2 (nI (tri i + (i + 1))) (bh W y.toInt64 z.toInt64 i (i + 1)) (pw z.toInt64 (i + 1)) (nI (i + 1))) _
      unfold f_X9_worth_l27 f_X9_worth_j68
      rw [if_pos (nI_lt (by omega) (by omega)), nI_1, ← tri_succ]
      exact hw (_, _, _) ⟨rfl, rfl, rfl⟩
  · intro s w hI
    obtain ⟨a, t, b⟩ := s
    obtain ⟨e1, e2, e3⟩ := hI
    simp only at e1 e2 e3
    subst e1 e2 e3
    show ok (f_X9_worth_l9 x y z h w (ah W x.toInt64 y.toInt64 z.toInt64 (D + 1)) (nI (tri (D + 1))) (nI (D + 1))) _
    unfold f_X9_worth_l9
    rw [hW.1, if_pos (nI_lt (by omega) (by omega))]
    exact ok_some rfl
theorem power_ok {n : Nat} (hn : n ≤ 100) (x : Int32) : f_X11_power x (nI n) = some (pw x.toInt64 n) := by
  refine ok_eq ?_
  unfold f_X11_power
  refine lp_forA (fun i v => v = pw x.toInt64 i) n ?_ ?_ 1000 0 1 (by omega) (by omega) rfl
  · intro i v w hi hI hw
    subst hI
    unfold f_X11_power_l5
    rw [if_neg (nI_ge hi (by omega)), nI_1]
    exact hw _ rfl
  · intro v w hI
    unfold f_X11_power_l5
    rw [if_pos (le_nIn (Nat.le_refl _) (by omega))]
    exact ok_some hI
def smT (f : Nat → Int64) : Nat → Int64
  | 0 => 0
  | n + 1 => smT f n + f n
theorem smT_s (f : Nat → Int64) (n : Nat) : smT f (n + 1) = smT f n + f n := rfl
def vtW (W : Nat → Nat → Int64) (D : Nat) (X Y Z : Int64) (t : Nat) : Int64 := ((W (skT t).1 (skT t).2 * pw X (D - (skT t).1)) * pw Y ((skT t).1 - (skT t).2)) * pw Z (skT t).2
theorem smT_congr {f f' : Nat → Int64} {n : Nat} (h : ∀ t, t < n → f t = f' t) : smT f n = smT f' n := by
  induction n with
  | zero => rfl
  | succ n ih => rw [smT_s, smT_s, ih (fun t ht => h t (by omega)), h n (by omega)]
theorem horner1 (W : Nat → Nat → Int64) (D : Nat) (X Y Z : Int64) (s : Nat) (hs : s ≤ D) (a : smT (vtW W D X Y Z) (tri s) = ah W X Y Z s * pw X (D + 1 - s)) (k : Nat) (hk : k ≤ s) : smT (vtW W D X Y Z) (tri s + k) = ah W X Y Z s * pw X (D + 1 - s) + bh W Y Z s k * pw Y (s + 1 - k) * pw X (D - s) := by
  induction k with
  | zero =>
    rw [Nat.add_zero, a]
    show _ = _ + 0 * pw Y (s + 1) * pw X (D - s)
    rw [Int64.zero_mul, Int64.zero_mul, Int64.add_zero]
  | succ k ih =>
    rw [← Nat.add_assoc, smT_s, ih (by omega), bh_s]
    unfold vtW
    rw [skT_eq (show k ≤ s by omega), show s + 1 - k = s - k + 1 by omega, show s + 1 - (k + 1) = s - k by omega, pw_s]
    grind
theorem horner (W : Nat → Nat → Int64) (D : Nat) (X Y Z : Int64) : ∀ s, s ≤ D + 1 → smT (vtW W D X Y Z) (tri s) = ah W X Y Z s * pw X (D + 1 - s) := by
  intro s
  induction s with
  | zero =>
    intro _
    show (0 : Int64) = 0 * _
    rw [Int64.zero_mul]
  | succ s ih =>
    intro hs
    have a := ih (by omega)
    have b := horner1 W D X Y Z s (by omega) a s (Nat.le_refl _)
    rw [tri_succ, ← Nat.add_assoc, smT_s, b, ah_s, bh_s]
    unfold vtW
    rw [skT_eq (Nat.le_refl _), Nat.sub_self, show s + 1 - s = 1 by omega, show D + 1 - s = D - s + 1 by omega, show D + 1 - (s + 1) = D - s by omega, pw_s]
    show _ + _ * _ * (1 : Int64) * _ = _
    rw [show pw Y 1 = 1 * Y from rfl]
    grind
theorem worth_sum (W : Nat → Nat → Int64) (D : Nat) (X Y Z : Int64) : ah W X Y Z (D + 1) = smT (vtW W D X Y Z) (tri (D + 1)) := by
  rw [horner W D X Y Z (D + 1) (Nat.le_refl _), Nat.sub_self]
  show _ = _ * (1 : Int64)
  rw [Int64.mul_one]
def cfW (F : pF) (s k : Nat) : Int64 := (cfV F s k).toInt64
theorem valueAt_ok {h : pq_H} {f : Nat} {F : pF} (hF : FormM h f F) (hk : okF F) (hf : f < 6) (x y z : Int32) : f_X11_valueAt (nI f) x y z h = some (smT (vtW (cfW F) F.2.2.1 x.toInt64 y.toInt64 z.toInt64) (tri (F.2.2.1 + 1))) := by
  have hd := hk.2.2.1
  have hb := tri28 hd
  refine ok_eq ?_
  unfold f_X11_valueAt
  rw [inbN hf (by decide), gd_t, nI_clamp (by omega), hF.2.2.1]
  refine lp_forA (fun i v => v = smT (vtW (cfW F) F.2.2.1 x.toInt64 y.toInt64 z.toInt64) i) (tri (F.2.2.1 + 1)) ?_ ?_ 1000 0 0 (by omega) (by omega) rfl
  · intro i v w hi hI hw
    subst hI
    obtain ⟨s, k, hs, hks, e⟩ := tri_exD hi
    obtain ⟨p0, p1, p2⟩ := powerIn_ok (d := F.2.2.1) (by omega) hs hks
    unfold f_X11_valueAt_l14
    rw [isTerm_ok hF hk hf i (by omega), Option.bind_some, decide_eq_true hi, if_pos rfl, e, coef_ok hF hk hf hs hks, p0, p1, p2]
    simp only [Option.bind_some]
    rw [power_ok (by omega), power_ok (by omega), power_ok (by omega)]
    simp only [Option.bind_some]
    rw [nI_1]
    rw [e] at hw
    refine hw _ ?_
    rw [smT_s]
    unfold vtW
    rw [skT_eq hks]
    rfl
  · intro v w hI
    unfold f_X11_valueAt_l14
    rw [isTerm_ok hF hk hf _ (by omega), Option.bind_some, decide_eq_false (by omega), if_neg (by decide)]
    exact ok_some hI
def valF (F : pF) (x y z : Int32) : Int64 := smT (vtW (cfW F) F.2.2.1 x.toInt64 y.toInt64 z.toInt64) (tri (F.2.2.1 + 1))
theorem vt_on {F : pF} {X Y Z : Int64} {g : Nat} (hz : (g % 2 = 1 ∨ X = 0) ∧ (g / 2 % 2 = 1 ∨ Y = 0) ∧ (g / 4 % 2 = 1 ∨ Z = 0)) {t : Nat} (ht : t < tri (F.2.2.1 + 1)) : vtW (wr0 F g) F.2.2.1 X Y Z t = vtW (cfW F) F.2.2.1 X Y Z t := by
  obtain ⟨s, k, hs, hk, e⟩ := tri_exD ht
  unfold vtW
  rw [e, skT_eq hk]
  simp only
  unfold wr0 cfW
  by_cases o : onS g F.2.2.1 s k = true
  · rw [if_pos o]
  · rw [if_neg o]
    have p0 : ∀ n, 0 < n → pw (0 : Int64) n = 0 := fun n hn => by
      obtain ⟨m, rfl⟩ := Nat.exists_eq_add_of_le' (show 1 ≤ n from hn)
      rw [pw_s, Int64.mul_zero]
    have q := fun w => o (onS_iff.mpr w)
    have no : (X = 0 ∧ 0 < F.2.2.1 - s) ∨ (Y = 0 ∧ 0 < s - k) ∨ (Z = 0 ∧ 0 < k) := by
      by_cases q1 : g % 2 = 1 ∨ F.2.2.1 = s
      · by_cases q2 : g / 2 % 2 = 1 ∨ s = k
        · by_cases q3 : g / 4 % 2 = 1 ∨ k = 0
          · exact (q ⟨q1, q2, q3⟩).elim
          · exact Or.inr (Or.inr ⟨hz.2.2.resolve_left (fun e => q3 (Or.inl e)), by omega⟩)
        · exact Or.inr (Or.inl ⟨hz.2.1.resolve_left (fun e => q2 (Or.inl e)), by omega⟩)
      · exact Or.inl ⟨hz.1.resolve_left (fun e => q1 (Or.inl e)), by omega⟩
    rcases no with ⟨rfl, b⟩ | ⟨rfl, b⟩ | ⟨rfl, b⟩
    · rw [p0 _ b]; simp
    · rw [p0 _ b]; simp
    · rw [p0 _ b]; simp
theorem worth_val {F : pF} {g : Nat} {x y z : Int32} (hz : (g % 2 = 1 ∨ x = 0) ∧ (g / 2 % 2 = 1 ∨ y = 0) ∧ (g / 4 % 2 = 1 ∨ z = 0)) : ah (wr0 F g) x.toInt64 y.toInt64 z.toInt64 (F.2.2.1 + 1) = valF F x y z := by
  rw [worth_sum]
  unfold valF
  refine smT_congr (fun t ht => vt_on ⟨hz.1.imp id ?_, hz.2.1.imp id ?_, hz.2.2.imp id ?_⟩ ht)
  · intro e; subst e; rfl
  · intro e; subst e; rfl
  · intro e; subst e; rfl
theorem a_value : Ag_value Inv := by
  intro hC hM p1 p2 p3 p4 i
  unfold f_X10_value f_X11_value f_X10_value_j30 f_X10_value_j56 f_X11_value_j25 f_X11_value_j49 f_X11_value_j55
  simp only [bd2_id, bind_id]
  obtain ⟨n, i1, -⟩ := id i
  rcases form_cases i1 p1 with ⟨a, b⟩ | ⟨f, hf, hf6, rfl, a, b, F, c1, c2, c3⟩
  · rw [if_pos a, if_neg (Bf b), if_neg (by decide)]
    exact ag_low 1 rfl (by decide) (by decide) i
  rw [if_neg (Bf a), if_pos b]
  have m4 : ¬ (-4 : Int32) = 0 := by decide
  have m6 : ¬ (-6 : Int32) = 0 := by decide
  by_cases q1 : p2 < 0
  · rw [if_pos q1, if_pos q1, if_neg m4]
    exact ag_low 4 rfl (by decide) (by decide) i
  rw [if_neg q1, if_neg q1]
  by_cases q2 : p3 < 0
  · rw [if_pos q2, if_pos q2, if_neg m4]
    exact ag_low 4 rfl (by decide) (by decide) i
  rw [if_neg q2, if_neg q2]
  by_cases q3 : 0 ≤ p4
  case neg =>
    rw [if_neg q3, if_neg q3, if_neg m4]
    exact ag_low 4 rfl (by decide) (by decide) i
  rw [if_pos q3, if_pos q3]
  by_cases q4 : 12 < p2
  · rw [if_pos q4, if_pos q4, if_neg m6]
    exact ag_low 6 rfl (by decide) (by decide) i
  rw [if_neg q4, if_neg q4]
  by_cases q5 : 12 < p3
  · rw [if_pos q5, if_pos q5, if_neg m6]
    exact ag_low 6 rfl (by decide) (by decide) i
  rw [if_neg q5, if_neg q5]
  by_cases q6 : p4 ≤ 12
  case neg =>
    rw [if_neg q6, if_neg q6, if_neg m6]
    exact ag_low 6 rfl (by decide) (by decide) i
  rw [if_pos q6, if_pos q6]
  simp only [if_true]
  refine ag_ok (P := fun r => frC hC r.2 ∧ r.1 = valF F p2 p3 p4) (R := fun r => r.2 = hM ∧ r.1 = valF F p2 p3 p4) ?_ ?_ (fun x y hx hy => ⟨hx.2.trans hy.2.symm, i.fr hx.1 (hy.1 ▸ frM.rf hM)⟩)
  · refine ok_bind (workOn_ok (g := 7) c1 c3 hf6 (by omega) (by omega)) (fun h1 ⟨k1, k2⟩ => ?_)
    have hd := c3.2.2.1
    refine ok_be (worth_ok (by omega) k2 _ _ _) ?_
    exact ok_some ⟨k1, worth_val (by omega)⟩
  · refine ok_be (valueAt_ok c2 c3 hf6 _ _ _) ?_
    exact ok_some ⟨rfl, rfl⟩
theorem a_lots : Ag_lots Inv := by
  intro hC hM p1 p2 p3 p4 i
  unfold f_X10_lots f_X11_lots f_X11_lots_j19 f_X11_lots_j40 f_X11_bound
  simp only [bd2_id, bind_id]
  obtain ⟨n, i1, -⟩ := id i
  rcases form_cases i1 p1 with ⟨a, b⟩ | ⟨f, hf, hf6, rfl, a, b, F, c1, c2, c3⟩
  · rw [if_pos a, if_neg (Bf b), if_neg (by decide), if_neg (by decide)]
    exact ag_no 1 rfl (by decide) (by decide) i
  rw [if_neg (Bf a), if_pos b]
  by_cases q1 : 1 ≤ p2
  case neg =>
    rw [if_neg q1, if_neg q1, if_neg (by decide), if_neg (by decide)]
    exact ag_no 4 rfl (by decide) (by decide) i
  by_cases q2 : p2 ≤ 50
  case neg =>
    rw [if_pos q1, if_pos q1, if_neg q2, if_neg q2, if_neg (by decide), if_neg (by decide)]
    exact ag_no 6 rfl (by decide) (by decide) i
  rw [if_pos q1, if_pos q1, if_pos q2, if_pos q2, if_pos rfl]
  rcases nb_cases p4 2 (by decide) with ⟨a2, b2⟩ | ⟨q, hq, rfl, a2, b2⟩
  · rw [if_pos (show f_X10_notBelow p4 2 = true from a2), if_neg (show ¬ f_X11_isIn p4 0 1 = true from Bf b2), if_neg (by decide)]
    exact ag_no 2 rfl (by decide) (by decide) i
  rw [if_neg (show ¬ f_X10_notBelow (nI q) 2 = true from Bf a2), if_pos (show f_X11_isIn (nI q) 0 1 = true from b2)]
  simp only [if_true, hl_d]
  obtain ⟨m, hm, rfl⟩ := nI_of2 (M := 50) (n := 50) rfl (fun z => by
    have a := Int32.le_iff_toInt_le.mp q1
    have b := Int32.lt_iff_toInt_lt.mp z
    rw [show (1 : Int32).toInt = 1 from rfl] at a
    rw [show (0 : Int32).toInt = 0 from rfl] at b
    omega) q2
  obtain ⟨h1, e1, k1, k2⟩ := workOn_ok (g := 7) c1 c3 hf6 (by omega) (by omega)
  rw [show f_X10_workOn (nI f) 7 hC = some h1 from e1, Option.bind_some]
  have hd := c3.2.2.1
  have draw_ok : ∀ h : pq_H, f_X11_draw 10 h = some (f_X10_drawOf (f_X10_nextSeed (rI h 0 37)), wI h 0 37 (f_X10_nextSeed (rI h 0 37))) := by
    intro h
    unfold f_X11_draw
    rw [hl_d, rI_same]
    rfl
  -- both sides in step; the seed, what is below 0, what is 0
  have key : ok2 (f_X10_drawLots (nI m) p3 (nI q) h1) (lp (fun _ _ _ _ => none) (f_X11_lots_l66 (nI f) (nI m) (nI q)) 1000 0 0 0 (wI hM 0 37 p3)) (fun x y => x = y.1 ∧ frM hM y.2) := by
    unfold f_X10_drawLots
    refine lp_gen2 (fun (w : Int32 → Int32 → Int32 → Option Int32) (s : Int32 × Int32 × Int32) => w s.1 s.2.1 s.2.2) (fun (w : Int32 → Int32 → Int32 → pq_H → Option (Int32 × pq_H)) (s : Int32 × Int32 × Int32 × pq_H) => w s.1 s.2.1 s.2.2.1 s.2.2.2) (fun i s1 s2 => s1.2.2 = nI i ∧ s2.2.2.1 = nI i ∧ frM hM s2.2.2.2 ∧ rI s2.2.2.2 0 37 = s1.1 ∧ s1.2.1 = (if q = 0 then s2.1 else s2.2.1)) m ?_ ?_ 1000 0 (p3, 0, 0) (0, 0, 0, wI hM 0 37 p3) (by omega) (by omega) ⟨rfl, rfl, frM.wI _ _ _ _ (by omega), rI_same _ _ _ _, by show (0 : Int32) = _; split <;> rfl⟩
    · intro j s1 s2 w1 w2 hj hI hw
      obtain ⟨z, o, c⟩ := s1
      obtain ⟨u, v, c', h⟩ := s2
      obtain ⟨e1, e2, e3, e4, e5⟩ := hI
      simp only at e1 e2 e3 e4 e5
      subst e1 e2 e4 e5
      show ok2 (f_X10_drawLots_l9 (nI m) (nI q) h1 w1 (rI h 0 37) (if q = 0 then u else v) (nI j)) (f_X11_lots_l66 (nI f) (nI m) (nI q) w2 u v (nI j) h) _
      unfold f_X10_drawLots_l9 f_X11_lots_l66 f_X10_drawLots_j81 f_X10_drawLots_j78 f_X11_lots_j119 f_X11_lots_j136 f_X10_drawLots_j81
      rw [if_neg (nI_ge hj (by omega)), if_neg (nI_ge hj (by omega)), draw_ok, bd2_some, draw_ok, bd2_some, draw_ok, bd2_some, rI_same, rI_same]
      obtain ⟨z1, ez1⟩ : ∃ z, z = f_X10_nextSeed (rI h 0 37) := ⟨_, rfl⟩
      obtain ⟨z2, ez2⟩ : ∃ z, z = f_X10_nextSeed z1 := ⟨_, rfl⟩
      obtain ⟨z3, ez3⟩ : ∃ z, z = f_X10_nextSeed z2 := ⟨_, rfl⟩
      rw [← ez1, ← ez2, ← ez3]
      obtain ⟨H, hH⟩ : ∃ H, H = wI (wI (wI h 0 37 z1) 0 37 z2) 0 37 z3 := ⟨_, rfl⟩
      rw [← hH]
      have fH : frM hM H := by
        rw [hH]
        exact ((e3.tr (frM.wI _ _ _ _ (by omega))).tr (frM.wI _ _ _ _ (by omega))).tr (frM.wI _ _ _ _ (by omega))
      have sH : rI H 0 37 = z3 := by rw [hH, rI_same]
      rw [worth_ok (by omega) k2, valueAt_ok (c2.frM fH) c3 hf6, Option.bind_some, Option.bind_some, worth_val (by omega)]
      obtain ⟨val, ev⟩ : ∃ v, v = valF F (f_X10_drawOf z1) (f_X10_drawOf z2) (f_X10_drawOf z3) := ⟨_, rfl⟩
      rw [← ev, show smT (vtW (cfW F) F.2.2.1 (f_X10_drawOf z1).toInt64 (f_X10_drawOf z2).toInt64 (f_X10_drawOf z3).toInt64) (tri (F.2.2.1 + 1)) = val from ev.symm, nI_1]
      have q0 : (nI q = 0) ↔ q = 0 := nI_eq (b := 0) (by omega) (by decide)
      simp only [q0]
      have fin : ∀ o' u' v' : Int32, o' = (if q = 0 then u' else v') → ok2 (w1 z3 o' (nI (j + 1))) (w2 u' v' (nI (j + 1)) H) (fun x y => x = y.1 ∧ frM hM y.2) := fun o' u' v' ho => hw (z3, o', nI (j + 1)) (u', v', nI (j + 1), H) ⟨rfl, rfl, fH, sH, ho⟩
      by_cases hq0 : q = 0
      · rw [if_pos hq0]
        by_cases s1 : 0 ≤ val
        · rw [if_pos s1, if_pos s1]
          by_cases s2 : val = 0
          · rw [if_pos s2]; refine fin _ _ _ ?_; rw [if_pos hq0, if_pos hq0, Int32.add_zero]
          · rw [if_neg s2]; refine fin _ _ _ ?_; rw [if_pos hq0, if_pos hq0, Int32.add_zero]
        · rw [if_neg s1, if_neg s1]
          by_cases s2 : val = 0
          · rw [if_pos s2]; refine fin _ _ _ ?_; rw [if_pos hq0, if_pos hq0]
          · rw [if_neg s2]; refine fin _ _ _ ?_; rw [if_pos hq0, if_pos hq0]
      · rw [if_neg hq0]
        by_cases s2 : val = 0
        · rw [if_pos s2]
          by_cases s1 : 0 ≤ val
          · rw [if_pos s1, if_pos s2]; refine fin _ _ _ ?_; rw [if_neg hq0, if_neg hq0]
          · rw [if_neg s1, if_pos s2]; refine fin _ _ _ ?_; rw [if_neg hq0, if_neg hq0]
        · rw [if_neg s2]
          by_cases s1 : 0 ≤ val
          · rw [if_pos s1, if_neg s2]; refine fin _ _ _ ?_; rw [if_neg hq0, if_neg hq0, Int32.add_zero]
          · rw [if_neg s1, if_neg s2]; refine fin _ _ _ ?_; rw [if_neg hq0, if_neg hq0, Int32.add_zero]
    · intro s1 s2 w1 w2 hI
      obtain ⟨z, o, c⟩ := s1
      obtain ⟨u, v, c', h⟩ := s2
      obtain ⟨e1, e2, e3, e4, e5⟩ := hI
      simp only at e1 e2 e3 e4 e5
      subst e1 e2 e4 e5
      show ok2 (f_X10_drawLots_l9 (nI m) (nI q) h1 w1 (rI h 0 37) (if q = 0 then u else v) (nI m)) (f_X11_lots_l66 (nI f) (nI m) (nI q) w2 u v (nI m) h) _
      unfold f_X10_drawLots_l9 f_X11_lots_l66 f_X11_lots_j145
      rw [if_pos (le_nIn (Nat.le_refl _) (by omega)), if_pos (le_nIn (Nat.le_refl _) (by omega))]
      have q0 : (nI q = 0) ↔ q = 0 := nI_eq (b := 0) (by omega) (by decide)
      simp only [q0]
      by_cases hq0 : q = 0
      · rw [if_pos hq0, if_pos hq0]; exact ok2_some ⟨rfl, e3⟩
      · rw [if_neg hq0, if_neg hq0]; exact ok2_some ⟨rfl, e3⟩
  obtain ⟨r, ⟨r', y⟩, e2, e3, e4, e5⟩ := key
  simp only at e4 e5
  subst e4
  rw [e2, e3]
  exact ag_c r h1 y rfl rfl (i.fr k1 e5)
end WORTH
