section SETOF
variable {hC hM : pq_H}
theorem allB_iff {p : Nat → Bool} {n : Nat} : (allB p n = true) ↔ ∀ i, i < n → p i = true := by
  constructor
  · intro h i hi
    exact allB_t h hi
  · intro h
    induction n with
    | zero => rfl
    | succ n ih => rw [allB_s, ih (fun i hi => h i (by omega)), h n (by omega)]; rfl
theorem forms_ex {n : Nat} (i : InvF n hC hM) : ∃ FF : Nat → pF, ∀ f, f < n → FormC hC f (FF f) ∧ FormM hM f (FF f) ∧ okF (FF f) := by
  have : ∀ f, ∃ F : pF, f < n → FormC hC f F ∧ FormM hM f F ∧ okF F := by
    intro f
    by_cases z : f < n
    · obtain ⟨F, a⟩ := i.2.2.2 f z
      exact ⟨F, fun _ => a⟩
    · exact ⟨(0, 0, 0, fun _ => 0), fun y => absurd y z⟩
  exact ⟨fun f => Classical.choose (this f), fun f hf => Classical.choose_spec (this f) hf⟩
def sm1 (F : pF) (t : Nat) : Bool := decide (-99 ≤ (cfT F t).toInt ∧ (cfT F t).toInt ≤ 99)
def smB (F : pF) : Bool := allB (sm1 F) (tri (F.2.2.1 + 1))
theorem isSmallC_ok {p : Nat} {F : pF} (hF : FormC hC p F) (hk : okF F) : f_X6_isSmall p hC = some (smB F) := by
  have hd := hk.2.2.1
  have hb := tri28 hd
  apply ok_eq
  unfold f_X6_isSmall
  refine lp_forR (fun i => allB (sm1 F) i = true) (tri (F.2.2.1 + 1)) ?_ ?_ 1000 0 (by omega) (by omega) rfl
  · intro i w hi hI hw
    unfold f_X6_isSmall_l2
    have bd := cfT_b hk hi
    rw [hF.2.2.1, termsOf_nI (by omega), if_neg (nI_ge hi (by omega)), atT hF hk hi, Option.bind_some, (abs32 bd).1, nI_1]
    by_cases z : (cfT F i).toInt.natAbs ≤ 99
    · rw [if_pos (show nI (cfT F i).toInt.natAbs ≤ 99 from le_nIn (b := 99) z (by omega))]
      refine hw ?_
      rw [allB_s, hI]
      unfold sm1
      rw [decide_eq_true (show -99 ≤ (cfT F i).toInt ∧ (cfT F i).toInt ≤ 99 by omega)]
      rfl
    · rw [if_neg (show ¬ nI (cfT F i).toInt.natAbs ≤ 99 from nI_ge (a := 99) (by omega) (by omega))]
      refine ok_some ?_
      unfold smB
      rw [allB_f hi]
      unfold sm1
      exact decide_eq_false (by omega)
  · intro w hI
    unfold f_X6_isSmall_l2
    rw [hF.2.2.1, termsOf_nI (by omega), if_pos (le_nIn (Nat.le_refl _) (by omega))]
    refine ok_some ?_
    unfold smB
    rw [hI]
theorem isSmallM_ok {f : Nat} {F : pF} (hF : FormM hM f F) (hk : okF F) (hf : f < 6) : f_X11_isSmall (nI f) hM = some (smB F) := by
  have hd := hk.2.2.1
  have hb := tri28 hd
  apply ok_eq
  unfold f_X11_isSmall
  refine lp_forA (fun i x => x = allB (sm1 F) i) (tri (F.2.2.1 + 1)) ?_ ?_ 1000 0 true (by omega) (by omega) rfl
  · intro i x w hi hI hw
    unfold f_X11_isSmall_l4
    have bd := cfT_b hk hi
    rw [isTerm_ok hF hk hf i (by omega), Option.bind_some, decide_eq_true hi, if_pos rfl, coefT hF hk hf hi, Option.bind_some, nI_1]
    refine hw _ ?_
    rw [hI, allB_s]
    congr 1
    unfold f_X11_isIn sm1
    have c1 : (-99 : Int32).toInt = -99 := rfl
    have c2 : (99 : Int32).toInt = 99 := rfl
    by_cases z : cfT F i < -99
    · have z' := Int32.lt_iff_toInt_lt.mp z
      rw [if_pos z, decide_eq_false (by omega)]
    · have z' := Int32.le_iff_toInt_le.mp (Int32.not_lt.mp z)
      rw [if_neg z]
      by_cases y : 99 < cfT F i
      · have y' := Int32.lt_iff_toInt_lt.mp y
        rw [if_pos y, decide_eq_false (by omega)]
      · have y' := Int32.le_iff_toInt_le.mp (Int32.not_lt.mp y)
        rw [if_neg y, decide_eq_true (by omega)]
  · intro x w hI
    unfold f_X11_isSmall_l4
    rw [isTerm_ok hF hk hf _ (by omega), Option.bind_some, decide_eq_false (by omega), if_neg (by decide)]
    exact ok_some hI
def ck1 (FF : Nat → pF) (f v : Nat) : Bool := decide ((FF v).2.2.1 = (FF f).2.2.1) && smB (FF v)
def ckA (FF : Nat → pF) (f q v : Nat) : Bool := if v = f ∨ q.testBit v = true then ck1 FF f v else true
def ckB (FF : Nat → pF) (f q v : Nat) : Bool := if q.testBit v = true then ck1 FF f v else true
def CAN (FF : Nat → pF) (n f q : Nat) : Bool := decide (rk q 6 ≤ 3) && (!q.testBit f && allB (ckA FF f q) n)
theorem canMake_ok {n f q : Nat} {FF : Nat → pF} (i : InvF n hC hM) (hFF : ∀ f, f < n → FormC hC f (FF f) ∧ FormM hM f (FF f) ∧ okF (FF f)) (hf : f < n) (hq : q < 64) (hqn : q < 2 ^ n) : f_X6_canMake (nI f) (nI q) hC = some (CAN FF n f q) := by
  obtain ⟨h6, e1, e2, -⟩ := i
  have r6 := rk_6 q
  unfold f_X6_canMake CAN
  rw [bc6_nI q hq]
  by_cases z : rk q 6 ≤ 3
  case neg =>
    rw [if_pos (show (3 : Int32) < nI (rk q 6) from nI_lt (a := 3) (by omega) (by omega)), decide_eq_false z]
    rfl
  rw [if_neg (show ¬ (3 : Int32) < nI (rk q 6) from nI_nlt (a := 3) (by omega) (by omega)), decide_eq_true z, Bool.true_and]
  by_cases y : q.testBit f = false
  case neg =>
    rw [if_neg (fun w => y ((bitq_nI q hq f (by omega)).mp w))]
    rw [show q.testBit f = true by cases h : q.testBit f; exact absurd h y; rfl]
    rfl
  rw [if_pos ((bitq_nI q hq f (by omega)).mpr y), y]
  show _ = some (true && _)
  rw [Bool.true_and]
  apply ok_eq
  refine lp_forR (fun i => allB (ckA FF f q) i = true) n ?_ ?_ 1000 0 (by omega) (by omega) rfl
  · intro v w hv hI hw
    obtain ⟨a1, a2, a3⟩ := hFF v hv
    obtain ⟨b1, b2, b3⟩ := hFF f hf
    have hd1 := a3.2.2.1
    have hd2 := b3.2.2.1
    unfold f_X6_canMake_l20 f_X6_canMake_j44 f_X6_canMake_j79
    rw [e1, if_neg (nI_ge hv (by omega)), nI_1]
    have look : ckA FF f q v = ck1 FF f v → ok (gd (inb (nI v) 6) (gd (inb (nI f) 6) (if (rI hC (nI v).toNatClampNeg 3) = (rI hC (nI f).toNatClampNeg 3) then (gd (inb (nI v) 6) ((f_X6_isSmall (nI v).toNatClampNeg hC).bind fun r71 => if r71 = true then (w (nI (v + 1))) else (some false))) else (some false)))) (fun r => r = allB (ckA FF f q) n) := by
      intro e
      rw [inbN (show v < 6 by omega) (by decide), inbN (show f < 6 by omega) (by decide), gd_t, gd_t, gd_t, nI_clamp (by omega), nI_clamp (by omega), a1.2.2.1, b1.2.2.1, isSmallC_ok a1 a3, Option.bind_some]
      by_cases x : (FF v).2.2.1 = (FF f).2.2.1
      · rw [if_pos (by rw [x])]
        by_cases u : smB (FF v) = true
        · rw [if_pos u]
          refine hw ?_
          rw [allB_s, hI, e]
          unfold ck1
          rw [decide_eq_true x, u]
          rfl
        · rw [if_neg u]
          refine ok_some ?_
          rw [allB_f hv]
          rw [e]
          unfold ck1
          rw [b2n u, Bool.and_false]
      · rw [if_neg (fun w => x ((ieq (by omega) (by omega)).mp w))]
        refine ok_some ?_
        rw [allB_f hv]
        rw [e]
        unfold ck1
        rw [decide_eq_false x, Bool.false_and]
    by_cases x : v = f
    · rw [if_pos (by rw [x])]
      exact look (by unfold ckA; rw [if_pos (Or.inl x)])
    rw [if_neg (fun w => x ((ieq (by omega) (by omega)).mp w))]
    by_cases u : q.testBit v = false
    · rw [if_pos ((bitq_nI q hq v (by omega)).mpr u)]
      refine hw ?_
      rw [allB_s, hI]
      unfold ckA
      rw [if_neg (fun w => by rcases w with w | w
                              · exact x w
                              · rw [u] at w; cases w)]
      rfl
    · rw [if_neg (fun w => u ((bitq_nI q hq v (by omega)).mp w))]
      refine look ?_
      unfold ckA
      rw [if_pos (Or.inr (by cases h : q.testBit v; exact absurd h u; rfl))]
  · intro w hI
    unfold f_X6_canMake_l20
    rw [e1, if_pos (le_nIn (Nat.le_refl _) (by omega))]
    exact ok_some hI.symm
theorem isSetOf_ok {n f q : Nat} {FF : Nat → pF} (i : InvF n hC hM) (hFF : ∀ f, f < n → FormC hC f (FF f) ∧ FormM hM f (FF f) ∧ okF (FF f)) (hf : f < n) (hq : q < 64) (hq1 : 1 ≤ q) (hqn : q < 2 ^ n) : f_X11_isSetOf (nI f) (nI q) hM = some (CAN FF n f q) := by
  obtain ⟨h6, e1, e2, -⟩ := i
  have r6 := rk_6 q
  have rn := rk_n q hq n (by omega) hqn
  have rp := rk_pos q hq hq1
  obtain ⟨b1, b2, b3⟩ := hFF f hf
  have hd2 := b3.2.2.1
  have run : ∀ s0 : Bool, f_X11_isSetOf_j23 (nI f) (nI q) hM 0 s0 = some ((s0 && allB (ckB FF f q) n) && decide (rk q 6 ≤ 3)) := by
    intro s0
    apply ok_eq
    unfold f_X11_isSetOf_j23
    refine lp_gen (fun (w : Int32 → Bool → Int32 → Option Bool) (s : Int32 × Bool × Int32) => w s.1 s.2.1 s.2.2) (fun i s => s.1 = nI (rk q i) ∧ s.2.1 = (s0 && allB (ckB FF f q) i) ∧ s.2.2 = nI i) n ?_ ?_ 1000 0 (0, s0, 0) (by omega) (by omega) ⟨rfl, by show s0 = (s0 && true); rw [Bool.and_true], rfl⟩
    · intro v s w hv ⟨k1, k2, k3⟩ hw
      obtain ⟨x, y, z⟩ := s
      simp only at k1 k2 k3
      subst k1 k2 k3
      obtain ⟨a1, a2, a3⟩ := hFF v hv
      have hd1 := a3.2.2.1
      show ok (f_X11_isSetOf_l28 (nI f) (nI q) hM w (nI (rk q v)) (s0 && allB (ckB FF f q) v) (nI v)) _
      unfold f_X11_isSetOf_l28 f_X11_isSetOf_j83 f_X11_isSetOf_j84 f_X11_isSetOf_j87
      rw [e2, if_neg (nI_ge hv (by omega)), nI_1]
      by_cases u : q.testBit v = false
      · rw [if_pos ((bitq_nI q hq v (by omega)).mpr u)]
        refine hw (_, _, _) ⟨?_, ?_, rfl⟩
        · show nI (rk q v) = nI (rk q v + (if q.testBit v = true then 1 else 0))
          rw [u]
          rfl
        · show (s0 && allB (ckB FF f q) v) = (s0 && (allB (ckB FF f q) v && ckB FF f q v))
          unfold ckB
          rw [u]
          simp
      have ut : q.testBit v = true := by cases h : q.testBit v; exact absurd h u; rfl
      have ck : ckB FF f q v = ck1 FF f v := by unfold ckB; rw [if_pos ut]
      have rv : rk q (v + 1) = rk q v + 1 := by show rk q v + (if q.testBit v = true then 1 else 0) = _; rw [if_pos ut]
      rw [if_neg (fun w => u ((bitq_nI q hq v (by omega)).mp w)), inbN (show v < 6 by omega) (by decide), inbN (show f < 6 by omega) (by decide), gd_t, gd_t, nI_clamp (by omega), nI_clamp (by omega), a2.2.2.1, b2.2.2.1, isSmallM_ok a2 a3 (by omega), Option.bind_some, nI_1]
      have fin : ∀ b : Bool, b = ck1 FF f v → ok (w (nI (rk q v + 1)) ((s0 && allB (ckB FF f q) v) && b) (nI (v + 1))) (fun y => y = ((s0 && allB (ckB FF f q) n) && decide (rk q 6 ≤ 3))) := by
        intro b hb
        refine hw (_, _, _) ⟨congrArg nI rv.symm, ?_, rfl⟩
        show ((s0 && allB (ckB FF f q) v) && b) = (s0 && (allB (ckB FF f q) v && ckB FF f q v))
        rw [ck, hb, Bool.and_assoc]
      by_cases x : (FF v).2.2.1 = (FF f).2.2.1
      · rw [if_pos (by rw [x])]
        by_cases t : smB (FF v) = true
        · rw [if_pos t]
          exact fin true (by unfold ck1; rw [decide_eq_true x, t]; rfl)
        · rw [if_neg t]
          exact fin false (by unfold ck1; rw [b2n t, Bool.and_false])
      · rw [if_neg (fun w => x ((ieq (by omega) (by omega)).mp w))]
        exact fin false (by unfold ck1; rw [decide_eq_false x, Bool.false_and])
    · intro s w ⟨k1, k2, k3⟩
      obtain ⟨x, y, z⟩ := s
      simp only at k1 k2 k3
      subst k1 k2 k3
      show ok (f_X11_isSetOf_l28 (nI f) (nI q) hM w (nI (rk q n)) (s0 && allB (ckB FF f q) n) (nI n)) _
      unfold f_X11_isSetOf_l28 f_X11_isSetOf_j93
      rw [e2, if_pos (le_nIn (Nat.le_refl _) (by omega)), rn]
      by_cases t : (s0 && allB (ckB FF f q) n) = true
      · rw [if_pos t]
        unfold f_X11_isIn
        rw [if_neg (show ¬ nI (rk q 6) < 1 from nI_nlt (b := 1) (by omega) (by omega)), t, Bool.true_and]
        by_cases r3 : rk q 6 ≤ 3
        · rw [if_neg (show ¬ 3 < nI (rk q 6) from nI_nlt (a := 3) (by omega) (by omega)), if_pos rfl, decide_eq_true r3]
          exact ok_some rfl
        · rw [if_pos (show 3 < nI (rk q 6) from nI_lt (a := 3) (by omega) (by omega)), if_neg (by decide), decide_eq_false r3]
          exact ok_some rfl
      · rw [if_neg t, b2n t, Bool.false_and]
        exact ok_some rfl
  have all : ∀ b : Bool, b = (smB (FF f) && !q.testBit f) → some ((b && allB (ckB FF f q) n) && decide (rk q 6 ≤ 3)) = some (CAN FF n f q) := by
    intro b hb
    congr 1
    rw [hb]
    unfold CAN
    rw [Bool.eq_iff_iff]
    simp only [Bool.and_eq_true, allB_iff, decide_eq_true_eq, Bool.not_eq_true', ckA, ckB]
    constructor
    · intro ⟨⟨⟨h1, h2⟩, h3⟩, h4⟩
      refine ⟨h4, h2, fun v hv => ?_⟩
      by_cases x : q.testBit v = true
      · rw [if_pos (Or.inr x)]
        have := h3 v hv
        rw [if_pos x] at this
        exact this
      · by_cases y : v = f
        · rw [if_pos (Or.inl y), y]
          unfold ck1
          rw [h1]
          simp
        · rw [if_neg (fun w => by rcases w with w | w
                                  · exact y w
                                  · exact x w)]
    · intro ⟨h1, h2, h3⟩
      have hs := h3 f hf
      rw [if_pos (Or.inl rfl)] at hs
      unfold ck1 at hs
      rw [Bool.and_eq_true] at hs
      refine ⟨⟨⟨hs.2, h2⟩, fun v hv => ?_⟩, h1⟩
      by_cases x : q.testBit v = true
      · rw [if_pos x]
        have := h3 v hv
        rw [if_pos (Or.inr x)] at this
        exact this
      · rw [if_neg x]
  unfold f_X11_isSetOf f_X11_isSetOf_j22
  rw [isSmallM_ok b2 b3 (by omega), Option.bind_some]
  by_cases z : smB (FF f) = true
  case neg =>
    rw [if_neg z, run]
    exact all false (by rw [b2n z, Bool.false_and])
  rw [if_pos z]
  by_cases y : q.testBit f = false
  · rw [if_pos ((bitq_nI q hq f (by omega)).mpr y), run]
    exact all true (by rw [z, y]; rfl)
  · rw [if_neg (fun w => y ((bitq_nI q hq f (by omega)).mp w)), run]
    refine all false ?_
    rw [show q.testBit f = true by cases h : q.testBit f; exact absurd h y; rfl]
    simp
end SETOF
