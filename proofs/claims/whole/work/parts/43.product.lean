section PRODUCT
variable {hC hM : pq_H}
def pin (F' : pF) (c : Int64) (s1 k1 : Nat) (R : Nat → Int64) : Nat → Nat → Int64
  | 0 => R
  | b + 1 => fun t => if t = tri (s1 + (skT b).1) + (k1 + (skT b).2) then pin F' c s1 k1 R b t + c * (cfT F' b).toInt64 else pin F' c s1 k1 R b t
theorem pin_s (F' : pF) (c : Int64) (s1 k1 : Nat) (R : Nat → Int64) (b t : Nat) : pin F' c s1 k1 R (b + 1) t = if t = tri (s1 + (skT b).1) + (k1 + (skT b).2) then pin F' c s1 k1 R b t + c * (cfT F' b).toInt64 else pin F' c s1 k1 R b t := rfl
theorem pin_0 (F' : pF) (s1 k1 : Nat) (R : Nat → Int64) (b t : Nat) : pin F' 0 s1 k1 R b t = R t := by
  induction b with
  | zero => rfl
  | succ b ih =>
    rw [pin_s, ih, Int64.zero_mul, Int64.add_zero]
    split <;> rfl
def pout (F F' : pF) : Nat → Nat → Int64
  | 0 => fun _ => 0
  | a + 1 => pin F' (cfT F a).toInt64 (skT a).1 (skT a).2 (pout F F' a) (tri (F'.2.2.1 + 1))
theorem pout_s (F F' : pF) (a : Nat) : pout F F' (a + 1) = pin F' (cfT F a).toInt64 (skT a).1 (skT a).2 (pout F F' a) (tri (F'.2.2.1 + 1)) := rfl
def RC (h : pq_H) (D : Nat) (R : Nat → Int64) : Prop := rI h 59 1 = nI D ∧ ∀ t, t < tri (D + 1) → rJ h 60 t = R t
theorem EQ_ok {β : Type} {x : Option β} {P : pq_H → Prop} {f : pq_H → Option β} (h : EQ x P f) : ∃ h', P h' ∧ x = f h' := h
theorem addTimes_ok {h : pq_H} {f s1 k1 D : Nat} {F' : pF} {c : Int64} {R : Nat → Int64} (hF : FormC h f F') (hk : okF F') (hf : f < 12) (hD : D ≤ 12) (hs1 : s1 + F'.2.2.1 ≤ D) (hk1 : k1 ≤ s1) (hR : RC h D R) : ok (f_X6_addTimes c (nI (s1 - k1)) (nI k1) f h) (fun h' => frC h h' ∧ RC h' D (pin F' c s1 k1 R (tri (F'.2.2.1 + 1)))) := by
  have hd := hk.2.2.1
  unfold f_X6_addTimes
  by_cases z : c = 0
  · subst z
    rw [if_pos rfl]
    exact ok_some ⟨frC.rf h, hR.1, fun t ht => by rw [pin_0]; exact hR.2 t ht⟩
  rw [if_neg z]
  have key : EQ (lp (fun _ _ => none) (f_X6_addTimes_l10 c (nI (s1 - k1)) (nI k1) f) 1000 0 h) (fun h' => frC h h' ∧ RC h' D (pin F' c s1 k1 R (tri (F'.2.2.1 + 1)))) (fun h => some h) := by
    refine lp_forE (fun i h' => frC h h' ∧ RC h' D (pin F' c s1 k1 R (tri i))) (F'.2.2.1 + 1) ?_ ?_ 1000 0 h (by omega) (by omega) ⟨frC.rf h, hR⟩
    · intro s2 h' w hs2 ⟨g1, g2⟩
      unfold f_X6_addTimes_l10
      rw [(hF.frC hf g1).2.2.1, if_neg (nI_nlt (by omega) (by omega))]
      obtain ⟨h3, p3, e3⟩ := lp_forE (z := fun _ _ => none) (f := f_X6_addTimes_l23 c (nI (s1 - k1)) (nI k1) f w (nI s2)) (Q := fun h' => frC h h' ∧ RC h' D (pin F' c s1 k1 R (tri (s2 + 1)))) (e := fun h => w (nI (s2 + 1)) h) (fun k2 h' => frC h h' ∧ RC h' D (pin F' c s1 k1 R (tri s2 + k2))) (s2 + 1) (by
        intro k2 h4 w2 hk2 ⟨q1, q2⟩
        have hF4 := hF.frC hf q1
        have hb : tri (s1 + s2) + (k1 + k2) < tri (D + 1) := tri_lt (by omega) (by omega)
        have hb2 : tri (D + 1) ≤ 91 := tri_mono (show D + 1 ≤ 13 by omega)
        unfold f_X6_addTimes_l23
        rw [if_neg (nI_nlt (by omega) (by omega)), nI_add, nI_add, pk_sub (show k2 ≤ s1 - k1 + s2 by omega), termOf_nI (by omega), show s1 - k1 + s2 - k2 + (k1 + k2) = s1 + s2 by omega, hF4.2.2.1, pk_sub (show s2 ≤ F'.2.2.1 by omega), pk_sub (show k2 ≤ s2 by omega), has_ok hF4 hk (by omega), Option.bind_some, inbN (show tri (s1 + s2) + (k1 + k2) < 190 by omega) (by decide), gd_t, gd_t, nI_clamp (by omega), nI_1]
        refine ⟨_, rfl, q1.tr (frC.wJ _ _ _ _), q2.1, fun t ht => ?_⟩
        have ec : cfT F' (tri s2 + k2) = hasV F' (F'.2.2.1 - s2) (s2 - k2) k2 := by
          unfold cfT
          rw [skT_eq (show k2 ≤ s2 by omega)]
          rfl
        rw [show tri s2 + (k2 + 1) = tri s2 + k2 + 1 by omega, pin_s, skT_eq (show k2 ≤ s2 by omega), ec]
        by_cases y : t = tri (s1 + s2) + (k1 + k2)
        · rw [if_pos y, y, rJ_same, q2.2 _ hb]
        · rw [if_neg y, rJ_ne (by omega)]
          exact q2.2 t ht) (by
        intro h4 w2 ⟨q1, q2⟩
        unfold f_X6_addTimes_l23 f_X6_addTimes_j85
        rw [if_pos (nI_lt (by omega) (by omega)), nI_1]
        rw [← tri_succ] at q2
        exact ⟨h4, ⟨q1, q2⟩, rfl⟩) 1000 0 h' (by omega) (by omega) ⟨g1, g2⟩
      exact ⟨h3, e3, p3⟩
    · intro h' w ⟨g1, g2⟩
      unfold f_X6_addTimes_l10
      rw [(hF.frC hf g1).2.2.1, if_pos (nI_lt (by omega) (by omega))]
      exact ⟨h', ⟨g1, g2⟩, rfl⟩
  obtain ⟨h', p, e⟩ := key
  exact ⟨h', e, p⟩
theorem product2 {n m f f' : Nat} {F F' : pF} (i : InvG n m hC hM) (hf : f < 6) (hf' : f' < 6) (c1 : FormC hC f F) (c2 : FormM hM f F) (c3 : okF F) (d1 : FormC hC f' F') (d2 : FormM hM f' F') (d3 : okF F') : brg n m hC hM (f_X6_bringProduct (nI f) (nI f') hC) (f_X11_multiplies (nI f) (nI f') hM) := by
  have hd := c3.2.2.1
  have hd' := d3.2.2.1
  have C : EQ (f_X6_bringProduct (nI f) (nI f') hC) (fun h1 => frC hC h1 ∧ RC h1 (F.2.2.1 + F'.2.2.1) (pout F F' (tri (F.2.2.1 + 1)))) f_X6_settle := by
    unfold f_X6_bringProduct
    rw [inbN hf (by decide), inbN hf' (by decide), gd_t, gd_t, nI_clamp (by omega), nI_clamp (by omega), c1.2.2.1, d1.2.2.1, nI_add]
    refine EQ_bind (nought_ok (by omega) hC) (fun h1 ⟨k1, k2, k3⟩ => ?_)
    refine lp_forE (fun s h' => frC hC h' ∧ RC h' (F.2.2.1 + F'.2.2.1) (pout F F' (tri s))) (F.2.2.1 + 1) ?_ ?_ 1000 0 h1 (by omega) (by omega) ⟨k1, k2, fun t ht => k3 t ht⟩
    · intro s h' w hs ⟨g1, g2⟩
      unfold f_X6_bringProduct_l35
      rw [(c1.frC (by omega) g1).2.2.1, if_neg (nI_nlt (by omega) (by omega))]
      obtain ⟨h3, p3, e3⟩ := lp_forE (z := fun _ _ => none) (f := f_X6_bringProduct_l47 f f' w (nI s)) (Q := fun h' => frC hC h' ∧ RC h' (F.2.2.1 + F'.2.2.1) (pout F F' (tri (s + 1)))) (e := fun h => w (nI (s + 1)) h) (fun k h' => frC hC h' ∧ RC h' (F.2.2.1 + F'.2.2.1) (pout F F' (tri s + k))) (s + 1) (by
        intro k h4 w2 hk ⟨q1, q2⟩
        have cF := c1.frC (by omega) q1
        have cF' := d1.frC (by omega) q1
        unfold f_X6_bringProduct_l47
        rw [if_neg (nI_nlt (by omega) (by omega)), cF.2.2.1, pk_sub (show s ≤ F.2.2.1 by omega), pk_sub (show k ≤ s by omega), has_ok cF c3 (by omega), Option.bind_some]
        have ec : cfT F (tri s + k) = hasV F (F.2.2.1 - s) (s - k) k := by
          unfold cfT
          rw [skT_eq (show k ≤ s by omega)]
          rfl
        obtain ⟨h5, e5, p5, p6⟩ := addTimes_ok (c := (cfT F (tri s + k)).toInt64) cF' d3 (by omega) (by omega) (show s + F'.2.2.1 ≤ F.2.2.1 + F'.2.2.1 by omega) (show k ≤ s by omega) q2
        rw [← ec, e5, Option.bind_some, nI_1]
        refine ⟨h5, rfl, q1.tr p5, ?_⟩
        rw [show tri s + (k + 1) = tri s + k + 1 by omega, pout_s, skT_eq (show k ≤ s by omega)]
        exact p6) (by
        intro h4 w2 ⟨q1, q2⟩
        unfold f_X6_bringProduct_l47 f_X6_bringProduct_j92
        rw [if_pos (nI_lt (by omega) (by omega)), nI_1]
        rw [← tri_succ] at q2
        exact ⟨h4, ⟨q1, q2⟩, rfl⟩) 1000 0 h' (by omega) (by omega) ⟨g1, g2⟩
      exact ⟨h3, e3, p3⟩
    · intro h' w ⟨g1, g2⟩
      unfold f_X6_bringProduct_l35 f_X6_bringProduct_j98
      rw [(c1.frC (by omega) g1).2.2.1, if_pos (nI_lt (by omega) (by omega)), bd2_id]
      exact ⟨h', ⟨g1, g2⟩, rfl⟩
  obtain ⟨h1, ⟨p1, p2⟩, e1⟩ := C
  by_cases q : F.2.2.1 + F'.2.2.1 ≤ 6
  · have hb := tri28 q
    have hbF := tri28 hd
    have hbF' := tri28 hd'
    have M : EQ (f_X11_multiplies (nI f) (nI f') hM) (fun h2 => frM hM h2 ∧ ∀ t, t < tri (F.2.2.1 + F'.2.2.1 + 1) → rJ h2 8 t = pout F F' (tri (F.2.2.1 + 1)) t) (fun h => f_X11_comesIf (nI (F.2.2.1 + F'.2.2.1)) h) := by
      unfold f_X11_multiplies
      rw [inbN hf (by decide), inbN hf' (by decide), gd_t, gd_t, nI_clamp (by omega), nI_clamp (by omega), c2.2.2.1, d2.2.2.1, nI_add, if_pos (show nI (F.2.2.1 + F'.2.2.1) ≤ 6 from le_nIn (b := 6) q (by omega))]
      refine lp_forE (fun j h' => frM hM h' ∧ ∀ t, t < j → rJ h' 8 t = 0) 28 ?_ ?_ 1000 0 hM (by omega) (by omega) ⟨frM.rf hM, fun t ht => by omega⟩
      · intro j h' w hj ⟨q1, q2⟩
        unfold f_X11_multiplies_l26
        rw [if_neg (show ¬ (28 : Int32) ≤ nI j from nI_ge (b := 28) hj (by omega)), inbN hj (by decide), gd_t, nI_clamp (by omega), nI_1]
        refine ⟨_, rfl, q1.tr (frM.wJ _ _ _ _), fun t ht => ?_⟩
        by_cases z : t = j
        · rw [z, rJ_same]
        · rw [rJ_ne (by omega)]; exact q2 t (by omega)
      · intro h2 w ⟨q1, q2⟩
        unfold f_X11_multiplies_l26 f_X11_multiplies_j47
        rw [if_pos (show (28 : Int32) ≤ nI 28 from le_nIn (Nat.le_refl _) (by omega))]
        refine lp_forE (fun a h' => frM hM h' ∧ ∀ t, t < tri (F.2.2.1 + F'.2.2.1 + 1) → rJ h' 8 t = pout F F' a t) (tri (F.2.2.1 + 1)) ?_ ?_ 1000 0 h2 (by omega) (by omega) ⟨q1, fun t ht => q2 t (by omega)⟩
        · intro a h' w2 ha ⟨g1, g2⟩
          obtain ⟨s, k, hs, hk, e⟩ := tri_exD ha
          obtain ⟨x0, x1, x2⟩ := powerIn_ok (d := F.2.2.1) (by omega) hs hk
          unfold f_X11_multiplies_l50
          rw [isTerm_ok (c2.frM g1) c3 hf a (by omega), Option.bind_some, decide_eq_true ha, if_pos rfl]
          obtain ⟨h3, p3, e3⟩ := lp_forE (z := fun _ _ => none) (f := f_X11_multiplies_l63 (nI f) (nI f') (nI (F.2.2.1 + F'.2.2.1)) w2 (nI a)) (Q := fun h' => frM hM h' ∧ ∀ t, t < tri (F.2.2.1 + F'.2.2.1 + 1) → rJ h' 8 t = pout F F' (a + 1) t) (e := fun h => w2 (nI (a + 1)) h) (fun b h' => frM hM h' ∧ ∀ t, t < tri (F.2.2.1 + F'.2.2.1 + 1) → rJ h' 8 t = pin F' (cfT F a).toInt64 (skT a).1 (skT a).2 (pout F F' a) b t) (tri (F'.2.2.1 + 1)) (by
            intro b h4 w3 hb4 ⟨y1, y2⟩
            obtain ⟨s', k', hs', hk', e'⟩ := tri_exD hb4
            obtain ⟨z0, z1, z2⟩ := powerIn_ok (d := F'.2.2.1) (by omega) hs' hk'
            have eF := c2.frM y1
            have eF' := d2.frM y1
            have ea : cfT F a = cfV F s k := by unfold cfT; rw [e, skT_eq hk]
            have eb : cfT F' b = cfV F' s' k' := by unfold cfT; rw [e', skT_eq hk']
            have hidx : tri (s + s') + (k + k') < tri (F.2.2.1 + F'.2.2.1 + 1) := tri_lt (by omega) (by omega)
            unfold f_X11_multiplies_l63
            rw [isTerm_ok eF' d3 hf' b (by omega), Option.bind_some, decide_eq_true hb4, if_pos rfl, inbN hf (by decide), inbN hf' (by decide), nI_clamp (n := f) (by omega), nI_clamp (n := f') (by omega), eF.2.2.1, eF'.2.2.1, e, e', x0, x2, z0, z2, coef_ok eF c3 hf hs hk, coef_ok eF' d3 hf' hs' hk', ← e, ← e']
            simp only [gd_t, Option.bind_some]
            rw [nI_add, nI_add, termOfM_nI (show F.2.2.1 - s + (F'.2.2.1 - s') ≤ F.2.2.1 + F'.2.2.1 by omega) (by omega) (by omega), show F.2.2.1 + F'.2.2.1 - (F.2.2.1 - s + (F'.2.2.1 - s')) = s + s' by omega, inbN (show tri (s + s') + (k + k') < 28 by omega) (by decide), gd_t, gd_t, nI_clamp (by omega), nI_1]
            refine ⟨_, rfl, y1.tr (frM.wJ _ _ _ _), fun t ht => ?_⟩
            rw [pin_s, eb, ea]
            have sa : skT a = (s, k) := by rw [e]; exact skT_eq hk
            have sb : skT b = (s', k') := by rw [e']; exact skT_eq hk'
            rw [sa, sb] 
            by_cases y : t = tri (s + s') + (k + k')
            · rw [if_pos y, y, rJ_same, y2 _ hidx, sa, ea]
            · rw [if_neg y, rJ_ne (by omega), y2 t ht, sa, ea]) (by
            intro h4 w3 ⟨y1, y2⟩
            unfold f_X11_multiplies_l63 f_X11_multiplies_j158
            rw [isTerm_ok (d2.frM y1) d3 hf' _ (by omega), Option.bind_some, decide_eq_false (by omega), if_neg (by decide), nI_1]
            exact ⟨h4, ⟨y1, y2⟩, rfl⟩) 1000 0 h' (by omega) (by omega) ⟨g1, g2⟩
          exact ⟨h3, e3, p3⟩
        · intro h' w2 ⟨g1, g2⟩
          unfold f_X11_multiplies_l50 f_X11_multiplies_j164
          rw [isTerm_ok (c2.frM g1) c3 hf _ (by omega), Option.bind_some, decide_eq_false (by omega), if_neg (by decide), bd2_id]
          exact ⟨h', ⟨g1, g2⟩, rfl⟩
    obtain ⟨h2, ⟨r1, r2⟩, e2⟩ := M
    rw [e1, e2]
    have W : WC h1 (F.2.2.1 + F'.2.2.1) (fun s k => pout F F' (tri (F.2.2.1 + 1)) (tri s + k)) := ⟨p2.1, fun s k hs hk => p2.2 _ (tri_lt (by omega) hk)⟩
    exact brg_settle i q p1 r1 W (fun s k hs hk => r2 _ (tri_lt (by omega) hk))
  · right
    refine ⟨h1, hM, ?_, ?_, i.fr p1 (frM.rf hM), AF.of p1 (frM.rf hM)⟩
    · rw [e1]
      have j := i.fr p1 (frM.rf hM)
      exact settleBig j.1.1 j.1.2.1 p2.1 (by omega) (by omega)
    · unfold f_X11_multiplies
      rw [inbN hf (by decide), inbN hf' (by decide), gd_t, gd_t, nI_clamp (by omega), nI_clamp (by omega), c2.2.2.1, d2.2.2.1, nI_add, if_neg (show ¬ nI (F.2.2.1 + F'.2.2.1) ≤ 6 from nI_ge (a := 6) (by omega) (by omega))]
theorem ag_came {n : Nat} {x : Option (Bool × pq_H)} {y : Option (Int32 × pq_H)} (h : brg n n hC hM x y) : ag Inv (bd2 x fun r h => f_X10_cameOr r h) (bd2 y fun r h => f_X11_told r h) := by
  rcases h with ⟨a, b, e1, e2, hn, i, _⟩ | ⟨a, b, e1, e2, i, _⟩
  · obtain ⟨i1, ⟨m, x, u0, u1, u2, u3, u4, u5⟩, i3, i4, i5, i6, i7⟩ := i
    rw [e1, e2, bd2_some, bd2_some]
    unfold f_X10_cameOr f_X11_told
    rw [if_pos rfl, if_pos (nI_pos' (by omega)), hl_d, rI_ne (by omega), i1.2.1, show nI (n + 1) - 1 = nI n by rw [show (1 : Int32) = nI 1 from rfl, pk_sub (by omega), Nat.add_sub_cancel]]
    refine ag_c (nI n) (wI a 74 0 0) (wI b 0 8 0) rfl rfl ⟨n + 1, i1.fr ?_ ?_ ?_ ?_, InvU.nil x u1 (rI_same _ _ _ _) (rI_same _ _ _ _) ?_, i3.fr ?_ ?_ ?_ ?_, i4.fr ?_ ?_, i5.fr ?_ ?_ ?_ ?_, i6.fr ?_ ?_ ?_ ?_, i7.fr ?_⟩
    case refine_5 => rw [rI_ne (by omega)]; exact u4
    all_goals (intros; first | exact rI_ne (by omega) | rfl)
  · rw [e1, e2, bd2_some, bd2_some]
    unfold f_X10_cameOr f_X11_told
    rw [if_neg (by decide), if_neg (by decide), bd2_id, bd2_id]
    exact ag_no 6 rfl (by decide) (by decide) ⟨n, i⟩
theorem InvG.inv {n : Nat} (i : InvG n n hC hM) : Inv hC hM := ⟨n, i⟩
theorem a_sum : Ag_sum Inv := by
  intro hC hM p1 p2 i
  unfold f_X10_sum f_X11_sum f_X10_sum_j22 f_X11_sum_j16
  simp only [bd2_id]
  obtain ⟨n, iG⟩ := id i
  have i1 := iG.1
  rcases form_cases i1 p1 with ⟨a, b⟩ | ⟨f, hf, hf6, rfl, a, b, F, c1, c2, c3⟩
  · rw [if_pos a, if_neg (Bf b)]
    exact ag_no 1 rfl (by decide) (by decide) i
  rw [if_neg (Bf a), if_pos b]
  rcases form_cases i1 p2 with ⟨a, b⟩ | ⟨f', hf', hf6', rfl, a, b, F', d1, d2, d3⟩
  · rw [if_pos a, if_neg (Bf b)]
    exact ag_no 1 rfl (by decide) (by decide) i
  rw [if_neg (Bf a), if_pos b, inbN hf6 (by decide), inbN hf6' (by decide), nI_clamp (by omega), nI_clamp (by omega), c1.2.2.1, c2.2.2.1, d1.2.2.1, d2.2.2.1]
  simp only [gd_t]
  by_cases q : nI F.2.2.1 = nI F'.2.2.1
  · rw [if_pos q, if_pos q]
    have h1 := c3.2.2.1
    have h2 := d3.2.2.1
    exact ag_came (sum2 iG hf6 hf6' ((ieq (by omega) (by omega)).mp q).symm c1 c2 c3 d1 d2 d3)
  · rw [if_neg q, if_neg q]
    exact ag_no 3 rfl (by decide) (by decide) i
theorem a_product : Ag_product Inv := by
  intro hC hM p1 p2 i
  unfold f_X10_product f_X11_product f_X10_product_j22 f_X11_product_j16
  simp only [bd2_id]
  obtain ⟨n, iG⟩ := id i
  have i1 := iG.1
  rcases form_cases i1 p1 with ⟨a, b⟩ | ⟨f, hf, hf6, rfl, a, b, F, c1, c2, c3⟩
  · rw [if_pos a, if_neg (Bf b)]
    exact ag_no 1 rfl (by decide) (by decide) i
  rw [if_neg (Bf a), if_pos b]
  rcases form_cases i1 p2 with ⟨a, b⟩ | ⟨f', hf', hf6', rfl, a, b, F', d1, d2, d3⟩
  · rw [if_pos a, if_neg (Bf b)]
    exact ag_no 1 rfl (by decide) (by decide) i
  rw [if_neg (Bf a), if_pos b]
  exact ag_came (product2 iG hf6 hf6' c1 c2 c3 d1 d2 d3)
theorem a_lift : Ag_lift Inv := by
  intro hC hM p1 p2 i
  unfold f_X10_lift f_X11_lift f_X11_lift_j19 f_X11_bound
  simp only [bd2_id]
  obtain ⟨n, iG⟩ := id i
  rcases form_cases iG.1 p1 with ⟨a, b⟩ | ⟨f, hf, hf6, rfl, a, b, F, c1, c2, c3⟩
  · rw [if_pos a, if_neg (Bf b), if_neg (by decide)]
    exact ag_no 1 rfl (by decide) (by decide) i
  rw [if_neg (Bf a), if_pos b]
  by_cases q1 : 0 ≤ p2
  case neg =>
    rw [if_neg q1, if_neg q1, if_neg (by decide)]
    exact ag_no 4 rfl (by decide) (by decide) i
  rw [if_pos q1, if_pos q1]
  by_cases q2 : p2 ≤ 6
  · rw [if_pos q2, if_pos rfl]
    obtain ⟨v, hv, rfl⟩ := nI_of2 (M := 6) (n := 6) rfl (Int32.not_lt.mpr q1) q2
    exact ag_came (lift2 iG hf6 hv c1 c2 c3)
  · rw [if_neg q2, if_neg (by decide)]
    have e : f_X6_bringLift (nI f) p2 hC = some (false, hC) := by
      unfold f_X6_bringLift
      rw [if_neg q2]
    rw [e, bd2_some]
    unfold f_X10_cameOr
    rw [if_neg (by decide), bd2_id]
    exact ag_no 6 rfl (by decide) (by decide) i
theorem a_negative : Ag_negative Inv := by
  intro hC hM p1 i
  unfold f_X10_negative f_X11_negative
  simp only [bd2_id]
  obtain ⟨n, iG⟩ := id i
  rcases form_cases iG.1 p1 with ⟨a, b⟩ | ⟨f, hf, hf6, rfl, a, b, F, c1, c2, c3⟩
  · rw [if_pos a, if_neg (Bf b)]
    exact ag_no 1 rfl (by decide) (by decide) i
  rw [if_neg (Bf a), if_pos b]
  exact ag_came (negative2 iG hf6 c1 c2 c3)
theorem a_on : Ag_on Inv := by
  intro hC hM p1 p2 i
  unfold f_X10_on f_X11_on f_X10_on_j18 f_X11_on_j15
  simp only [bd2_id]
  obtain ⟨n, iG⟩ := id i
  rcases form_cases iG.1 p1 with ⟨a, b⟩ | ⟨f, hf, hf6, rfl, a, b, F, c1, c2, c3⟩
  · rw [if_pos a, if_neg (Bf b)]
    exact ag_no 1 rfl (by decide) (by decide) i
  rw [if_neg (Bf a), if_pos b]
  rcases side_cases p2 with ⟨sa, sb⟩ | ⟨g, g1, g2, rfl, sa, sb⟩
  · rw [if_neg (Bf sa), if_neg (Bf sb)]
    exact ag_no 1 rfl (by decide) (by decide) i
  rw [if_pos sa, if_pos sb]
  exact ag_came (on2 iG hf6 g1 g2 c1 c2 c3)
end PRODUCT
