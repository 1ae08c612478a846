section LAW
variable {X : pq_X} {S1 S2 : pq_S} {k n pc : Nat} {L : List (Nat × Value)} {st : List Value} {h1 h2 : pq_H} {b Ln : Nat} {xs : Nat → Int32}
def lT : List Nat := [192, 215, 228, 241, 254, 297, 340, 373, 406, 439, 493, 547, 600, 643, 696, 750, 804, 837, 881, 914, 968, 1001, 1034, 1067, 1090, 1123, 1156, 1209, 1242, 1285, 1319, 1362, 1395, 1408, 1421, 1434]
theorem l_and63 (x : Int32) : 0 ≤ (x &&& 63).toInt := by
  have h2 : (x.toBitVec &&& 63#32).toNat ≤ 63 := by
    rw [BitVec.toNat_and]
    exact Nat.and_le_right
  show 0 ≤ (x.toBitVec &&& 63#32).toInt
  rw [BitVec.toInt_eq_toNat_of_lt (by omega)]
  exact Int.natCast_nonneg _
theorem lT_ok : ∀ z, z < 36 → (#[160, 183, 196, 209, 222, 265, 308, 341, 374, 407, 461, 515, 568, 611, 664, 718, 772, 805, 849, 882, 936, 969, 1002, 1035, 1058, 1091, 1124, 1177, 1210, 1253, 1287, 1330, 1363, 1376, 1389, 1402] : Array Int)[z]? = some ((lT.getD z 0 : Nat) - 32 : Int) := by decide +kernel
theorem l_sw (hx : LX X b Ln xs) {x : Int32} (h0 : 0 ≤ x.toInt) (kIn : ∀ z, z < 36 → LW X S1 S2 k n (lT.getD z 0) L st h1 h2) (kOut : LW X S1 S2 k n 1457 L st h1 h2) : LW X S1 S2 k n 32 L (.int x :: st) h1 h2 := fun ls H locs hl p1 p2 hS => by
  by_cases h : 35 < x.toInt
  · exact lv_tableOut hx.1.1 hx.1.2.1 dL_law_32 (Or.inr h) (by decide) (kOut ls H locs hl p1 p2 hS)
  · obtain ⟨z, hz⟩ : ∃ z : Nat, x.toInt = z := ⟨x.toInt.toNat, by omega⟩
    refine lv_tableIn (tgt := lT.getD z 0) (off := (lT.getD z 0 : Nat) - 32) hx.1.1 hx.1.2.1 dL_law_32 (by omega) h ?_ (by omega) (kIn z (by omega) ls H locs hl p1 p2 hS)
    have e : (x.toInt - 0).toNat = z := by omega
    rw [e]
    exact lT_ok z (by omega)
def Ag (Inv : pq_H → pq_H → Prop) : Prop := Ag_letter Inv ∧ Ag_form Inv ∧ Ag_acts Inv ∧ Ag_drop Inv ∧ Ag_change Inv ∧ Ag_turn Inv ∧ Ag_of Inv ∧ Ag_taken Inv ∧ Ag_coefficient Inv ∧ Ag_value Inv ∧ Ag_lifted Inv ∧ Ag_fault Inv ∧ Ag_least Inv ∧ Ag_failing Inv ∧ Ag_lowest Inv ∧ Ag_share Inv ∧ Ag_proof Inv ∧ Ag_walls Inv ∧ Ag_wallsLeast Inv ∧ Ag_made Inv ∧ Ag_sum Inv ∧ Ag_product Inv ∧ Ag_lift Inv ∧ Ag_negative Inv ∧ Ag_on Inv ∧ Ag_spelled Inv ∧ Ag_lots Inv ∧ Ag_list Inv ∧ Ag_put Inv ∧ Ag_look Inv ∧ Ag_lays Inv ∧ Ag_judge Inv ∧ Ag_undo Inv ∧ Ag_image Inv ∧ Ag_back Inv ∧ Ag_count Inv
theorem l_more {i Ln : Nat} (hi : i ≤ Ln + 5) (hN : Ln ≤ 2560) (h : ¬ Int32.ofNat Ln - 5 < nI i) : i + 5 ≤ Ln := by
  have h1 : ¬ (Int32.ofNat Ln - 5).toInt < (nI i).toInt := fun z => h (Int32.lt_iff_toInt_lt.mpr z)
  rw [nI_toInt (by omega), Int32.toInt_sub] at h1
  have h2 : (Int32.ofNat Ln).toInt = (Ln : Int) := nI_toInt (n := Ln) (by omega)
  have h3 : (5 : Int32).toInt = 5 := rfl
  rw [h2, h3] at h1
  rw [show ((Ln : Int) - 5).bmod (2 ^ 32) = (Ln : Int) - 5 from Int.bmod_eq_of_le (by omega) (by omega)] at h1
  omega
set_option maxHeartbeats 4000000 in
set_option maxRecDepth 20000 in
theorem l_loop (hx : LX X b Ln xs) {gC gM : pq_g} {AC AM : Nat → Prop} (hc : LC X gC gM AC AM) (hN : Ln ≤ 2560) (hkn : k ≤ 600000 ∧ n ≤ 7302250) {Inv : pq_H → pq_H → Prop} (A : Ag Inv) (hE : ∀ (L : List (Nat × Value)) (hC hM : pq_H), LW X (SC gC) (SM gM) k n 1463 L [] hC hM) : ∀ (t i : Nat) (hC hM : pq_H), Ln < i + t → i ≤ Ln + 5 → Inv hC hM → LW X (SC gC) (SM gM) k n 18 (lL b (gM.1 0) (gC.1 55) i) [] hC hM := by
  intro t
  induction t with
  | zero =>
    intro i hC hM ht hi hI
    refine l_iload hx dL_law_18 rfl 0 rfl ?_
    refine l_aload hx dL_law_19 rfl 3 rfl ?_
    refine l_slen hx dL_law_20 ?_
    refine l_iconst hx (v := 5) dL_law_21 rfl ?_
    refine l_isub hx dL_law_22 ?_
    refine l_gt hx (tgt := 1463) dL_law_23 (by decide) (fun _ => hE _ _ _) (fun h => ?_)
    have := l_more hi hN h
    omega
  | succ t ih =>
    intro i hC hM ht hi hI
    refine l_iload hx dL_law_18 rfl 0 rfl ?_
    refine l_aload hx dL_law_19 rfl 3 rfl ?_
    refine l_slen hx dL_law_20 ?_
    refine l_iconst hx (v := 5) dL_law_21 rfl ?_
    refine l_isub hx dL_law_22 ?_
    refine l_gt hx (tgt := 1463) dL_law_23 (by decide) (fun _ => hE _ _ _) (fun h => ?_)
    have hm := l_more hi hN h
    refine l_aload hx dL_law_26 rfl 3 rfl ?_
    refine l_iload hx dL_law_27 rfl 0 rfl ?_
    refine l_sld hx (nI_inN (by omega) hN) dL_law_28 ?_
    refine l_bipush hx (v := 63) dL_law_29 rfl ?_
    refine l_iand hx dL_law_31 ?_
    have kE : LE X gC gM b k n Inv i := fun hC' hM' hI' => by
      refine l_iinc hx (L' := lL b (gM.1 0) (gC.1 55) (i + 5)) dL_law_1457 (j := 0) rfl (nI_add i 5) (by decide) rfl ?_
      refine l_goto hx dL_law_1460 (tgt := 18) (by decide) ?_
      exact ih (i + 5) hC' hM' (by omega) (by omega) hI'
    refine l_sw hx (l_and63 _) (fun z hz => ?_) (kE hC hM hI)
    match z, hz with
    | 0, _ => exact lc_0 hx hc i hm hN hkn A.1 kE hI
    | 1, _ => exact lc_1 hx hc i hm hN hkn A.2.1 kE hI
    | 2, _ => exact lc_2 hx hc i hm hN hkn A.2.2.1 kE hI
    | 3, _ => exact lc_3 hx hc i hm hN hkn A.2.2.2.1 kE hI
    | 4, _ => exact lc_4 hx hc i hm hN hkn A.2.2.2.2.1 kE hI
    | 5, _ => exact lc_5 hx hc i hm hN hkn A.2.2.2.2.2.1 kE hI
    | 6, _ => exact lc_6 hx hc i hm hN hkn A.2.2.2.2.2.2.1 kE hI
    | 7, _ => exact lc_7 hx hc i hm hN hkn A.2.2.2.2.2.2.2.1 kE hI
    | 8, _ => exact lc_8 hx hc i hm hN hkn A.2.2.2.2.2.2.2.2.1 kE hI
    | 9, _ => exact lc_9 hx hc i hm hN hkn A.2.2.2.2.2.2.2.2.2.1 kE hI
    | 10, _ => exact lc_10 hx hc i hm hN hkn A.2.2.2.2.2.2.2.2.2.2.1 kE hI
    | 11, _ => exact lc_11 hx hc i hm hN hkn A.2.2.2.2.2.2.2.2.2.2.2.1 kE hI
    | 12, _ => exact lc_12 hx hc i hm hN hkn A.2.2.2.2.2.2.2.2.2.2.2.2.1 kE hI
    | 13, _ => exact lc_13 hx hc i hm hN hkn A.2.2.2.2.2.2.2.2.2.2.2.2.2.1 kE hI
    | 14, _ => exact lc_14 hx hc i hm hN hkn A.2.2.2.2.2.2.2.2.2.2.2.2.2.2.1 kE hI
    | 15, _ => exact lc_15 hx hc i hm hN hkn A.2.2.2.2.2.2.2.2.2.2.2.2.2.2.2.1 kE hI
    | 16, _ => exact lc_16 hx hc i hm hN hkn A.2.2.2.2.2.2.2.2.2.2.2.2.2.2.2.2.1 kE hI
    | 17, _ => exact lc_17 hx hc i hm hN hkn A.2.2.2.2.2.2.2.2.2.2.2.2.2.2.2.2.2.1 kE hI
    | 18, _ => exact lc_18 hx hc i hm hN hkn A.2.2.2.2.2.2.2.2.2.2.2.2.2.2.2.2.2.2.1 kE hI
    | 19, _ => exact lc_19 hx hc i hm hN hkn A.2.2.2.2.2.2.2.2.2.2.2.2.2.2.2.2.2.2.2.1 kE hI
    | 20, _ => exact lc_20 hx hc i hm hN hkn A.2.2.2.2.2.2.2.2.2.2.2.2.2.2.2.2.2.2.2.2.1 kE hI
    | 21, _ => exact lc_21 hx hc i hm hN hkn A.2.2.2.2.2.2.2.2.2.2.2.2.2.2.2.2.2.2.2.2.2.1 kE hI
    | 22, _ => exact lc_22 hx hc i hm hN hkn A.2.2.2.2.2.2.2.2.2.2.2.2.2.2.2.2.2.2.2.2.2.2.1 kE hI
    | 23, _ => exact lc_23 hx hc i hm hN hkn A.2.2.2.2.2.2.2.2.2.2.2.2.2.2.2.2.2.2.2.2.2.2.2.1 kE hI
    | 24, _ => exact lc_24 hx hc i hm hN hkn A.2.2.2.2.2.2.2.2.2.2.2.2.2.2.2.2.2.2.2.2.2.2.2.2.1 kE hI
    | 25, _ => exact lc_25 hx hc i hm hN hkn A.2.2.2.2.2.2.2.2.2.2.2.2.2.2.2.2.2.2.2.2.2.2.2.2.2.1 kE hI
    | 26, _ => exact lc_26 hx hc i hm hN hkn A.2.2.2.2.2.2.2.2.2.2.2.2.2.2.2.2.2.2.2.2.2.2.2.2.2.2.1 kE hI
    | 27, _ => exact lc_27 hx hc i hm hN hkn A.2.2.2.2.2.2.2.2.2.2.2.2.2.2.2.2.2.2.2.2.2.2.2.2.2.2.2.1 kE hI
    | 28, _ => exact lc_28 hx hc i hm hN hkn A.2.2.2.2.2.2.2.2.2.2.2.2.2.2.2.2.2.2.2.2.2.2.2.2.2.2.2.2.1 kE hI
    | 29, _ => exact lc_29 hx hc i hm hN hkn A.2.2.2.2.2.2.2.2.2.2.2.2.2.2.2.2.2.2.2.2.2.2.2.2.2.2.2.2.2.1 kE hI
    | 30, _ => exact lc_30 hx hc i hm hN hkn A.2.2.2.2.2.2.2.2.2.2.2.2.2.2.2.2.2.2.2.2.2.2.2.2.2.2.2.2.2.2.1 kE hI
    | 31, _ => exact lc_31 hx hc i hm hN hkn A.2.2.2.2.2.2.2.2.2.2.2.2.2.2.2.2.2.2.2.2.2.2.2.2.2.2.2.2.2.2.2.1 kE hI
    | 32, _ => exact lc_32 hx hc i hm hN hkn A.2.2.2.2.2.2.2.2.2.2.2.2.2.2.2.2.2.2.2.2.2.2.2.2.2.2.2.2.2.2.2.2.1 kE hI
    | 33, _ => exact lc_33 hx hc i hm hN hkn A.2.2.2.2.2.2.2.2.2.2.2.2.2.2.2.2.2.2.2.2.2.2.2.2.2.2.2.2.2.2.2.2.2.1 kE hI
    | 34, _ => exact lc_34 hx hc i hm hN hkn A.2.2.2.2.2.2.2.2.2.2.2.2.2.2.2.2.2.2.2.2.2.2.2.2.2.2.2.2.2.2.2.2.2.2.1 kE hI
    | 35, _ => exact lc_35 hx hc i hm hN hkn A.2.2.2.2.2.2.2.2.2.2.2.2.2.2.2.2.2.2.2.2.2.2.2.2.2.2.2.2.2.2.2.2.2.2.2 kE hI
    | z + 36, h => exact absurd h (by omega)
end LAW
