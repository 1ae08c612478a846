def f_X4_isPolynomial_l15 (p1 : Int32) (h : pq_H) (w15 : Int32 → Option Bool) (v2 : Int32) : Option Bool :=
  gd (inb p1 3) (if (rI h 81 p1.toNatClampNeg) ≤ v2 then (some true) else (gd (inb p1 3) (gd (inb v2 40) (if (rI h (52 + p1.toNatClampNeg) v2.toNatClampNeg) < (-1000000) then (some false) else (gd (inb p1 3) (gd (inb v2 40) (if (rI h (52 + p1.toNatClampNeg) v2.toNatClampNeg) ≤ 1000000 then (w15 (v2 + 1)) else (some false))))))))
def f_X4_isPolynomial (p1 : Int32) (h : pq_H) : Option Bool :=
  gd (inb p1 3) (if (rI h 81 p1.toNatClampNeg) ≤ 9 then (lp (fun _ => none) (f_X4_isPolynomial_l15 p1 h) 1000 0) else (some false))
set_option maxRecDepth 100000 in
set_option maxHeartbeats 4000000 in
theorem c_X4_isPolynomial (g : pq_g) {A : Nat → Prop} (hA : pq_A (SC g) A) (l : Launch) (p1 : Int32) (h : pq_H) {rr : Bool} (e : f_X4_isPolynomial p1 h = some rr) : pq_M (SC g) A l yX4_isPolynomial cX4_isPolynomial 3 (some .boolean) 0 0 [.ref ((SC g).1.2.1 79), .int p1] h (some (.int (b2i rr))) h := by
  refine pq_met hA l (own := RX4) 0 0 _ [(0, .ref ((SC g).1.2.1 79)), (1, .int p1)] h _ h (by decide +kernel) rfl (Nat.le_of_ble_eq_true rfl) rfl (fun X hXl hXA hB hK hR => ?_)
  refine V.cast (F' := f_X4_isPolynomial p1 h) (res' := rr) (fun _ => e) ?_
  have hn15 : ∀ (n : Nat), ∀ (v2 : Int32), V X (SC g) rr 3 15 [(0, .ref ((SC g).1.2.1 79)), (1, .int p1), (2, .int v2)] [] h (lp (fun _ => none) (f_X4_isPolynomial_l15 p1 h) n v2) := by
    refine lp_ind (fun (w15 : Int32 → Option Bool) => ∀ (v2 : Int32), V X (SC g) rr 3 15 [(0, .ref ((SC g).1.2.1 79)), (1, .int p1), (2, .int v2)] [] h (w15 v2)) (fun _ => V.none _ _ _ _) (fun w15 ih15 => ?_)
    intro v2
    unfold f_X4_isPolynomial_l15
    refine v_iload_n hB 2 dX4_isPolynomial_15 rfl rfl ?_
    refine v_aload_n hB 0 dX4_isPolynomial_16 rfl rfl ?_
    refine v_getA hB hK (fl_X4_16 g) (cCA_79_1 g) dX4_isPolynomial_17 ?_
    refine v_iload_n hB 1 dX4_isPolynomial_20 rfl rfl ?_
    refine v_iald hB hK (aCI_81 g) dX4_isPolynomial_21 ?_
    refine v_icmp_ge (tgt := 59) hB dX4_isPolynomial_22 rfl ?_ ?_
    · refine v_iconst hB 1 dX4_isPolynomial_59 (by decide) ?_
      exact v_retRz (x := true) hB hK hR dX4_isPolynomial_60
    · refine v_aload_n hB 0 dX4_isPolynomial_25 rfl rfl ?_
      refine v_getA hB hK (fl_X4_11 g) (cCA_79_0 g) dX4_isPolynomial_26 ?_
      refine v_iload_n hB 1 dX4_isPolynomial_29 rfl rfl ?_
      refine v_aa80 hB hK dX4_isPolynomial_30 (fun q30 => ?_)
      refine v_iload_n hB 2 dX4_isPolynomial_31 rfl rfl ?_
      refine v_iald hB hK (aI_lrow g p1.toNatClampNeg q30) dX4_isPolynomial_32 ?_
      refine v_ldc hB (-1000000) k_X4_20 dX4_isPolynomial_33 ?_
      refine v_icmp_lt (tgt := 51) hB dX4_isPolynomial_35 rfl ?_ ?_
      · refine v_iconst hB 0 dX4_isPolynomial_51 (by decide) ?_
        exact v_retRz (x := false) hB hK hR dX4_isPolynomial_52
      · refine v_aload_n hB 0 dX4_isPolynomial_38 rfl rfl ?_
        refine v_getA hB hK (fl_X4_11 g) (cCA_79_0 g) dX4_isPolynomial_39 ?_
        refine v_iload_n hB 1 dX4_isPolynomial_42 rfl rfl ?_
        refine v_aa80 hB hK dX4_isPolynomial_43 (fun q43 => ?_)
        refine v_iload_n hB 2 dX4_isPolynomial_44 rfl rfl ?_
        refine v_iald hB hK (aI_lrow g p1.toNatClampNeg q43) dX4_isPolynomial_45 ?_
        refine v_ldc hB 1000000 k_X4_21 dX4_isPolynomial_46 ?_
        refine v_icmp_le (tgt := 53) hB dX4_isPolynomial_48 rfl ?_ ?_
        · refine v_iinc hB (v2 + 1) [(0, .ref ((SC g).1.2.1 79)), (1, .int p1), (2, .int (v2 + 1))] 2 [1, 2, 0] dX4_isPolynomial_53 rfl rfl (by decide) rfl ?_
          refine v_goto (tgt := 15) hB dX4_isPolynomial_56 rfl ?_
          exact V.sub [0, 1, 2] rfl (ih15 (v2 + 1))
        · refine v_iconst hB 0 dX4_isPolynomial_51 (by decide) ?_
          exact v_retRz (x := false) hB hK hR dX4_isPolynomial_52
  unfold f_X4_isPolynomial
  refine v_aload_n hB 0 dX4_isPolynomial_0 rfl rfl ?_
  refine v_getA hB hK (fl_X4_16 g) (cCA_79_1 g) dX4_isPolynomial_1 ?_
  refine v_iload_n hB 1 dX4_isPolynomial_4 rfl rfl ?_
  refine v_iald hB hK (aCI_81 g) dX4_isPolynomial_5 ?_
  refine v_bipush hB 9 dX4_isPolynomial_6 (by decide) ?_
  refine v_icmp_le (tgt := 13) hB dX4_isPolynomial_8 rfl ?_ ?_
  · refine v_iconst hB 0 dX4_isPolynomial_13 (by decide) ?_
    refine v_istore_n hB [(0, .ref ((SC g).1.2.1 79)), (1, .int p1), (2, .int 0)] [1, 2, 0] dX4_isPolynomial_14 rfl (by decide) rfl ?_
    exact V.sub [0, 1, 2] rfl (hn15 1000 0)
  · refine v_iconst hB 0 dX4_isPolynomial_11 (by decide) ?_
    exact v_retRz (x := false) hB hK hR dX4_isPolynomial_12

def f_X4_ways_l5 (p0 : Int32) (p1 : Int32) (w5 : Int64 → Int32 → Option Int64) (v2 : Int64) (v4 : Int32) : Option Int64 :=
  if p1 < v4 then (some v2) else (gd (v4.toInt64 != 0) (w5 ((v2 * (((p0 - p1) + v4).toInt64)) / v4.toInt64) (v4 + 1)))
def f_X4_ways (p0 : Int32) (p1 : Int32) : Option Int64 :=
  lp (fun _ _ => none) (f_X4_ways_l5 p0 p1) 1000 1 1
set_option maxRecDepth 100000 in
set_option maxHeartbeats 4000000 in
theorem c_X4_ways (g : pq_g) {A : Nat → Prop} (hA : pq_A (SC g) A) (l : Launch) (p0 : Int32) (p1 : Int32) (h : pq_H) {rr : Int64} (e : f_X4_ways p0 p1 = some rr) : pq_M (SC g) A l yX4_ways cX4_ways 5 (some .long) 0 0 [.int p0, .int p1] h (some (.long rr)) h := by
  refine pq_met hA l (own := RX4) 0 0 _ [(0, .int p0), (1, .int p1)] h _ h (by decide +kernel) rfl (Nat.le_of_ble_eq_true rfl) rfl (fun X hXl hXA hB hK hR => ?_)
  refine V.cast (F' := f_X4_ways p0 p1) (res' := rr) (fun _ => e) ?_
  have hn5 : ∀ (n : Nat), ∀ (v2 : Int64) (v4 : Int32), V X (SC g) rr 5 5 [(0, .int p0), (1, .int p1), (2, .long v2), (4, .int v4)] [] h (lp (fun _ _ => none) (f_X4_ways_l5 p0 p1) n v2 v4) := by
    refine lp_ind (fun (w5 : Int64 → Int32 → Option Int64) => ∀ (v2 : Int64) (v4 : Int32), V X (SC g) rr 5 5 [(0, .int p0), (1, .int p1), (2, .long v2), (4, .int v4)] [] h (w5 v2 v4)) (fun _ _ => V.none _ _ _ _) (fun w5 ih5 => ?_)
    intro v2 v4
    unfold f_X4_ways_l5
    refine v_iload hB 3 dX4_ways_5 rfl ?_
    refine v_iload_n hB 1 dX4_ways_7 rfl rfl ?_
    refine v_icmp_gt (tgt := 31) hB dX4_ways_8 rfl ?_ ?_
    · refine v_lload_n hB 2 dX4_ways_31 rfl rfl ?_
      exact v_retRj (x := v2) hB hK hR dX4_ways_32
    · refine v_lload_n hB 2 dX4_ways_11 rfl rfl ?_
      refine v_iload_n hB 0 dX4_ways_12 rfl rfl ?_
      refine v_iload_n hB 1 dX4_ways_13 rfl rfl ?_
      refine v_isub hB dX4_ways_14 ?_
      refine v_iload hB 3 dX4_ways_15 rfl ?_
      refine v_iadd hB dX4_ways_17 ?_
      refine v_i2l hB dX4_ways_18 ?_
      refine v_lmul hB dX4_ways_19 ?_
      refine v_iload hB 3 dX4_ways_20 rfl ?_
      refine v_i2l hB dX4_ways_22 ?_
      refine v_ldivG hB dX4_ways_23 ?_
      refine v_lstore_n hB [(0, .int p0), (1, .int p1), (2, .long ((v2 * (((p0 - p1) + v4).toInt64)) / v4.toInt64)), (4, .int v4)] [1, 2, 0, 3] dX4_ways_24 rfl (by decide) rfl ?_
      refine v_iinc hB (v4 + 1) [(0, .int p0), (1, .int p1), (2, .long ((v2 * (((p0 - p1) + v4).toInt64)) / v4.toInt64)), (4, .int (v4 + 1))] 3 [1, 2, 3, 0] dX4_ways_25 rfl rfl (by decide) rfl ?_
      refine v_goto (tgt := 5) hB dX4_ways_28 rfl ?_
      exact V.sub [0, 1, 2, 3] rfl (ih5 ((v2 * (((p0 - p1) + v4).toInt64)) / v4.toInt64) (v4 + 1))
  unfold f_X4_ways
  refine v_lconst hB 1 dX4_ways_0 (by decide) ?_
  refine v_lstore_n hB [(0, .int p0), (1, .int p1), (2, .long 1)] [1, 2, 0] dX4_ways_1 rfl (by decide) rfl ?_
  refine v_iconst hB 1 dX4_ways_2 (by decide) ?_
  refine v_istore hB [(0, .int p0), (1, .int p1), (2, .long 1), (4, .int 1)] [1, 2, 3, 0] dX4_ways_3 (by decide) rfl ?_
  exact V.sub [0, 1, 2, 3] rfl (hn5 1000 1 1)

def f_X4_wall_l6 (p1 : Int32) (p2 : Int32) (p3 : Int32) (h : pq_H) (w6 : Int64 → Int32 → Option Int64) (v4 : Int64) (v6 : Int32) : Option Int64 :=
  gd (inb p1 3) (if (rI h 81 p1.toNatClampNeg) ≤ v6 then (some v4) else (if p3 < v6 then (some v4) else (gd (inb p1 3) (gd (inb v6 40) ((f_X4_ways (p2 - v6) (p3 - v6)).bind fun r43 => w6 (v4 + (((rI h (52 + p1.toNatClampNeg) v6.toNatClampNeg).toInt64) * r43)) (v6 + 1))))))
def f_X4_wall (p1 : Int32) (p2 : Int32) (p3 : Int32) (h : pq_H) : Option Int64 :=
  lp (fun _ _ => none) (f_X4_wall_l6 p1 p2 p3 h) 1000 0 0
set_option maxRecDepth 100000 in
set_option maxHeartbeats 4000000 in
theorem c_X4_wall (g : pq_g) {A : Nat → Prop} (hA : pq_A (SC g) A) (l : Launch) (p1 : Int32) (p2 : Int32) (p3 : Int32) (h : pq_H) {rr : Int64} (e : f_X4_wall p1 p2 p3 h = some rr) : pq_M (SC g) A l yX4_wall cX4_wall 7 (some .long) 1 24 [.ref ((SC g).1.2.1 79), .int p1, .int p2, .int p3] h (some (.long rr)) h := by
  refine pq_met hA l (own := RX4) 1 24 _ [(0, .ref ((SC g).1.2.1 79)), (1, .int p1), (2, .int p2), (3, .int p3)] h _ h (by decide +kernel) rfl (Nat.le_of_ble_eq_true rfl) rfl (fun X hXl hXA hB hK hR => ?_)
  refine V.cast (F' := f_X4_wall p1 p2 p3 h) (res' := rr) (fun _ => e) ?_
  have hn6 : ∀ (n : Nat), ∀ (v4 : Int64) (v6 : Int32), V X (SC g) rr 7 6 [(0, .ref ((SC g).1.2.1 79)), (1, .int p1), (2, .int p2), (3, .int p3), (4, .long v4), (6, .int v6)] [] h (lp (fun _ _ => none) (f_X4_wall_l6 p1 p2 p3 h) n v4 v6) := by
    refine lp_ind (fun (w6 : Int64 → Int32 → Option Int64) => ∀ (v4 : Int64) (v6 : Int32), V X (SC g) rr 7 6 [(0, .ref ((SC g).1.2.1 79)), (1, .int p1), (2, .int p2), (3, .int p3), (4, .long v4), (6, .int v6)] [] h (w6 v4 v6)) (fun _ _ => V.none _ _ _ _) (fun w6 ih6 => ?_)
    intro v4 v6
    unfold f_X4_wall_l6
    refine v_iload hB 5 dX4_wall_6 rfl ?_
    refine v_aload_n hB 0 dX4_wall_8 rfl rfl ?_
    refine v_getA hB hK (fl_X4_16 g) (cCA_79_1 g) dX4_wall_9 ?_
    refine v_iload_n hB 1 dX4_wall_12 rfl rfl ?_
    refine v_iald hB hK (aCI_81 g) dX4_wall_13 ?_
    refine v_icmp_ge (tgt := 56) hB dX4_wall_14 rfl ?_ ?_
    · refine v_lload hB 4 dX4_wall_56 rfl ?_
      exact v_retRj (x := v4) hB hK hR dX4_wall_58
    · refine v_iload hB 5 dX4_wall_17 rfl ?_
      refine v_iload_n hB 3 dX4_wall_19 rfl rfl ?_
      refine v_icmp_gt (tgt := 56) hB dX4_wall_20 rfl ?_ ?_
      · refine v_lload hB 4 dX4_wall_56 rfl ?_
        exact v_retRj (x := v4) hB hK hR dX4_wall_58
      · refine v_lload hB 4 dX4_wall_23 rfl ?_
        refine v_aload_n hB 0 dX4_wall_25 rfl rfl ?_
        refine v_getA hB hK (fl_X4_11 g) (cCA_79_0 g) dX4_wall_26 ?_
        refine v_iload_n hB 1 dX4_wall_29 rfl rfl ?_
        refine v_aa80 hB hK dX4_wall_30 (fun q30 => ?_)
        refine v_iload hB 5 dX4_wall_31 rfl ?_
        refine v_iald hB hK (aI_lrow g p1.toNatClampNeg q30) dX4_wall_33 ?_
        refine v_i2l hB dX4_wall_34 ?_
        refine v_iload_n hB 2 dX4_wall_35 rfl rfl ?_
        refine v_iload hB 5 dX4_wall_36 rfl ?_
        refine v_isub hB dX4_wall_38 ?_
        refine v_iload_n hB 3 dX4_wall_39 rfl rfl ?_
        refine v_iload hB 5 dX4_wall_40 rfl ?_
        refine v_isub hB dX4_wall_42 ?_
        refine v_bRj (fun r43 e43 => v_callS hB hK hR.rm [.int (p2 - v6), .int (p3 - v6)] [.long ((rI h (52 + p1.toNatClampNeg) v6.toNatClampNeg).toInt64), .long v4] lb_X4_ways lv_X4_22 (c_X4_ways g hK.A X.1.2.1 (p2 - v6) (p3 - v6) h e43) dX4_wall_43 rfl rfl (Nat.le_of_ble_eq_true rfl) (by decide) (by decide)) (fun r43 => ?_)
        refine v_lmul hB dX4_wall_46 ?_
        refine v_ladd hB dX4_wall_47 ?_
        refine v_lstore hB [(0, .ref ((SC g).1.2.1 79)), (1, .int p1), (2, .int p2), (3, .int p3), (4, .long (v4 + (((rI h (52 + p1.toNatClampNeg) v6.toNatClampNeg).toInt64) * r43))), (6, .int v6)] [1, 2, 3, 4, 0, 5] dX4_wall_48 (by decide) rfl ?_
        refine v_iinc hB (v6 + 1) [(0, .ref ((SC g).1.2.1 79)), (1, .int p1), (2, .int p2), (3, .int p3), (4, .long (v4 + (((rI h (52 + p1.toNatClampNeg) v6.toNatClampNeg).toInt64) * r43))), (6, .int (v6 + 1))] 5 [1, 2, 3, 4, 5, 0] dX4_wall_50 rfl rfl (by decide) rfl ?_
        refine v_goto (tgt := 6) hB dX4_wall_53 rfl ?_
        exact V.sub [0, 1, 2, 3, 4, 5] rfl (ih6 (v4 + (((rI h (52 + p1.toNatClampNeg) v6.toNatClampNeg).toInt64) * r43)) (v6 + 1))
  unfold f_X4_wall
  refine v_lconst hB 0 dX4_wall_0 (by decide) ?_
  refine v_lstore hB [(0, .ref ((SC g).1.2.1 79)), (1, .int p1), (2, .int p2), (3, .int p3), (4, .long 0)] [1, 2, 3, 4, 0] dX4_wall_1 (by decide) rfl ?_
  refine v_iconst hB 0 dX4_wall_3 (by decide) ?_
  refine v_istore hB [(0, .ref ((SC g).1.2.1 79)), (1, .int p1), (2, .int p2), (3, .int p3), (4, .long 0), (6, .int 0)] [1, 2, 3, 4, 5, 0] dX4_wall_4 (by decide) rfl ?_
  exact V.sub [0, 1, 2, 3, 4, 5] rfl (hn6 1000 0 0)

def f_X10_fails (p0 : Int64) (p2 : Int32) : Bool :=
  if p2 = 0 then (if 0 ≤ p0 then (false) else (true)) else (if 0 < p0 then (false) else (true))
set_option maxRecDepth 100000 in
set_option maxHeartbeats 4000000 in
theorem c_X10_fails (g : pq_g) {A : Nat → Prop} (hA : pq_A (SC g) A) (l : Launch) (p0 : Int64) (p2 : Int32) (h : pq_H) : pq_M (SC g) A l yX10_fails cX10_fails 3 (some .boolean) 0 0 [.long p0, .int p2] h (some (.int (b2i (f_X10_fails p0 p2)))) h := by
  refine pq_met hA l (own := RX10) 0 0 _ [(0, .long p0), (2, .int p2)] h _ h (by decide +kernel) rfl (Nat.le_of_ble_eq_true rfl) rfl (fun X hXl hXA hB hK hR => ?_)
  refine V.cast (F' := some (f_X10_fails p0 p2)) (res' := (f_X10_fails p0 p2)) (fun _ => rfl) ?_
  unfold f_X10_fails
  refine v_iload_n hB 1 dX10_fails_0 rfl rfl ?_
  refine v_if_neT (tgt := 18) hB dX10_fails_1 rfl ?_ ?_
  · refine v_lload_n hB 0 dX10_fails_18 rfl rfl ?_
    refine v_lconst hB 0 dX10_fails_19 (by decide) ?_
    refine v_lcmp_gtT (tgt := 28) hB dX10_fails_20 dX10_fails_21 rfl ?_ ?_
    · refine v_iconst hB 0 dX10_fails_28 (by decide) ?_
      exact v_retRz (x := false) hB hK hR dX10_fails_29
    · refine v_iconst hB 1 dX10_fails_24 (by decide) ?_
      refine v_goto (tgt := 29) hB dX10_fails_25 rfl ?_
      exact v_retRz (x := true) hB hK hR dX10_fails_29
  · refine v_lload_n hB 0 dX10_fails_4 rfl rfl ?_
    refine v_lconst hB 0 dX10_fails_5 (by decide) ?_
    refine v_lcmp_geT (tgt := 14) hB dX10_fails_6 dX10_fails_7 rfl ?_ ?_
    · refine v_iconst hB 0 dX10_fails_14 (by decide) ?_
      refine v_goto (tgt := 29) hB dX10_fails_15 rfl ?_
      exact v_retRz (x := false) hB hK hR dX10_fails_29
    · refine v_iconst hB 1 dX10_fails_10 (by decide) ?_
      refine v_goto (tgt := 29) hB dX10_fails_11 rfl ?_
      exact v_retRz (x := true) hB hK hR dX10_fails_29

def f_X4_wallsClear_l3 (p1 : Int32) (p2 : Int32) (p3 : Int32) (h : pq_H) (w3 : Int32 → Option Bool) (v4 : Int32) : Option Bool :=
  if p2 < v4 then (some true) else ((f_X4_wall p1 p2 v4 h).bind fun r14 => if (f_X10_fails r14 p3) = true then (some false) else (w3 (v4 + 1)))
def f_X4_wallsClear (p1 : Int32) (p2 : Int32) (p3 : Int32) (h : pq_H) : Option Bool :=
  lp (fun _ => none) (f_X4_wallsClear_l3 p1 p2 p3 h) 1000 0
set_option maxRecDepth 100000 in
set_option maxHeartbeats 4000000 in
theorem c_X4_wallsClear (g : pq_g) {A : Nat → Prop} (hA : pq_A (SC g) A) (l : Launch) (p1 : Int32) (p2 : Int32) (p3 : Int32) (h : pq_H) {rr : Bool} (e : f_X4_wallsClear p1 p2 p3 h = some rr) : pq_M (SC g) A l yX4_wallsClear cX4_wallsClear 5 (some .boolean) 2 50 [.ref ((SC g).1.2.1 79), .int p1, .int p2, .int p3] h (some (.int (b2i rr))) h := by
  refine pq_met hA l (own := RX4) 2 50 _ [(0, .ref ((SC g).1.2.1 79)), (1, .int p1), (2, .int p2), (3, .int p3)] h _ h (by decide +kernel) rfl (Nat.le_of_ble_eq_true rfl) rfl (fun X hXl hXA hB hK hR => ?_)
  refine V.cast (F' := f_X4_wallsClear p1 p2 p3 h) (res' := rr) (fun _ => e) ?_
  have hn3 : ∀ (n : Nat), ∀ (v4 : Int32), V X (SC g) rr 5 3 [(0, .ref ((SC g).1.2.1 79)), (1, .int p1), (2, .int p2), (3, .int p3), (4, .int v4)] [] h (lp (fun _ => none) (f_X4_wallsClear_l3 p1 p2 p3 h) n v4) := by
    refine lp_ind (fun (w3 : Int32 → Option Bool) => ∀ (v4 : Int32), V X (SC g) rr 5 3 [(0, .ref ((SC g).1.2.1 79)), (1, .int p1), (2, .int p2), (3, .int p3), (4, .int v4)] [] h (w3 v4)) (fun _ => V.none _ _ _ _) (fun w3 ih3 => ?_)
    intro v4
    unfold f_X4_wallsClear_l3
    refine v_iload hB 4 dX4_wallsClear_3 rfl ?_
    refine v_iload_n hB 2 dX4_wallsClear_5 rfl rfl ?_
    refine v_icmp_gt (tgt := 32) hB dX4_wallsClear_6 rfl ?_ ?_
    · refine v_iconst hB 1 dX4_wallsClear_32 (by decide) ?_
      exact v_retRz (x := true) hB hK hR dX4_wallsClear_33
    · refine v_aload_n hB 0 dX4_wallsClear_9 rfl rfl ?_
      refine v_iload_n hB 1 dX4_wallsClear_10 rfl rfl ?_
      refine v_iload_n hB 2 dX4_wallsClear_11 rfl rfl ?_
      refine v_iload hB 4 dX4_wallsClear_12 rfl ?_
      refine v_bRj (fun r14 e14 => v_callV hB hK hR.rm [.int p1, .int p2, .int v4] [] (oC_79 g) lb_X4_wall lv_X4_26 (c_X4_wall g hK.A X.1.2.1 p1 p2 v4 h e14) dX4_wallsClear_14 rfl rfl (Nat.le_of_ble_eq_true rfl) (by decide) (by decide)) (fun r14 => ?_)
      refine v_iload_n hB 3 dX4_wallsClear_17 rfl rfl ?_
      refine v_bT (v_callSN hB hK hR.rm [.long r14, .int p3] [] lb_X10_fails (nk_X4_30 g) lv_X4_30 (c_X10_fails g hK.A X.1.2.1 r14 p3 h) dX4_wallsClear_18 rfl rfl (Nat.le_of_ble_eq_true rfl) (by decide) (by decide)) ?_
      refine v_ifz_eq (r := f_X10_fails r14 p3) (tgt := 26) hB dX4_wallsClear_21 rfl ?_ ?_
      · refine v_iinc hB (v4 + 1) [(0, .ref ((SC g).1.2.1 79)), (1, .int p1), (2, .int p2), (3, .int p3), (4, .int (v4 + 1))] 4 [1, 2, 3, 4, 0] dX4_wallsClear_26 rfl rfl (by decide) rfl ?_
        refine v_goto (tgt := 3) hB dX4_wallsClear_29 rfl ?_
        exact V.sub [0, 1, 2, 3, 4] rfl (ih3 (v4 + 1))
      · refine v_iconst hB 0 dX4_wallsClear_24 (by decide) ?_
        exact v_retRz (x := false) hB hK hR dX4_wallsClear_25
  unfold f_X4_wallsClear
  refine v_iconst hB 0 dX4_wallsClear_0 (by decide) ?_
  refine v_istore hB [(0, .ref ((SC g).1.2.1 79)), (1, .int p1), (2, .int p2), (3, .int p3), (4, .int 0)] [1, 2, 3, 4, 0] dX4_wallsClear_1 (by decide) rfl ?_
  exact V.sub [0, 1, 2, 3, 4] rfl (hn3 1000 0)

def f_X5_fill_l2 (p1 : Int32) (p2 : Nat) (w2 : Int32 → pq_H → Option pq_H) (v3 : Int32) (h : pq_H) : Option pq_H :=
  if (rI h 71 2) ≤ v3 then (some h) else (gd (inb v3 28) (rowG 24 52 (rR h 72 v3.toNatClampNeg) fun q15 => (f_X1_at p2 v3 h).bind fun r19 => gd (inb p1 4) (w2 (v3 + 1) (wJ h q15 p1.toNatClampNeg r19.toInt64))))
def f_X5_fill (p1 : Int32) (p2 : Nat) (h : pq_H) : Option pq_H :=
  lp (fun _ _ => none) (f_X5_fill_l2 p1 p2) 1000 0 h
set_option maxRecDepth 100000 in
set_option maxHeartbeats 4000000 in
theorem c_X5_fill (g : pq_g) {A : Nat → Prop} (hA : pq_A (SC g) A) (l : Launch) (p1 : Int32) (p2 : Nat) (hp2 : p2 < 12) (h : pq_H) {hh : pq_H} (e : f_X5_fill p1 p2 h = some hh) : pq_M (SC g) A l yX5_fill cX5_fill 4 none 3 67 [.ref ((SC g).1.2.1 71), .int p1, .ref ((SC g).1.2.1 p2)] h none hh := by
  refine pq_met hA l (own := RX5) 3 67 _ [(0, .ref ((SC g).1.2.1 71)), (1, .int p1), (2, .ref ((SC g).1.2.1 p2))] h _ hh (by decide +kernel) rfl (Nat.le_of_ble_eq_true rfl) rfl (fun X hXl hXA hB hK hR => ?_)
  refine V.cast (F' := f_X5_fill p1 p2 h) (res' := hh) (fun _ => e) ?_
  have hn2 : ∀ (n : Nat), ∀ (v3 : Int32) (h : pq_H), V X (SC g) hh 4 2 [(0, .ref ((SC g).1.2.1 71)), (1, .int p1), (2, .ref ((SC g).1.2.1 p2)), (3, .int v3)] [] h (lp (fun _ _ => none) (f_X5_fill_l2 p1 p2) n v3 h) := by
    refine lp_ind (fun (w2 : Int32 → pq_H → Option pq_H) => ∀ (v3 : Int32) (h : pq_H), V X (SC g) hh 4 2 [(0, .ref ((SC g).1.2.1 71)), (1, .int p1), (2, .ref ((SC g).1.2.1 p2)), (3, .int v3)] [] h (w2 v3 h)) (fun _ _ => V.none _ _ _ _) (fun w2 ih2 => ?_)
    intro v3 h
    unfold f_X5_fill_l2
    refine v_iload_n hB 3 dX5_fill_2 rfl rfl ?_
    refine v_aload_n hB 0 dX5_fill_3 rfl rfl ?_
    refine v_getI hB hK (fl_X5_36 g) (cCI_71_2 g) dX5_fill_4 ?_
    refine v_icmp_ge (tgt := 30) hB dX5_fill_7 rfl ?_ ?_
    · exact v_retWv hB hK hR dX5_fill_30
    · refine v_aload_n hB 0 dX5_fill_10 rfl rfl ?_
      refine v_getA hB hK (fl_X5_11 g) (cCA_71_0 g) dX5_fill_11 ?_
      refine v_iload_n hB 3 dX5_fill_14 rfl rfl ?_
      refine v_aaldR hB hK 24 52 (aR_72 g) dX5_fill_15 (fun q15 q15a q15b => ?_)
      refine v_iload_n hB 1 dX5_fill_16 rfl rfl ?_
      refine v_aload_n hB 2 dX5_fill_17 rfl rfl ?_
      refine v_iload_n hB 3 dX5_fill_18 rfl rfl ?_
      refine v_bRi (fun r19 e19 => v_callV hB hK hR.rm [.int v3] [.int p1, .ref ((SC g).1.2.1 q15)] (o_Form g p2 hp2) lb_X1_at lv_X5_56 (c_X1_at g hK.A X.1.2.1 p2 hp2 v3 h e19) dX5_fill_19 rfl rfl (Nat.le_of_ble_eq_true rfl) (by decide) (by decide)) (fun r19 => ?_)
      refine v_i2l hB dX5_fill_22 ?_
      refine v_last hB hK (aJ_mrow g q15 q15a q15b) dX5_fill_23 ?_
      refine v_iinc hB (v3 + 1) [(0, .ref ((SC g).1.2.1 71)), (1, .int p1), (2, .ref ((SC g).1.2.1 p2)), (3, .int (v3 + 1))] 3 [1, 2, 3, 0] dX5_fill_24 rfl rfl (by decide) rfl ?_
      refine v_goto (tgt := 2) hB dX5_fill_27 rfl ?_
      exact V.sub [0, 1, 2, 3] rfl (ih2 (v3 + 1) (wJ h q15 p1.toNatClampNeg r19.toInt64))
  unfold f_X5_fill
  refine v_iconst hB 0 dX5_fill_0 (by decide) ?_
  refine v_istore_n hB [(0, .ref ((SC g).1.2.1 71)), (1, .int p1), (2, .ref ((SC g).1.2.1 p2)), (3, .int 0)] [1, 2, 3, 0] dX5_fill_1 rfl (by decide) rfl ?_
  exact V.sub [0, 1, 2, 3] rfl (hn2 1000 0 h)

def f_X5_leader_l2 (p2 : Int32) (h : pq_H) (w2 : Int32 → Option Int32) (v3 : Int32) : Option Int32 :=
  if (rI h 71 2) ≤ v3 then (some (-1)) else (gd (inb v3 28) (rowG 24 52 (rR h 72 v3.toNatClampNeg) fun q15 => gd (inb p2 4) (if (rJ h q15 p2.toNatClampNeg) = 0 then (w2 (v3 + 1)) else (some v3))))
def f_X5_leader (p1 : Int32) (p2 : Int32) (h : pq_H) : Option Int32 :=
  lp (fun _ => none) (f_X5_leader_l2 p2 h) 1000 p1
set_option maxRecDepth 100000 in
set_option maxHeartbeats 4000000 in
theorem c_X5_leader (g : pq_g) {A : Nat → Prop} (hA : pq_A (SC g) A) (l : Launch) (p1 : Int32) (p2 : Int32) (h : pq_H) {rr : Int32} (e : f_X5_leader p1 p2 h = some rr) : pq_M (SC g) A l yX5_leader cX5_leader 4 (some .int) 0 0 [.ref ((SC g).1.2.1 71), .int p1, .int p2] h (some (.int rr)) h := by
  refine pq_met hA l (own := RX5) 0 0 _ [(0, .ref ((SC g).1.2.1 71)), (1, .int p1), (2, .int p2)] h _ h (by decide +kernel) rfl (Nat.le_of_ble_eq_true rfl) rfl (fun X hXl hXA hB hK hR => ?_)
  refine V.cast (F' := f_X5_leader p1 p2 h) (res' := rr) (fun _ => e) ?_
  have hn2 : ∀ (n : Nat), ∀ (v3 : Int32), V X (SC g) rr 4 2 [(0, .ref ((SC g).1.2.1 71)), (2, .int p2), (3, .int v3)] [] h (lp (fun _ => none) (f_X5_leader_l2 p2 h) n v3) := by
    refine lp_ind (fun (w2 : Int32 → Option Int32) => ∀ (v3 : Int32), V X (SC g) rr 4 2 [(0, .ref ((SC g).1.2.1 71)), (2, .int p2), (3, .int v3)] [] h (w2 v3)) (fun _ => V.none _ _ _ _) (fun w2 ih2 => ?_)
    intro v3
    unfold f_X5_leader_l2
    refine v_iload_n hB 2 dX5_leader_2 rfl rfl ?_
    refine v_aload_n hB 0 dX5_leader_3 rfl rfl ?_
    refine v_getI hB hK (fl_X5_36 g) (cCI_71_2 g) dX5_leader_4 ?_
    refine v_icmp_ge (tgt := 31) hB dX5_leader_7 rfl ?_ ?_
    · refine v_iconst hB (-1) dX5_leader_31 (by decide) ?_
      exact v_retRi (x := (-1)) hB hK hR dX5_leader_32
    · refine v_aload_n hB 0 dX5_leader_10 rfl rfl ?_
      refine v_getA hB hK (fl_X5_11 g) (cCA_71_0 g) dX5_leader_11 ?_
      refine v_iload_n hB 2 dX5_leader_14 rfl rfl ?_
      refine v_aaldR hB hK 24 52 (aR_72 g) dX5_leader_15 (fun q15 q15a q15b => ?_)
      refine v_iload_n hB 1 dX5_leader_16 rfl rfl ?_
      refine v_lald hB hK (aJ_mrow g q15 q15a q15b) dX5_leader_17 ?_
      refine v_lconst hB 0 dX5_leader_18 (by decide) ?_
      refine v_lcmp_eq (tgt := 25) hB dX5_leader_19 dX5_leader_20 rfl ?_ ?_
      · refine v_iinc hB (v3 + 1) [(0, .ref ((SC g).1.2.1 71)), (2, .int p2), (3, .int (v3 + 1))] 2 [1, 2, 0] dX5_leader_25 rfl rfl (by decide) rfl ?_
        refine v_goto (tgt := 2) hB dX5_leader_28 rfl ?_
        exact V.sub [0, 1, 2] rfl (ih2 (v3 + 1))
      · refine v_iload_n hB 2 dX5_leader_23 rfl rfl ?_
        exact v_retRi (x := v3) hB hK hR dX5_leader_24
  unfold f_X5_leader
  refine v_iload_n hB 1 dX5_leader_0 rfl rfl ?_
  refine v_istore_n hB [(0, .ref ((SC g).1.2.1 71)), (1, .int p1), (2, .int p2), (3, .int p1)] [1, 2, 3, 0] dX5_leader_1 rfl (by decide) rfl ?_
  exact V.sub [0, 2, 3] rfl (hn2 1000 p1)

def f_X5_takeAway_l23 (p1 : Int32) (p2 : Int32) (v4 : Int64) (v6 : Int64) (w23 : Int32 → pq_H → Option pq_H) (v8 : Int32) (h : pq_H) : Option pq_H :=
  if (rI h 71 3) < v8 then (some h) else (gd (inb p1 28) (rowG 24 52 (rR h 72 p1.toNatClampNeg) fun q37 => gd (inb p1 28) (rowG 24 52 (rR h 72 p1.toNatClampNeg) fun q45 => gd (inb v8 4) (gd (inb p2 28) (rowG 24 52 (rR h 72 p2.toNatClampNeg) fun q57 => gd (inb v8 4) (gd (inb v8 4) (w23 (v8 + 1) (wJ h q37 v8.toNatClampNeg (((rJ h q45 v8.toNatClampNeg) * v6) - ((rJ h q57 v8.toNatClampNeg) * v4))))))))))
def f_X5_takeAway (p1 : Int32) (p2 : Int32) (p3 : Int32) (h : pq_H) : Option pq_H :=
  gd (inb p1 28) (rowG 24 52 (rR h 72 p1.toNatClampNeg) fun q5 => gd (inb p3 4) (gd (inb p2 28) (rowG 24 52 (rR h 72 p2.toNatClampNeg) fun q15 => gd (inb p3 4) (lp (fun _ _ => none) (f_X5_takeAway_l23 p1 p2 (rJ h q5 p3.toNatClampNeg) (rJ h q15 p3.toNatClampNeg)) 1000 0 h))))
set_option maxRecDepth 100000 in
set_option maxHeartbeats 4000000 in
theorem c_X5_takeAway (g : pq_g) {A : Nat → Prop} (hA : pq_A (SC g) A) (l : Launch) (p1 : Int32) (p2 : Int32) (p3 : Int32) (h : pq_H) {hh : pq_H} (e : f_X5_takeAway p1 p2 p3 h = some hh) : pq_M (SC g) A l yX5_takeAway cX5_takeAway 9 none 0 0 [.ref ((SC g).1.2.1 71), .int p1, .int p2, .int p3] h none hh := by
  refine pq_met hA l (own := RX5) 0 0 _ [(0, .ref ((SC g).1.2.1 71)), (1, .int p1), (2, .int p2), (3, .int p3)] h _ hh (by decide +kernel) rfl (Nat.le_of_ble_eq_true rfl) rfl (fun X hXl hXA hB hK hR => ?_)
  refine V.cast (F' := f_X5_takeAway p1 p2 p3 h) (res' := hh) (fun _ => e) ?_
  have hn23 : ∀ (v4 : Int64) (v6 : Int64) (n : Nat), ∀ (v8 : Int32) (h : pq_H), V X (SC g) hh 9 23 [(0, .ref ((SC g).1.2.1 71)), (1, .int p1), (2, .int p2), (4, .long v4), (6, .long v6), (8, .int v8)] [] h (lp (fun _ _ => none) (f_X5_takeAway_l23 p1 p2 v4 v6) n v8 h) := by
    intro v4 v6
    refine lp_ind (fun (w23 : Int32 → pq_H → Option pq_H) => ∀ (v8 : Int32) (h : pq_H), V X (SC g) hh 9 23 [(0, .ref ((SC g).1.2.1 71)), (1, .int p1), (2, .int p2), (4, .long v4), (6, .long v6), (8, .int v8)] [] h (w23 v8 h)) (fun _ _ => V.none _ _ _ _) (fun w23 ih23 => ?_)
    intro v8 h
    unfold f_X5_takeAway_l23
    refine v_iload hB 5 dX5_takeAway_23 rfl ?_
    refine v_aload_n hB 0 dX5_takeAway_25 rfl rfl ?_
    refine v_getI hB hK (fl_X5_39 g) (cCI_71_3 g) dX5_takeAway_26 ?_
    refine v_icmp_gt (tgt := 72) hB dX5_takeAway_29 rfl ?_ ?_
    · exact v_retWv hB hK hR dX5_takeAway_72
    · refine v_aload_n hB 0 dX5_takeAway_32 rfl rfl ?_
      refine v_getA hB hK (fl_X5_11 g) (cCA_71_0 g) dX5_takeAway_33 ?_
      refine v_iload_n hB 1 dX5_takeAway_36 rfl rfl ?_
      refine v_aaldR hB hK 24 52 (aR_72 g) dX5_takeAway_37 (fun q37 q37a q37b => ?_)
      refine v_iload hB 5 dX5_takeAway_38 rfl ?_
      refine v_aload_n hB 0 dX5_takeAway_40 rfl rfl ?_
      refine v_getA hB hK (fl_X5_11 g) (cCA_71_0 g) dX5_takeAway_41 ?_
      refine v_iload_n hB 1 dX5_takeAway_44 rfl rfl ?_
      refine v_aaldR hB hK 24 52 (aR_72 g) dX5_takeAway_45 (fun q45 q45a q45b => ?_)
      refine v_iload hB 5 dX5_takeAway_46 rfl ?_
      refine v_lald hB hK (aJ_mrow g q45 q45a q45b) dX5_takeAway_48 ?_
      refine v_lload hB 4 dX5_takeAway_49 rfl ?_
      refine v_lmul hB dX5_takeAway_51 ?_
      refine v_aload_n hB 0 dX5_takeAway_52 rfl rfl ?_
      refine v_getA hB hK (fl_X5_11 g) (cCA_71_0 g) dX5_takeAway_53 ?_
      refine v_iload_n hB 2 dX5_takeAway_56 rfl rfl ?_
      refine v_aaldR hB hK 24 52 (aR_72 g) dX5_takeAway_57 (fun q57 q57a q57b => ?_)
      refine v_iload hB 5 dX5_takeAway_58 rfl ?_
      refine v_lald hB hK (aJ_mrow g q57 q57a q57b) dX5_takeAway_60 ?_
      refine v_lload hB 3 dX5_takeAway_61 rfl ?_
      refine v_lmul hB dX5_takeAway_63 ?_
      refine v_lsub hB dX5_takeAway_64 ?_
      refine v_last hB hK (aJ_mrow g q37 q37a q37b) dX5_takeAway_65 ?_
      refine v_iinc hB (v8 + 1) [(0, .ref ((SC g).1.2.1 71)), (1, .int p1), (2, .int p2), (4, .long v4), (6, .long v6), (8, .int (v8 + 1))] 5 [1, 2, 3, 4, 5, 0] dX5_takeAway_66 rfl rfl (by decide) rfl ?_
      refine v_goto (tgt := 23) hB dX5_takeAway_69 rfl ?_
      exact V.sub [0, 1, 2, 3, 4, 5] rfl (ih23 (v8 + 1) (wJ h q37 v8.toNatClampNeg (((rJ h q45 v8.toNatClampNeg) * v6) - ((rJ h q57 v8.toNatClampNeg) * v4))))
  unfold f_X5_takeAway
  refine v_aload_n hB 0 dX5_takeAway_0 rfl rfl ?_
  refine v_getA hB hK (fl_X5_11 g) (cCA_71_0 g) dX5_takeAway_1 ?_
  refine v_iload_n hB 1 dX5_takeAway_4 rfl rfl ?_
  refine v_aaldR hB hK 24 52 (aR_72 g) dX5_takeAway_5 (fun q5 q5a q5b => ?_)
  refine v_iload_n hB 3 dX5_takeAway_6 rfl rfl ?_
  refine v_lald hB hK (aJ_mrow g q5 q5a q5b) dX5_takeAway_7 ?_
  refine v_lstore hB [(0, .ref ((SC g).1.2.1 71)), (1, .int p1), (2, .int p2), (3, .int p3), (4, .long (rJ h q5 p3.toNatClampNeg))] [1, 2, 3, 4, 0] dX5_takeAway_8 (by decide) rfl ?_
  refine v_aload_n hB 0 dX5_takeAway_10 rfl rfl ?_
  refine v_getA hB hK (fl_X5_11 g) (cCA_71_0 g) dX5_takeAway_11 ?_
  refine v_iload_n hB 2 dX5_takeAway_14 rfl rfl ?_
  refine v_aaldR hB hK 24 52 (aR_72 g) dX5_takeAway_15 (fun q15 q15a q15b => ?_)
  refine v_iload_n hB 3 dX5_takeAway_16 rfl rfl ?_
  refine v_lald hB hK (aJ_mrow g q15 q15a q15b) dX5_takeAway_17 ?_
  refine v_lstore hB [(0, .ref ((SC g).1.2.1 71)), (1, .int p1), (2, .int p2), (3, .int p3), (4, .long (rJ h q5 p3.toNatClampNeg)), (6, .long (rJ h q15 p3.toNatClampNeg))] [1, 2, 3, 4, 5, 0] dX5_takeAway_18 (by decide) rfl ?_
  refine v_iconst hB 0 dX5_takeAway_20 (by decide) ?_
  refine v_istore hB [(0, .ref ((SC g).1.2.1 71)), (1, .int p1), (2, .int p2), (3, .int p3), (4, .long (rJ h q5 p3.toNatClampNeg)), (6, .long (rJ h q15 p3.toNatClampNeg)), (8, .int 0)] [1, 2, 3, 4, 5, 6, 0] dX5_takeAway_21 (by decide) rfl ?_
  exact V.sub [0, 1, 2, 4, 5, 6] rfl (hn23 (rJ h q5 p3.toNatClampNeg) (rJ h q15 p3.toNatClampNeg) 1000 0 h)

def f_X5_lead_j82 (w45 : Int32 → pq_H → Option (Int32 × pq_H)) (v5 : Int32) (h : pq_H) : Option (Int32 × pq_H) :=
  w45 (v5 + 1) h
def f_X5_lead_l45 (p1 : Int32) (p2 : Int32) (w45 : Int32 → pq_H → Option (Int32 × pq_H)) (v5 : Int32) (h : pq_H) : Option (Int32 × pq_H) :=
  if (rI h 71 2) ≤ v5 then (some (p1, h)) else (if v5 = p1 then (f_X5_lead_j82 w45 v5 h) else (gd (inb v5 28) (rowG 24 52 (rR h 72 v5.toNatClampNeg) fun q66 => gd (inb p2 4) (if (rJ h q66 p2.toNatClampNeg) = 0 then (f_X5_lead_j82 w45 v5 h) else ((f_X5_takeAway v5 p1 p2 h).bind fun h79 => f_X5_lead_j82 w45 v5 h79)))))
def f_X5_lead (p1 : Int32) (p2 : Int32) (h : pq_H) : Option (Int32 × pq_H) :=
  (f_X5_leader p1 p2 h).bind fun r3 => if r3 = (-1) then (some ((-1), h)) else (gd (inb r3 28) (rowG 24 52 (rR h 72 r3.toNatClampNeg) fun q19 => gd (inb p1 28) (rowG 24 52 (rR h 72 p1.toNatClampNeg) fun q32 => gd (inb r3 28) (hl (wR h 72 r3.toNatClampNeg (some q32)) fun h33 => gd (inb p1 28) (hl (wR h33 72 p1.toNatClampNeg (some q19)) fun h41 => lp (fun _ _ => none) (f_X5_lead_l45 p1 p2) 1000 0 h41)))))
set_option maxRecDepth 100000 in
set_option maxHeartbeats 4000000 in
theorem c_X5_lead (g : pq_g) {A : Nat → Prop} (hA : pq_A (SC g) A) (l : Launch) (p1 : Int32) (p2 : Int32) (h : pq_H) {rr : Int32} {hh : pq_H} (e : f_X5_lead p1 p2 h = some (rr, hh)) : pq_M (SC g) A l yX5_lead cX5_lead 6 (some .int) 1 28 [.ref ((SC g).1.2.1 71), .int p1, .int p2] h (some (.int rr)) hh := by
  refine pq_met hA l (own := RX5) 1 28 _ [(0, .ref ((SC g).1.2.1 71)), (1, .int p1), (2, .int p2)] h _ hh (by decide +kernel) rfl (Nat.le_of_ble_eq_true rfl) rfl (fun X hXl hXA hB hK hR => ?_)
  refine V.cast (F' := f_X5_lead p1 p2 h) (res' := (rr, hh)) (fun _ => e) ?_
  have hn45 : ∀ (n : Nat), ∀ (v5 : Int32) (h : pq_H), V X (SC g) (rr, hh) 6 45 [(0, .ref ((SC g).1.2.1 71)), (1, .int p1), (2, .int p2), (5, .int v5)] [] h (lp (fun _ _ => none) (f_X5_lead_l45 p1 p2) n v5 h) := by
    refine lp_ind (fun (w45 : Int32 → pq_H → Option (Int32 × pq_H)) => ∀ (v5 : Int32) (h : pq_H), V X (SC g) (rr, hh) 6 45 [(0, .ref ((SC g).1.2.1 71)), (1, .int p1), (2, .int p2), (5, .int v5)] [] h (w45 v5 h)) (fun _ _ => V.none _ _ _ _) (fun w45 ih45 => ?_)
    have hn82 : ∀ (v5 : Int32) (h : pq_H), V X (SC g) (rr, hh) 6 82 [(0, .ref ((SC g).1.2.1 71)), (1, .int p1), (2, .int p2), (5, .int v5)] [] h (f_X5_lead_j82 w45 v5 h) := by
      intro v5 h
      unfold f_X5_lead_j82
      refine v_iinc hB (v5 + 1) [(0, .ref ((SC g).1.2.1 71)), (1, .int p1), (2, .int p2), (5, .int (v5 + 1))] 3 [1, 2, 3, 0] dX5_lead_82 rfl rfl (by decide) rfl ?_
      refine v_goto (tgt := 45) hB dX5_lead_85 rfl ?_
      exact V.sub [0, 1, 2, 3] rfl (ih45 (v5 + 1) h)
    intro v5 h
    unfold f_X5_lead_l45
    refine v_iload hB 3 dX5_lead_45 rfl ?_
    refine v_aload_n hB 0 dX5_lead_47 rfl rfl ?_
    refine v_getI hB hK (fl_X5_36 g) (cCI_71_2 g) dX5_lead_48 ?_
    refine v_icmp_ge (tgt := 88) hB dX5_lead_51 rfl ?_ ?_
    · refine v_iload_n hB 1 dX5_lead_88 rfl rfl ?_
      exact v_retWi (x := p1) hB hK hR dX5_lead_89
    · refine v_iload hB 3 dX5_lead_54 rfl ?_
      refine v_iload_n hB 1 dX5_lead_56 rfl rfl ?_
      refine v_icmp_eq (tgt := 82) hB dX5_lead_57 rfl ?_ ?_
      · exact V.sub [0, 1, 2, 3] rfl (hn82 v5 h)
      · refine v_aload_n hB 0 dX5_lead_60 rfl rfl ?_
        refine v_getA hB hK (fl_X5_11 g) (cCA_71_0 g) dX5_lead_61 ?_
        refine v_iload hB 3 dX5_lead_64 rfl ?_
        refine v_aaldR hB hK 24 52 (aR_72 g) dX5_lead_66 (fun q66 q66a q66b => ?_)
        refine v_iload_n hB 2 dX5_lead_67 rfl rfl ?_
        refine v_lald hB hK (aJ_mrow g q66 q66a q66b) dX5_lead_68 ?_
        refine v_lconst hB 0 dX5_lead_69 (by decide) ?_
        refine v_lcmp_eq (tgt := 82) hB dX5_lead_70 dX5_lead_71 rfl ?_ ?_
        · exact V.sub [0, 1, 2, 3] rfl (hn82 v5 h)
        · refine v_aload_n hB 0 dX5_lead_74 rfl rfl ?_
          refine v_iload hB 3 dX5_lead_75 rfl ?_
          refine v_iload_n hB 1 dX5_lead_77 rfl rfl ?_
          refine v_iload_n hB 2 dX5_lead_78 rfl rfl ?_
          refine v_bV (fun h79 e79 => v_callV hB hK hR.rm [.int v5, .int p1, .int p2] [] (oC_71 g) lb_X5_takeAway lv_X5_59 (c_X5_takeAway g hK.A X.1.2.1 v5 p1 p2 h e79) dX5_lead_79 rfl rfl (Nat.le_of_ble_eq_true rfl) (by decide) (by decide)) (fun h79 => ?_)
          exact V.sub [0, 1, 2, 3] rfl (hn82 v5 h79)
  unfold f_X5_lead
  refine v_aload_n hB 0 dX5_lead_0 rfl rfl ?_
  refine v_iload_n hB 1 dX5_lead_1 rfl rfl ?_
  refine v_iload_n hB 2 dX5_lead_2 rfl rfl ?_
  refine v_bRi (fun r3 e3 => v_callV hB hK hR.rm [.int p1, .int p2] [] (oC_71 g) lb_X5_leader lv_X5_53 (c_X5_leader g hK.A X.1.2.1 p1 p2 h e3) dX5_lead_3 rfl rfl (Nat.le_of_ble_eq_true rfl) (by decide) (by decide)) (fun r3 => ?_)
  refine v_istore_n hB [(0, .ref ((SC g).1.2.1 71)), (1, .int p1), (2, .int p2), (3, .int r3)] [1, 2, 3, 0] dX5_lead_6 rfl (by decide) rfl ?_
  refine v_iload_n hB 3 dX5_lead_7 rfl rfl ?_
  refine v_iconst hB (-1) dX5_lead_8 (by decide) ?_
  refine v_icmp_ne (tgt := 14) hB dX5_lead_9 rfl ?_ ?_
  · refine v_aload_n hB 0 dX5_lead_14 rfl rfl ?_
    refine v_getA hB hK (fl_X5_11 g) (cCA_71_0 g) dX5_lead_15 ?_
    refine v_iload_n hB 3 dX5_lead_18 rfl rfl ?_
    refine v_aaldR hB hK 24 52 (aR_72 g) dX5_lead_19 (fun q19 q19a q19b => ?_)
    refine v_astore hB [(0, .ref ((SC g).1.2.1 71)), (1, .int p1), (2, .int p2), (3, .int r3), (4, .ref ((SC g).1.2.1 q19))] [1, 2, 3, 4, 0] dX5_lead_20 (by decide) rfl ?_
    refine v_aload_n hB 0 dX5_lead_22 rfl rfl ?_
    refine v_getA hB hK (fl_X5_11 g) (cCA_71_0 g) dX5_lead_23 ?_
    refine v_iload_n hB 3 dX5_lead_26 rfl rfl ?_
    refine v_aload_n hB 0 dX5_lead_27 rfl rfl ?_
    refine v_getA hB hK (fl_X5_11 g) (cCA_71_0 g) dX5_lead_28 ?_
    refine v_iload_n hB 1 dX5_lead_31 rfl rfl ?_
    refine v_aaldR hB hK 24 52 (aR_72 g) dX5_lead_32 (fun q32 q32a q32b => ?_)
    refine v_ast72 hB hK q32a q32b dX5_lead_33 ?_
    refine v_hl (fun h33 => ?_)
    refine v_aload_n hB 0 dX5_lead_34 rfl rfl ?_
    refine v_getA hB hK (fl_X5_11 g) (cCA_71_0 g) dX5_lead_35 ?_
    refine v_iload_n hB 1 dX5_lead_38 rfl rfl ?_
    refine v_aload hB 4 dX5_lead_39 rfl ?_
    refine v_ast72 hB hK q19a q19b dX5_lead_41 ?_
    refine v_hl (fun h41 => ?_)
    refine v_iconst hB 0 dX5_lead_42 (by decide) ?_
    refine v_istore hB [(0, .ref ((SC g).1.2.1 71)), (1, .int p1), (2, .int p2), (3, .int r3), (4, .ref ((SC g).1.2.1 q19)), (5, .int 0)] [1, 2, 3, 4, 5, 0] dX5_lead_43 (by decide) rfl ?_
    exact V.sub [0, 1, 2, 5] rfl (hn45 1000 0 h41)
  · refine v_iconst hB (-1) dX5_lead_12 (by decide) ?_
    exact v_retWi (x := (-1)) hB hK hR dX5_lead_13

def f_X5_makes_j148 (v4 : Int32) (h : pq_H) : Option (Bool × pq_H) :=
  (f_X5_leader v4 (rI h 71 3) h).bind fun r155 => if r155 = (-1) then (some (true, h)) else (some (false, h))
def f_X5_makes_j142 (w104 : Int32 → Int32 → pq_H → Option (Bool × pq_H)) (v4 : Int32) (v5 : Int32) (h : pq_H) : Option (Bool × pq_H) :=
  w104 v4 (v5 + 1) h
def f_X5_makes_l104 (w104 : Int32 → Int32 → pq_H → Option (Bool × pq_H)) (v4 : Int32) (v5 : Int32) (h : pq_H) : Option (Bool × pq_H) :=
  if (rI h 71 3) ≤ v5 then (f_X5_makes_j148 v4 h) else (bd2 (f_X5_lead v4 v5 h) fun r124 h124 => gd (inb v5 3) (hl (wI h124 73 v5.toNatClampNeg r124) fun h127 => gd (inb v5 3) (if (rI h127 73 v5.toNatClampNeg) = (-1) then (f_X5_makes_j142 w104 v4 v5 h127) else (f_X5_makes_j142 w104 (v4 + 1) v5 h127))))
def f_X5_makes_j84 (p2 : Int32) (h : pq_H) : Option (Bool × pq_H) :=
  gd (inb p2 6) ((f_X5_fill (rI h 71 3) p2.toNatClampNeg h).bind fun h95 => lp (fun _ _ _ => none) (f_X5_makes_l104) 1000 0 0 h95)
def f_X5_makes_j78 (w24 : Int32 → pq_H → Option (Bool × pq_H)) (v4 : Int32) (h : pq_H) : Option (Bool × pq_H) :=
  w24 (v4 + 1) h
def f_X5_makes_l24 (p2 : Int32) (p3 : Int32) (w24 : Int32 → pq_H → Option (Bool × pq_H)) (v4 : Int32) (h : pq_H) : Option (Bool × pq_H) :=
  if (rI h 56 3) ≤ v4 then (f_X5_makes_j84 p2 h) else (if ((p3 >>> (v4 &&& 31)) &&& 1) = 0 then (f_X5_makes_j78 w24 v4 h) else (if (rI h 71 3) < 3 then (gd (inb v4 6) ((f_X5_fill (rI h 71 3) v4.toNatClampNeg h).bind fun h65 => f_X5_makes_j78 w24 v4 (wI h65 71 3 ((rI h65 71 3) + 1)))) else (f_X5_makes_j78 w24 v4 h)))
def f_X5_makes (p2 : Int32) (p3 : Int32) (h : pq_H) : Option (Bool × pq_H) :=
  gd (inb p2 6) (hl (wI h 71 2 (f_X10_termsOf (rI h p2.toNatClampNeg 3))) fun h13 => hl (wI h13 71 3 0) fun h18 => lp (fun _ _ => none) (f_X5_makes_l24 p2 p3) 1000 0 h18)
set_option maxRecDepth 100000 in
set_option maxHeartbeats 4000000 in
theorem c_X5_makes (g : pq_g) {A : Nat → Prop} (hA : pq_A (SC g) A) (l : Launch) (p2 : Int32) (p3 : Int32) (h : pq_H) {rr : Bool} {hh : pq_H} (e : f_X5_makes p2 p3 h = some (rr, hh)) : pq_M (SC g) A l yX5_makes cX5_makes 6 (some .boolean) 4 90 [.ref ((SC g).1.2.1 71), .ref ((SC g).1.2.1 56), .int p2, .int p3] h (some (.int (b2i rr))) hh := by
  refine pq_met hA l (own := RX5) 4 90 _ [(0, .ref ((SC g).1.2.1 71)), (1, .ref ((SC g).1.2.1 56)), (2, .int p2), (3, .int p3)] h _ hh (by decide +kernel) rfl (Nat.le_of_ble_eq_true rfl) rfl (fun X hXl hXA hB hK hR => ?_)
  refine V.cast (F' := f_X5_makes p2 p3 h) (res' := (rr, hh)) (fun _ => e) ?_
  have hn148 : ∀ (v4 : Int32) (h : pq_H), V X (SC g) (rr, hh) 6 148 [(0, .ref ((SC g).1.2.1 71)), (4, .int v4)] [] h (f_X5_makes_j148 v4 h) := by
    intro v4 h
    unfold f_X5_makes_j148
    refine v_aload_n hB 0 dX5_makes_148 rfl rfl ?_
    refine v_iload hB 1 dX5_makes_149 rfl ?_
    refine v_aload_n hB 0 dX5_makes_151 rfl rfl ?_
    refine v_getI hB hK (fl_X5_39 g) (cCI_71_3 g) dX5_makes_152 ?_
    refine v_bRi (fun r155 e155 => v_callV hB hK hR.rm [.int v4, .int (rI h 71 3)] [] (oC_71 g) lb_X5_leader lv_X5_53 (c_X5_leader g hK.A X.1.2.1 v4 (rI h 71 3) h e155) dX5_makes_155 rfl rfl (Nat.le_of_ble_eq_true rfl) (by decide) (by decide)) (fun r155 => ?_)
    refine v_iconst hB (-1) dX5_makes_158 (by decide) ?_
    refine v_icmp_ne (tgt := 166) hB dX5_makes_159 rfl ?_ ?_
    · refine v_iconst hB 0 dX5_makes_166 (by decide) ?_
      exact v_retWz (x := false) hB hK hR dX5_makes_167
    · refine v_iconst hB 1 dX5_makes_162 (by decide) ?_
      refine v_goto (tgt := 167) hB dX5_makes_163 rfl ?_
      exact v_retWz (x := true) hB hK hR dX5_makes_167
  have hn104 : ∀ (n : Nat), ∀ (v4 : Int32) (v5 : Int32) (h : pq_H), V X (SC g) (rr, hh) 6 104 [(0, .ref ((SC g).1.2.1 71)), (4, .int v4), (5, .int v5)] [] h (lp (fun _ _ _ => none) (f_X5_makes_l104) n v4 v5 h) := by
    refine lp_ind (fun (w104 : Int32 → Int32 → pq_H → Option (Bool × pq_H)) => ∀ (v4 : Int32) (v5 : Int32) (h : pq_H), V X (SC g) (rr, hh) 6 104 [(0, .ref ((SC g).1.2.1 71)), (4, .int v4), (5, .int v5)] [] h (w104 v4 v5 h)) (fun _ _ _ => V.none _ _ _ _) (fun w104 ih104 => ?_)
    have hn142 : ∀ (v4 : Int32) (v5 : Int32) (h : pq_H), V X (SC g) (rr, hh) 6 142 [(0, .ref ((SC g).1.2.1 71)), (4, .int v4), (5, .int v5)] [] h (f_X5_makes_j142 w104 v4 v5 h) := by
      intro v4 v5 h
      unfold f_X5_makes_j142
      refine v_iinc hB (v5 + 1) [(0, .ref ((SC g).1.2.1 71)), (4, .int v4), (5, .int (v5 + 1))] 2 [1, 2, 0] dX5_makes_142 rfl rfl (by decide) rfl ?_
      refine v_goto (tgt := 104) hB dX5_makes_145 rfl ?_
      exact V.sub [0, 1, 2] rfl (ih104 v4 (v5 + 1) h)
    intro v4 v5 h
    unfold f_X5_makes_l104
    refine v_iload hB 2 dX5_makes_104 rfl ?_
    refine v_aload_n hB 0 dX5_makes_106 rfl rfl ?_
    refine v_getI hB hK (fl_X5_39 g) (cCI_71_3 g) dX5_makes_107 ?_
    refine v_icmp_ge (tgt := 148) hB dX5_makes_110 rfl ?_ ?_
    · exact V.sub [0, 1] rfl (hn148 v4 h)
    · refine v_aload_n hB 0 dX5_makes_113 rfl rfl ?_
      refine v_getA hB hK (fl_X5_16 g) (cCA_71_1 g) dX5_makes_114 ?_
      refine v_iload hB 2 dX5_makes_117 rfl ?_
      refine v_aload_n hB 0 dX5_makes_119 rfl rfl ?_
      refine v_iload hB 1 dX5_makes_120 rfl ?_
      refine v_iload hB 2 dX5_makes_122 rfl ?_
      refine v_bWi (fun r124 h124 e124 => v_callV hB hK hR.rm [.int v4, .int v5] [.int v5, .ref ((SC g).1.2.1 73)] (oC_71 g) lb_X5_lead lv_X5_49 (c_X5_lead g hK.A X.1.2.1 v4 v5 h e124) dX5_makes_124 rfl rfl (Nat.le_of_ble_eq_true rfl) (by decide) (by decide)) (fun r124 h124 => ?_)
      refine v_iast hB hK (aCI_73 g) dX5_makes_127 ?_
      refine v_hl (fun h127 => ?_)
      refine v_aload_n hB 0 dX5_makes_128 rfl rfl ?_
      refine v_getA hB hK (fl_X5_16 g) (cCA_71_1 g) dX5_makes_129 ?_
      refine v_iload hB 2 dX5_makes_132 rfl ?_
      refine v_iald hB hK (aCI_73 g) dX5_makes_134 ?_
      refine v_iconst hB (-1) dX5_makes_135 (by decide) ?_
      refine v_icmp_eq (tgt := 142) hB dX5_makes_136 rfl ?_ ?_
      · exact V.sub [0, 1, 2] rfl (hn142 v4 v5 h127)
      · refine v_iinc hB (v4 + 1) [(0, .ref ((SC g).1.2.1 71)), (4, .int (v4 + 1)), (5, .int v5)] 1 [1, 0, 2] dX5_makes_139 rfl rfl (by decide) rfl ?_
        exact V.sub [0, 1, 2] rfl (hn142 (v4 + 1) v5 h127)
  have hn84 : ∀ (h : pq_H), V X (SC g) (rr, hh) 6 84 [(0, .ref ((SC g).1.2.1 71)), (1, .ref ((SC g).1.2.1 56)), (2, .int p2)] [] h (f_X5_makes_j84 p2 h) := by
    intro h
    unfold f_X5_makes_j84
    refine v_aload_n hB 0 dX5_makes_84 rfl rfl ?_
    refine v_aload_n hB 0 dX5_makes_85 rfl rfl ?_
    refine v_getI hB hK (fl_X5_39 g) (cCI_71_3 g) dX5_makes_86 ?_
    refine v_aload_n hB 1 dX5_makes_89 rfl rfl ?_
    refine v_getA hB hK (fl_X5_20 g) (cCA_56_0 g) dX5_makes_90 ?_
    refine v_iload_n hB 2 dX5_makes_93 rfl rfl ?_
    refine v_aa57 hB hK dX5_makes_94 (fun q94 => ?_)
    refine v_bV (fun h95 e95 => v_callV hB hK hR.rm [.int (rI h 71 3), .ref ((SC g).1.2.1 p2.toNatClampNeg)] [] (oC_71 g) lb_X5_fill lv_X5_45 (c_X5_fill g hK.A X.1.2.1 (rI h 71 3) p2.toNatClampNeg (lt6_12 q94) h e95) dX5_makes_95 rfl rfl (Nat.le_of_ble_eq_true rfl) (by decide) (by decide)) (fun h95 => ?_)
    refine v_iconst hB 0 dX5_makes_98 (by decide) ?_
    refine v_istore hB [(0, .ref ((SC g).1.2.1 71)), (1, .ref ((SC g).1.2.1 56)), (2, .int p2), (4, .int 0)] [1, 2, 3, 0] dX5_makes_99 (by decide) rfl ?_
    refine v_iconst hB 0 dX5_makes_101 (by decide) ?_
    refine v_istore hB [(0, .ref ((SC g).1.2.1 71)), (1, .ref ((SC g).1.2.1 56)), (2, .int p2), (4, .int 0), (5, .int 0)] [1, 2, 3, 4, 0] dX5_makes_102 (by decide) rfl ?_
    exact V.sub [0, 3, 4] rfl (hn104 1000 0 0 h95)
  have hn24 : ∀ (n : Nat), ∀ (v4 : Int32) (h : pq_H), V X (SC g) (rr, hh) 6 24 [(0, .ref ((SC g).1.2.1 71)), (1, .ref ((SC g).1.2.1 56)), (2, .int p2), (3, .int p3), (4, .int v4)] [] h (lp (fun _ _ => none) (f_X5_makes_l24 p2 p3) n v4 h) := by
    refine lp_ind (fun (w24 : Int32 → pq_H → Option (Bool × pq_H)) => ∀ (v4 : Int32) (h : pq_H), V X (SC g) (rr, hh) 6 24 [(0, .ref ((SC g).1.2.1 71)), (1, .ref ((SC g).1.2.1 56)), (2, .int p2), (3, .int p3), (4, .int v4)] [] h (w24 v4 h)) (fun _ _ => V.none _ _ _ _) (fun w24 ih24 => ?_)
    have hn78 : ∀ (v4 : Int32) (h : pq_H), V X (SC g) (rr, hh) 6 78 [(0, .ref ((SC g).1.2.1 71)), (1, .ref ((SC g).1.2.1 56)), (2, .int p2), (3, .int p3), (4, .int v4)] [] h (f_X5_makes_j78 w24 v4 h) := by
      intro v4 h
      unfold f_X5_makes_j78
      refine v_iinc hB (v4 + 1) [(0, .ref ((SC g).1.2.1 71)), (1, .ref ((SC g).1.2.1 56)), (2, .int p2), (3, .int p3), (4, .int (v4 + 1))] 4 [1, 2, 3, 4, 0] dX5_makes_78 rfl rfl (by decide) rfl ?_
      refine v_goto (tgt := 24) hB dX5_makes_81 rfl ?_
      exact V.sub [0, 1, 2, 3, 4] rfl (ih24 (v4 + 1) h)
    intro v4 h
    unfold f_X5_makes_l24
    refine v_iload hB 4 dX5_makes_24 rfl ?_
    refine v_aload_n hB 1 dX5_makes_26 rfl rfl ?_
    refine v_getI hB hK (fl_X5_42 g) (cCI_56_3 g) dX5_makes_27 ?_
    refine v_icmp_ge (tgt := 84) hB dX5_makes_30 rfl ?_ ?_
    · exact V.sub [0, 1, 2] rfl (hn84 h)
    · refine v_iload_n hB 3 dX5_makes_33 rfl rfl ?_
      refine v_iload hB 4 dX5_makes_34 rfl ?_
      refine v_ishr hB dX5_makes_36 ?_
      refine v_iconst hB 1 dX5_makes_37 (by decide) ?_
      refine v_iand hB dX5_makes_38 ?_
      refine v_if_eq (tgt := 78) hB dX5_makes_39 rfl ?_ ?_
      · exact V.sub [0, 1, 2, 3, 4] rfl (hn78 v4 h)
      · refine v_aload_n hB 0 dX5_makes_42 rfl rfl ?_
        refine v_getI hB hK (fl_X5_39 g) (cCI_71_3 g) dX5_makes_43 ?_
        refine v_iconst hB 3 dX5_makes_46 (by decide) ?_
        refine v_icmp_lt (tgt := 53) hB dX5_makes_47 rfl ?_ ?_
        · refine v_aload_n hB 0 dX5_makes_53 rfl rfl ?_
          refine v_aload_n hB 0 dX5_makes_54 rfl rfl ?_
          refine v_getI hB hK (fl_X5_39 g) (cCI_71_3 g) dX5_makes_55 ?_
          refine v_aload_n hB 1 dX5_makes_58 rfl rfl ?_
          refine v_getA hB hK (fl_X5_20 g) (cCA_56_0 g) dX5_makes_59 ?_
          refine v_iload hB 4 dX5_makes_62 rfl ?_
          refine v_aa57 hB hK dX5_makes_64 (fun q64 => ?_)
          refine v_bV (fun h65 e65 => v_callV hB hK hR.rm [.int (rI h 71 3), .ref ((SC g).1.2.1 v4.toNatClampNeg)] [] (oC_71 g) lb_X5_fill lv_X5_45 (c_X5_fill g hK.A X.1.2.1 (rI h 71 3) v4.toNatClampNeg (lt6_12 q64) h e65) dX5_makes_65 rfl rfl (Nat.le_of_ble_eq_true rfl) (by decide) (by decide)) (fun h65 => ?_)
          refine v_aload_n hB 0 dX5_makes_68 rfl rfl ?_
          refine v_dup hB dX5_makes_69 rfl ?_
          refine v_getI hB hK (fl_X5_39 g) (cCI_71_3 g) dX5_makes_70 ?_
          refine v_iconst hB 1 dX5_makes_73 (by decide) ?_
          refine v_iadd hB dX5_makes_74 ?_
          refine v_putI hB hK (fl_X5_39 g) (fin_X5_3 g) (cCI_71_3 g) dX5_makes_75 ?_
          exact V.sub [0, 1, 2, 3, 4] rfl (hn78 v4 (wI h65 71 3 ((rI h65 71 3) + 1)))
        · refine v_goto (tgt := 78) hB dX5_makes_50 rfl ?_
          exact V.sub [0, 1, 2, 3, 4] rfl (hn78 v4 h)
  unfold f_X5_makes
  refine v_aload_n hB 0 dX5_makes_0 rfl rfl ?_
  refine v_aload_n hB 1 dX5_makes_1 rfl rfl ?_
  refine v_getA hB hK (fl_X5_20 g) (cCA_56_0 g) dX5_makes_2 ?_
  refine v_iload_n hB 2 dX5_makes_5 rfl rfl ?_
  refine v_aa57 hB hK dX5_makes_6 (fun q6 => ?_)
  refine v_getI hB hK (fl_X5_26 g) (cI_Form_3 g p2.toNatClampNeg (lt6_12 q6)) dX5_makes_7 ?_
  refine v_bT (v_callSN hB hK hR.rm [.int (rI h p2.toNatClampNeg 3)] [.ref ((SC g).1.2.1 71)] lb_X10_termsOf (nk_X5_32 g) lv_X5_32 (c_X10_termsOf g hK.A X.1.2.1 (rI h p2.toNatClampNeg 3) h) dX5_makes_10 rfl rfl (Nat.le_of_ble_eq_true rfl) (by decide) (by decide)) ?_
  refine v_putI hB hK (fl_X5_36 g) (fin_X5_2 g) (cCI_71_2 g) dX5_makes_13 ?_
  refine v_hl (fun h13 => ?_)
  refine v_aload_n hB 0 dX5_makes_16 rfl rfl ?_
  refine v_iconst hB 0 dX5_makes_17 (by decide) ?_
  refine v_putI hB hK (fl_X5_39 g) (fin_X5_3 g) (cCI_71_3 g) dX5_makes_18 ?_
  refine v_hl (fun h18 => ?_)
  refine v_iconst hB 0 dX5_makes_21 (by decide) ?_
  refine v_istore hB [(0, .ref ((SC g).1.2.1 71)), (1, .ref ((SC g).1.2.1 56)), (2, .int p2), (3, .int p3), (4, .int 0)] [1, 2, 3, 4, 0] dX5_makes_22 (by decide) rfl ?_
  exact V.sub [0, 1, 2, 3, 4] rfl (hn24 1000 0 h18)

def f_J6_bitCount_0f7a4 (p0 : Int32) : Int32 :=
  (((((((p0 - (((p0.toUInt32 >>> ((1 : Int32).toUInt32 &&& Int32.toUInt32 31)).toInt32) &&& 1431655765)) &&& 858993459) + ((((p0 - (((p0.toUInt32 >>> ((1 : Int32).toUInt32 &&& Int32.toUInt32 31)).toInt32) &&& 1431655765)).toUInt32 >>> ((2 : Int32).toUInt32 &&& Int32.toUInt32 31)).toInt32) &&& 858993459)) + (((((p0 - (((p0.toUInt32 >>> ((1 : Int32).toUInt32 &&& Int32.toUInt32 31)).toInt32) &&& 1431655765)) &&& 858993459) + ((((p0 - (((p0.toUInt32 >>> ((1 : Int32).toUInt32 &&& Int32.toUInt32 31)).toInt32) &&& 1431655765)).toUInt32 >>> ((2 : Int32).toUInt32 &&& Int32.toUInt32 31)).toInt32) &&& 858993459)).toUInt32 >>> ((4 : Int32).toUInt32 &&& Int32.toUInt32 31)).toInt32)) &&& 252645135) + (((((((p0 - (((p0.toUInt32 >>> ((1 : Int32).toUInt32 &&& Int32.toUInt32 31)).toInt32) &&& 1431655765)) &&& 858993459) + ((((p0 - (((p0.toUInt32 >>> ((1 : Int32).toUInt32 &&& Int32.toUInt32 31)).toInt32) &&& 1431655765)).toUInt32 >>> ((2 : Int32).toUInt32 &&& Int32.toUInt32 31)).toInt32) &&& 858993459)) + (((((p0 - (((p0.toUInt32 >>> ((1 : Int32).toUInt32 &&& Int32.toUInt32 31)).toInt32) &&& 1431655765)) &&& 858993459) + ((((p0 - (((p0.toUInt32 >>> ((1 : Int32).toUInt32 &&& Int32.toUInt32 31)).toInt32) &&& 1431655765)).toUInt32 >>> ((2 : Int32).toUInt32 &&& Int32.toUInt32 31)).toInt32) &&& 858993459)).toUInt32 >>> ((4 : Int32).toUInt32 &&& Int32.toUInt32 31)).toInt32)) &&& 252645135).toUInt32 >>> ((8 : Int32).toUInt32 &&& Int32.toUInt32 31)).toInt32)) + ((((((((p0 - (((p0.toUInt32 >>> ((1 : Int32).toUInt32 &&& Int32.toUInt32 31)).toInt32) &&& 1431655765)) &&& 858993459) + ((((p0 - (((p0.toUInt32 >>> ((1 : Int32).toUInt32 &&& Int32.toUInt32 31)).toInt32) &&& 1431655765)).toUInt32 >>> ((2 : Int32).toUInt32 &&& Int32.toUInt32 31)).toInt32) &&& 858993459)) + (((((p0 - (((p0.toUInt32 >>> ((1 : Int32).toUInt32 &&& Int32.toUInt32 31)).toInt32) &&& 1431655765)) &&& 858993459) + ((((p0 - (((p0.toUInt32 >>> ((1 : Int32).toUInt32 &&& Int32.toUInt32 31)).toInt32) &&& 1431655765)).toUInt32 >>> ((2 : Int32).toUInt32 &&& Int32.toUInt32 31)).toInt32) &&& 858993459)).toUInt32 >>> ((4 : Int32).toUInt32 &&& Int32.toUInt32 31)).toInt32)) &&& 252645135) + (((((((p0 - (((p0.toUInt32 >>> ((1 : Int32).toUInt32 &&& Int32.toUInt32 31)).toInt32) &&& 1431655765)) &&& 858993459) + ((((p0 - (((p0.toUInt32 >>> ((1 : Int32).toUInt32 &&& Int32.toUInt32 31)).toInt32) &&& 1431655765)).toUInt32 >>> ((2 : Int32).toUInt32 &&& Int32.toUInt32 31)).toInt32) &&& 858993459)) + (((((p0 - (((p0.toUInt32 >>> ((1 : Int32).toUInt32 &&& Int32.toUInt32 31)).toInt32) &&& 1431655765)) &&& 858993459) + ((((p0 - (((p0.toUInt32 >>> ((1 : Int32).toUInt32 &&& Int32.toUInt32 31)).toInt32) &&& 1431655765)).toUInt32 >>> ((2 : Int32).toUInt32 &&& Int32.toUInt32 31)).toInt32) &&& 858993459)).toUInt32 >>> ((4 : Int32).toUInt32 &&& Int32.toUInt32 31)).toInt32)) &&& 252645135).toUInt32 >>> ((8 : Int32).toUInt32 &&& Int32.toUInt32 31)).toInt32)).toUInt32 >>> ((16 : Int32).toUInt32 &&& Int32.toUInt32 31)).toInt32)) &&& 63
set_option maxRecDepth 100000 in
set_option maxHeartbeats 4000000 in
theorem c_J6_bitCount_0f7a4 (g : pq_g) {A : Nat → Prop} (hA : pq_A (SC g) A) (l : Launch) (p0 : Int32) (h : pq_H) : pq_M (SC g) A l yJ6_bitCount_0f7a4 cJ6_bitCount_0f7a4 1 (some .int) 0 0 [.int p0] h (some (.int (f_J6_bitCount_0f7a4 p0))) h := by
  refine pq_met hA l (own := RJ6) 0 0 _ [(0, .int p0)] h _ h (by decide +kernel) rfl (Nat.le_of_ble_eq_true rfl) rfl (fun X hXl hXA hB hK hR => ?_)
  refine V.cast (F' := some (f_J6_bitCount_0f7a4 p0)) (res' := (f_J6_bitCount_0f7a4 p0)) (fun _ => rfl) ?_
  unfold f_J6_bitCount_0f7a4
  refine v_iload_n hB 0 dJ6_bitCount_0f7a4_0 rfl rfl ?_
  refine v_iload_n hB 0 dJ6_bitCount_0f7a4_1 rfl rfl ?_
  refine v_iconst hB 1 dJ6_bitCount_0f7a4_2 (by decide) ?_
  refine v_iushr hB dJ6_bitCount_0f7a4_3 ?_
  refine v_ldcw hB 1431655765 k_J6_265 dJ6_bitCount_0f7a4_4 ?_
  refine v_iand hB dJ6_bitCount_0f7a4_7 ?_
  refine v_isub hB dJ6_bitCount_0f7a4_8 ?_
  refine v_istore_n hB [(0, .int (p0 - (((p0.toUInt32 >>> ((1 : Int32).toUInt32 &&& Int32.toUInt32 31)).toInt32) &&& 1431655765)))] [0] dJ6_bitCount_0f7a4_9 rfl (by decide) rfl ?_
  refine v_iload_n hB 0 dJ6_bitCount_0f7a4_10 rfl rfl ?_
  refine v_ldcw hB 858993459 k_J6_266 dJ6_bitCount_0f7a4_11 ?_
  refine v_iand hB dJ6_bitCount_0f7a4_14 ?_
  refine v_iload_n hB 0 dJ6_bitCount_0f7a4_15 rfl rfl ?_
  refine v_iconst hB 2 dJ6_bitCount_0f7a4_16 (by decide) ?_
  refine v_iushr hB dJ6_bitCount_0f7a4_17 ?_
  refine v_ldcw hB 858993459 k_J6_266 dJ6_bitCount_0f7a4_18 ?_
  refine v_iand hB dJ6_bitCount_0f7a4_21 ?_
  refine v_iadd hB dJ6_bitCount_0f7a4_22 ?_
  refine v_istore_n hB [(0, .int (((p0 - (((p0.toUInt32 >>> ((1 : Int32).toUInt32 &&& Int32.toUInt32 31)).toInt32) &&& 1431655765)) &&& 858993459) + ((((p0 - (((p0.toUInt32 >>> ((1 : Int32).toUInt32 &&& Int32.toUInt32 31)).toInt32) &&& 1431655765)).toUInt32 >>> ((2 : Int32).toUInt32 &&& Int32.toUInt32 31)).toInt32) &&& 858993459)))] [0] dJ6_bitCount_0f7a4_23 rfl (by decide) rfl ?_
  refine v_iload_n hB 0 dJ6_bitCount_0f7a4_24 rfl rfl ?_
  refine v_iload_n hB 0 dJ6_bitCount_0f7a4_25 rfl rfl ?_
  refine v_iconst hB 4 dJ6_bitCount_0f7a4_26 (by decide) ?_
  refine v_iushr hB dJ6_bitCount_0f7a4_27 ?_
  refine v_iadd hB dJ6_bitCount_0f7a4_28 ?_
  refine v_ldcw hB 252645135 k_J6_267 dJ6_bitCount_0f7a4_29 ?_
  refine v_iand hB dJ6_bitCount_0f7a4_32 ?_
  refine v_istore_n hB [(0, .int (((((p0 - (((p0.toUInt32 >>> ((1 : Int32).toUInt32 &&& Int32.toUInt32 31)).toInt32) &&& 1431655765)) &&& 858993459) + ((((p0 - (((p0.toUInt32 >>> ((1 : Int32).toUInt32 &&& Int32.toUInt32 31)).toInt32) &&& 1431655765)).toUInt32 >>> ((2 : Int32).toUInt32 &&& Int32.toUInt32 31)).toInt32) &&& 858993459)) + (((((p0 - (((p0.toUInt32 >>> ((1 : Int32).toUInt32 &&& Int32.toUInt32 31)).toInt32) &&& 1431655765)) &&& 858993459) + ((((p0 - (((p0.toUInt32 >>> ((1 : Int32).toUInt32 &&& Int32.toUInt32 31)).toInt32) &&& 1431655765)).toUInt32 >>> ((2 : Int32).toUInt32 &&& Int32.toUInt32 31)).toInt32) &&& 858993459)).toUInt32 >>> ((4 : Int32).toUInt32 &&& Int32.toUInt32 31)).toInt32)) &&& 252645135))] [0] dJ6_bitCount_0f7a4_33 rfl (by decide) rfl ?_
  refine v_iload_n hB 0 dJ6_bitCount_0f7a4_34 rfl rfl ?_
  refine v_iload_n hB 0 dJ6_bitCount_0f7a4_35 rfl rfl ?_
  refine v_bipush hB 8 dJ6_bitCount_0f7a4_36 (by decide) ?_
  refine v_iushr hB dJ6_bitCount_0f7a4_38 ?_
  refine v_iadd hB dJ6_bitCount_0f7a4_39 ?_
  refine v_istore_n hB [(0, .int ((((((p0 - (((p0.toUInt32 >>> ((1 : Int32).toUInt32 &&& Int32.toUInt32 31)).toInt32) &&& 1431655765)) &&& 858993459) + ((((p0 - (((p0.toUInt32 >>> ((1 : Int32).toUInt32 &&& Int32.toUInt32 31)).toInt32) &&& 1431655765)).toUInt32 >>> ((2 : Int32).toUInt32 &&& Int32.toUInt32 31)).toInt32) &&& 858993459)) + (((((p0 - (((p0.toUInt32 >>> ((1 : Int32).toUInt32 &&& Int32.toUInt32 31)).toInt32) &&& 1431655765)) &&& 858993459) + ((((p0 - (((p0.toUInt32 >>> ((1 : Int32).toUInt32 &&& Int32.toUInt32 31)).toInt32) &&& 1431655765)).toUInt32 >>> ((2 : Int32).toUInt32 &&& Int32.toUInt32 31)).toInt32) &&& 858993459)).toUInt32 >>> ((4 : Int32).toUInt32 &&& Int32.toUInt32 31)).toInt32)) &&& 252645135) + (((((((p0 - (((p0.toUInt32 >>> ((1 : Int32).toUInt32 &&& Int32.toUInt32 31)).toInt32) &&& 1431655765)) &&& 858993459) + ((((p0 - (((p0.toUInt32 >>> ((1 : Int32).toUInt32 &&& Int32.toUInt32 31)).toInt32) &&& 1431655765)).toUInt32 >>> ((2 : Int32).toUInt32 &&& Int32.toUInt32 31)).toInt32) &&& 858993459)) + (((((p0 - (((p0.toUInt32 >>> ((1 : Int32).toUInt32 &&& Int32.toUInt32 31)).toInt32) &&& 1431655765)) &&& 858993459) + ((((p0 - (((p0.toUInt32 >>> ((1 : Int32).toUInt32 &&& Int32.toUInt32 31)).toInt32) &&& 1431655765)).toUInt32 >>> ((2 : Int32).toUInt32 &&& Int32.toUInt32 31)).toInt32) &&& 858993459)).toUInt32 >>> ((4 : Int32).toUInt32 &&& Int32.toUInt32 31)).toInt32)) &&& 252645135).toUInt32 >>> ((8 : Int32).toUInt32 &&& Int32.toUInt32 31)).toInt32)))] [0] dJ6_bitCount_0f7a4_40 rfl (by decide) rfl ?_
  refine v_iload_n hB 0 dJ6_bitCount_0f7a4_41 rfl rfl ?_
  refine v_iload_n hB 0 dJ6_bitCount_0f7a4_42 rfl rfl ?_
  refine v_bipush hB 16 dJ6_bitCount_0f7a4_43 (by decide) ?_
  refine v_iushr hB dJ6_bitCount_0f7a4_45 ?_
  refine v_iadd hB dJ6_bitCount_0f7a4_46 ?_
  refine v_istore_n hB [(0, .int (((((((p0 - (((p0.toUInt32 >>> ((1 : Int32).toUInt32 &&& Int32.toUInt32 31)).toInt32) &&& 1431655765)) &&& 858993459) + ((((p0 - (((p0.toUInt32 >>> ((1 : Int32).toUInt32 &&& Int32.toUInt32 31)).toInt32) &&& 1431655765)).toUInt32 >>> ((2 : Int32).toUInt32 &&& Int32.toUInt32 31)).toInt32) &&& 858993459)) + (((((p0 - (((p0.toUInt32 >>> ((1 : Int32).toUInt32 &&& Int32.toUInt32 31)).toInt32) &&& 1431655765)) &&& 858993459) + ((((p0 - (((p0.toUInt32 >>> ((1 : Int32).toUInt32 &&& Int32.toUInt32 31)).toInt32) &&& 1431655765)).toUInt32 >>> ((2 : Int32).toUInt32 &&& Int32.toUInt32 31)).toInt32) &&& 858993459)).toUInt32 >>> ((4 : Int32).toUInt32 &&& Int32.toUInt32 31)).toInt32)) &&& 252645135) + (((((((p0 - (((p0.toUInt32 >>> ((1 : Int32).toUInt32 &&& Int32.toUInt32 31)).toInt32) &&& 1431655765)) &&& 858993459) + ((((p0 - (((p0.toUInt32 >>> ((1 : Int32).toUInt32 &&& Int32.toUInt32 31)).toInt32) &&& 1431655765)).toUInt32 >>> ((2 : Int32).toUInt32 &&& Int32.toUInt32 31)).toInt32) &&& 858993459)) + (((((p0 - (((p0.toUInt32 >>> ((1 : Int32).toUInt32 &&& Int32.toUInt32 31)).toInt32) &&& 1431655765)) &&& 858993459) + ((((p0 - (((p0.toUInt32 >>> ((1 : Int32).toUInt32 &&& Int32.toUInt32 31)).toInt32) &&& 1431655765)).toUInt32 >>> ((2 : Int32).toUInt32 &&& Int32.toUInt32 31)).toInt32) &&& 858993459)).toUInt32 >>> ((4 : Int32).toUInt32 &&& Int32.toUInt32 31)).toInt32)) &&& 252645135).toUInt32 >>> ((8 : Int32).toUInt32 &&& Int32.toUInt32 31)).toInt32)) + ((((((((p0 - (((p0.toUInt32 >>> ((1 : Int32).toUInt32 &&& Int32.toUInt32 31)).toInt32) &&& 1431655765)) &&& 858993459) + ((((p0 - (((p0.toUInt32 >>> ((1 : Int32).toUInt32 &&& Int32.toUInt32 31)).toInt32) &&& 1431655765)).toUInt32 >>> ((2 : Int32).toUInt32 &&& Int32.toUInt32 31)).toInt32) &&& 858993459)) + (((((p0 - (((p0.toUInt32 >>> ((1 : Int32).toUInt32 &&& Int32.toUInt32 31)).toInt32) &&& 1431655765)) &&& 858993459) + ((((p0 - (((p0.toUInt32 >>> ((1 : Int32).toUInt32 &&& Int32.toUInt32 31)).toInt32) &&& 1431655765)).toUInt32 >>> ((2 : Int32).toUInt32 &&& Int32.toUInt32 31)).toInt32) &&& 858993459)).toUInt32 >>> ((4 : Int32).toUInt32 &&& Int32.toUInt32 31)).toInt32)) &&& 252645135) + (((((((p0 - (((p0.toUInt32 >>> ((1 : Int32).toUInt32 &&& Int32.toUInt32 31)).toInt32) &&& 1431655765)) &&& 858993459) + ((((p0 - (((p0.toUInt32 >>> ((1 : Int32).toUInt32 &&& Int32.toUInt32 31)).toInt32) &&& 1431655765)).toUInt32 >>> ((2 : Int32).toUInt32 &&& Int32.toUInt32 31)).toInt32) &&& 858993459)) + (((((p0 - (((p0.toUInt32 >>> ((1 : Int32).toUInt32 &&& Int32.toUInt32 31)).toInt32) &&& 1431655765)) &&& 858993459) + ((((p0 - (((p0.toUInt32 >>> ((1 : Int32).toUInt32 &&& Int32.toUInt32 31)).toInt32) &&& 1431655765)).toUInt32 >>> ((2 : Int32).toUInt32 &&& Int32.toUInt32 31)).toInt32) &&& 858993459)).toUInt32 >>> ((4 : Int32).toUInt32 &&& Int32.toUInt32 31)).toInt32)) &&& 252645135).toUInt32 >>> ((8 : Int32).toUInt32 &&& Int32.toUInt32 31)).toInt32)).toUInt32 >>> ((16 : Int32).toUInt32 &&& Int32.toUInt32 31)).toInt32)))] [0] dJ6_bitCount_0f7a4_47 rfl (by decide) rfl ?_
  refine v_iload_n hB 0 dJ6_bitCount_0f7a4_48 rfl rfl ?_
  refine v_bipush hB 63 dJ6_bitCount_0f7a4_49 (by decide) ?_
  refine v_iand hB dJ6_bitCount_0f7a4_51 ?_
  exact v_retRi (x := (((((((p0 - (((p0.toUInt32 >>> ((1 : Int32).toUInt32 &&& Int32.toUInt32 31)).toInt32) &&& 1431655765)) &&& 858993459) + ((((p0 - (((p0.toUInt32 >>> ((1 : Int32).toUInt32 &&& Int32.toUInt32 31)).toInt32) &&& 1431655765)).toUInt32 >>> ((2 : Int32).toUInt32 &&& Int32.toUInt32 31)).toInt32) &&& 858993459)) + (((((p0 - (((p0.toUInt32 >>> ((1 : Int32).toUInt32 &&& Int32.toUInt32 31)).toInt32) &&& 1431655765)) &&& 858993459) + ((((p0 - (((p0.toUInt32 >>> ((1 : Int32).toUInt32 &&& Int32.toUInt32 31)).toInt32) &&& 1431655765)).toUInt32 >>> ((2 : Int32).toUInt32 &&& Int32.toUInt32 31)).toInt32) &&& 858993459)).toUInt32 >>> ((4 : Int32).toUInt32 &&& Int32.toUInt32 31)).toInt32)) &&& 252645135) + (((((((p0 - (((p0.toUInt32 >>> ((1 : Int32).toUInt32 &&& Int32.toUInt32 31)).toInt32) &&& 1431655765)) &&& 858993459) + ((((p0 - (((p0.toUInt32 >>> ((1 : Int32).toUInt32 &&& Int32.toUInt32 31)).toInt32) &&& 1431655765)).toUInt32 >>> ((2 : Int32).toUInt32 &&& Int32.toUInt32 31)).toInt32) &&& 858993459)) + (((((p0 - (((p0.toUInt32 >>> ((1 : Int32).toUInt32 &&& Int32.toUInt32 31)).toInt32) &&& 1431655765)) &&& 858993459) + ((((p0 - (((p0.toUInt32 >>> ((1 : Int32).toUInt32 &&& Int32.toUInt32 31)).toInt32) &&& 1431655765)).toUInt32 >>> ((2 : Int32).toUInt32 &&& Int32.toUInt32 31)).toInt32) &&& 858993459)).toUInt32 >>> ((4 : Int32).toUInt32 &&& Int32.toUInt32 31)).toInt32)) &&& 252645135).toUInt32 >>> ((8 : Int32).toUInt32 &&& Int32.toUInt32 31)).toInt32)) + ((((((((p0 - (((p0.toUInt32 >>> ((1 : Int32).toUInt32 &&& Int32.toUInt32 31)).toInt32) &&& 1431655765)) &&& 858993459) + ((((p0 - (((p0.toUInt32 >>> ((1 : Int32).toUInt32 &&& Int32.toUInt32 31)).toInt32) &&& 1431655765)).toUInt32 >>> ((2 : Int32).toUInt32 &&& Int32.toUInt32 31)).toInt32) &&& 858993459)) + (((((p0 - (((p0.toUInt32 >>> ((1 : Int32).toUInt32 &&& Int32.toUInt32 31)).toInt32) &&& 1431655765)) &&& 858993459) + ((((p0 - (((p0.toUInt32 >>> ((1 : Int32).toUInt32 &&& Int32.toUInt32 31)).toInt32) &&& 1431655765)).toUInt32 >>> ((2 : Int32).toUInt32 &&& Int32.toUInt32 31)).toInt32) &&& 858993459)).toUInt32 >>> ((4 : Int32).toUInt32 &&& Int32.toUInt32 31)).toInt32)) &&& 252645135) + (((((((p0 - (((p0.toUInt32 >>> ((1 : Int32).toUInt32 &&& Int32.toUInt32 31)).toInt32) &&& 1431655765)) &&& 858993459) + ((((p0 - (((p0.toUInt32 >>> ((1 : Int32).toUInt32 &&& Int32.toUInt32 31)).toInt32) &&& 1431655765)).toUInt32 >>> ((2 : Int32).toUInt32 &&& Int32.toUInt32 31)).toInt32) &&& 858993459)) + (((((p0 - (((p0.toUInt32 >>> ((1 : Int32).toUInt32 &&& Int32.toUInt32 31)).toInt32) &&& 1431655765)) &&& 858993459) + ((((p0 - (((p0.toUInt32 >>> ((1 : Int32).toUInt32 &&& Int32.toUInt32 31)).toInt32) &&& 1431655765)).toUInt32 >>> ((2 : Int32).toUInt32 &&& Int32.toUInt32 31)).toInt32) &&& 858993459)).toUInt32 >>> ((4 : Int32).toUInt32 &&& Int32.toUInt32 31)).toInt32)) &&& 252645135).toUInt32 >>> ((8 : Int32).toUInt32 &&& Int32.toUInt32 31)).toInt32)).toUInt32 >>> ((16 : Int32).toUInt32 &&& Int32.toUInt32 31)).toInt32)) &&& 63) hB hK hR dJ6_bitCount_0f7a4_52

def f_X10_commonOf_l9 (w9 : Int64 → Int64 → Int32 → Option Int64) (v4 : Int64) (v6 : Int64) (v8 : Int32) : Option Int64 :=
  if 100 ≤ v8 then (some v4) else (if v6 = 0 then (some v4) else (gd (v6 != 0) (w9 v6 (v4 - v4 / v6 * v6) (v8 + 1))))
def f_X10_commonOf (p0 : Int64) (p2 : Int64) : Option Int64 :=
  lp (fun _ _ _ => none) (f_X10_commonOf_l9) 1000 p0 p2 0
set_option maxRecDepth 100000 in
set_option maxHeartbeats 4000000 in
theorem c_X10_commonOf (g : pq_g) {A : Nat → Prop} (hA : pq_A (SC g) A) (l : Launch) (p0 : Int64) (p2 : Int64) (h : pq_H) {rr : Int64} (e : f_X10_commonOf p0 p2 = some rr) : pq_M (SC g) A l yX10_commonOf cX10_commonOf 11 (some .long) 0 0 [.long p0, .long p2] h (some (.long rr)) h := by
  refine pq_met hA l (own := RX10) 0 0 _ [(0, .long p0), (2, .long p2)] h _ h (by decide +kernel) rfl (Nat.le_of_ble_eq_true rfl) rfl (fun X hXl hXA hB hK hR => ?_)
  refine V.cast (F' := f_X10_commonOf p0 p2) (res' := rr) (fun _ => e) ?_
  have hn9 : ∀ (n : Nat), ∀ (v4 : Int64) (v6 : Int64) (v8 : Int32), V X (SC g) rr 11 9 [(4, .long v4), (6, .long v6), (8, .int v8)] [] h (lp (fun _ _ _ => none) (f_X10_commonOf_l9) n v4 v6 v8) := by
    refine lp_ind (fun (w9 : Int64 → Int64 → Int32 → Option Int64) => ∀ (v4 : Int64) (v6 : Int64) (v8 : Int32), V X (SC g) rr 11 9 [(4, .long v4), (6, .long v6), (8, .int v8)] [] h (w9 v4 v6 v8)) (fun _ _ _ => V.none _ _ _ _) (fun w9 ih9 => ?_)
    intro v4 v6 v8
    unfold f_X10_commonOf_l9
    refine v_iload hB 2 dX10_commonOf_9 rfl ?_
    refine v_bipush hB 100 dX10_commonOf_11 (by decide) ?_
    refine v_icmp_ge (tgt := 44) hB dX10_commonOf_13 rfl ?_ ?_
    · refine v_lload hB 0 dX10_commonOf_44 rfl ?_
      exact v_retRj (x := v4) hB hK hR dX10_commonOf_46
    · refine v_lload hB 1 dX10_commonOf_16 rfl ?_
      refine v_lconst hB 0 dX10_commonOf_18 (by decide) ?_
      refine v_lcmp_eq (tgt := 44) hB dX10_commonOf_19 dX10_commonOf_20 rfl ?_ ?_
      · refine v_lload hB 0 dX10_commonOf_44 rfl ?_
        exact v_retRj (x := v4) hB hK hR dX10_commonOf_46
      · refine v_lload hB 0 dX10_commonOf_23 rfl ?_
        refine v_lload hB 1 dX10_commonOf_25 rfl ?_
        refine v_lremG hB dX10_commonOf_27 ?_
        refine v_lstore hB [(4, .long v4), (6, .long v6), (8, .int v8), (9, .long (v4 - v4 / v6 * v6))] [1, 2, 3, 0] dX10_commonOf_28 (by decide) rfl ?_
        refine v_lload hB 1 dX10_commonOf_30 rfl ?_
        refine v_lstore hB [(4, .long v6), (6, .long v6), (8, .int v8), (9, .long (v4 - v4 / v6 * v6))] [0, 1, 2, 3] dX10_commonOf_32 (by decide) rfl ?_
        refine v_lload hB 3 dX10_commonOf_34 rfl ?_
        refine v_lstore hB [(4, .long v6), (6, .long (v4 - v4 / v6 * v6)), (8, .int v8), (9, .long (v4 - v4 / v6 * v6))] [1, 0, 2, 3] dX10_commonOf_36 (by decide) rfl ?_
        refine v_iinc hB (v8 + 1) [(4, .long v6), (6, .long (v4 - v4 / v6 * v6)), (8, .int (v8 + 1)), (9, .long (v4 - v4 / v6 * v6))] 2 [1, 2, 0, 3] dX10_commonOf_38 rfl rfl (by decide) rfl ?_
        refine v_goto (tgt := 9) hB dX10_commonOf_41 rfl ?_
        exact V.sub [0, 1, 2] rfl (ih9 v6 (v4 - v4 / v6 * v6) (v8 + 1))
  unfold f_X10_commonOf
  refine v_lload_n hB 0 dX10_commonOf_0 rfl rfl ?_
  refine v_lstore hB [(0, .long p0), (2, .long p2), (4, .long p0)] [1, 2, 0] dX10_commonOf_1 (by decide) rfl ?_
  refine v_lload_n hB 1 dX10_commonOf_3 rfl rfl ?_
  refine v_lstore hB [(0, .long p0), (2, .long p2), (4, .long p0), (6, .long p2)] [1, 2, 3, 0] dX10_commonOf_4 (by decide) rfl ?_
  refine v_iconst hB 0 dX10_commonOf_6 (by decide) ?_
  refine v_istore hB [(0, .long p0), (2, .long p2), (4, .long p0), (6, .long p2), (8, .int 0)] [1, 2, 3, 4, 0] dX10_commonOf_7 (by decide) rfl ?_
  exact V.sub [2, 3, 4] rfl (hn9 1000 p0 p2 0)

def f_X10_partOf_j56 (v5 : Int64) (s0 : Int64) : Option Int64 :=
  gd (v5 != 0) (some (s0 / v5))
def f_X10_partOf (p0 : Int64) (p2 : Int64) (p4 : Int32) : Option Int64 :=
  (f_X10_commonOf (if 0 < p0 then p0 else -p0) (if 0 < p2 then p2 else -p2)).bind fun r8 => if r8 = 0 then (if p4 = 0 then (some 0) else (some 1)) else (if p4 = 0 then (if 0 ≤ p2 then (f_X10_partOf_j56 r8 p0) else (f_X10_partOf_j56 r8 (-p0))) else (gd (r8 != 0) (some ((if 0 < p2 then p2 else -p2) / r8))))
set_option maxRecDepth 100000 in
set_option maxHeartbeats 4000000 in
theorem c_X10_partOf (g : pq_g) {A : Nat → Prop} (hA : pq_A (SC g) A) (l : Launch) (p0 : Int64) (p2 : Int64) (p4 : Int32) (h : pq_H) {rr : Int64} (e : f_X10_partOf p0 p2 p4 = some rr) : pq_M (SC g) A l yX10_partOf cX10_partOf 7 (some .long) 1 30 [.long p0, .long p2, .int p4] h (some (.long rr)) h := by
  refine pq_met hA l (own := RX10) 1 30 _ [(0, .long p0), (2, .long p2), (4, .int p4)] h _ h (by decide +kernel) rfl (Nat.le_of_ble_eq_true rfl) rfl (fun X hXl hXA hB hK hR => ?_)
  refine V.cast (F' := f_X10_partOf p0 p2 p4) (res' := rr) (fun _ => e) ?_
  have hn56 : ∀ (v5 : Int64) (s0 : Int64), V X (SC g) rr 7 56 [(5, .long v5)] [.long s0] h (f_X10_partOf_j56 v5 s0) := by
    intro v5 s0
    unfold f_X10_partOf_j56
    refine v_lload hB 0 dX10_partOf_56 rfl ?_
    refine v_ldivG hB dX10_partOf_58 ?_
    exact v_retRj (x := s0 / v5) hB hK hR dX10_partOf_59
  unfold f_X10_partOf
  refine v_lload_n hB 0 dX10_partOf_0 rfl rfl ?_
  refine v_mabsl hB hR.rm lk_X10_321 (by decide) (Nat.le_of_ble_eq_true rfl) dX10_partOf_1 ?_
  refine v_lload_n hB 1 dX10_partOf_4 rfl rfl ?_
  refine v_mabsl hB hR.rm lk_X10_321 (by decide) (Nat.le_of_ble_eq_true rfl) dX10_partOf_5 ?_
  refine v_bRj (fun r8 e8 => v_callS hB hK hR.rm [.long (if 0 < p0 then p0 else -p0), .long (if 0 < p2 then p2 else -p2)] [] lb_X10_commonOf lv_X10_325 (c_X10_commonOf g hK.A X.1.2.1 (if 0 < p0 then p0 else -p0) (if 0 < p2 then p2 else -p2) h e8) dX10_partOf_8 rfl rfl (Nat.le_of_ble_eq_true rfl) (by decide) (by decide)) (fun r8 => ?_)
  refine v_lstore hB [(0, .long p0), (2, .long p2), (4, .int p4), (5, .long r8)] [1, 2, 3, 0] dX10_partOf_11 (by decide) rfl ?_
  refine v_lload hB 3 dX10_partOf_13 rfl ?_
  refine v_lconst hB 0 dX10_partOf_15 (by decide) ?_
  refine v_lcmp_ne (tgt := 31) hB dX10_partOf_16 dX10_partOf_17 rfl ?_ ?_
  · refine v_iload hB 2 dX10_partOf_31 rfl ?_
    refine v_if_eq (tgt := 44) hB dX10_partOf_33 rfl ?_ ?_
    · refine v_lload_n hB 1 dX10_partOf_44 rfl rfl ?_
      refine v_lconst hB 0 dX10_partOf_45 (by decide) ?_
      refine v_lcmp_ge (tgt := 55) hB dX10_partOf_46 dX10_partOf_47 rfl ?_ ?_
      · refine v_lload_n hB 0 dX10_partOf_55 rfl rfl ?_
        exact V.sub [3] rfl (hn56 r8 p0)
      · refine v_lload_n hB 0 dX10_partOf_50 rfl rfl ?_
        refine v_lneg hB dX10_partOf_51 ?_
        refine v_goto (tgt := 56) hB dX10_partOf_52 rfl ?_
        exact V.sub [3] rfl (hn56 r8 (-p0))
    · refine v_lload_n hB 1 dX10_partOf_36 rfl rfl ?_
      refine v_mabsl hB hR.rm lk_X10_321 (by decide) (Nat.le_of_ble_eq_true rfl) dX10_partOf_37 ?_
      refine v_lload hB 3 dX10_partOf_40 rfl ?_
      refine v_ldivG hB dX10_partOf_42 ?_
      exact v_retRj (x := (if 0 < p2 then p2 else -p2) / r8) hB hK hR dX10_partOf_43
  · refine v_iload hB 2 dX10_partOf_20 rfl ?_
    refine v_if_ne (tgt := 29) hB dX10_partOf_22 rfl ?_ ?_
    · refine v_lconst hB 1 dX10_partOf_29 (by decide) ?_
      exact v_retRj (x := 1) hB hK hR dX10_partOf_30
    · refine v_lconst hB 0 dX10_partOf_25 (by decide) ?_
      refine v_goto (tgt := 30) hB dX10_partOf_26 rfl ?_
      exact v_retRj (x := 0) hB hK hR dX10_partOf_30

def f_X5_fraction_j40 (p3 : Int32) : Option Int64 :=
  (f_X10_partOf 0 1 p3).bind fun r43 => some r43
def f_X5_fraction (p1 : Int32) (p2 : Int32) (p3 : Int32) (h : pq_H) : Option Int64 :=
  if ((p1 >>> (p2 &&& 31)) &&& 1) = 0 then (f_X5_fraction_j40 p3) else (if (rI h 71 3) ≤ (f_J6_bitCount_0f7a4 (p1 &&& ((1 <<< (p2 &&& 31)) - 1))) then (f_X5_fraction_j40 p3) else (gd (inb (f_J6_bitCount_0f7a4 (p1 &&& ((1 <<< (p2 &&& 31)) - 1))) 3) (if (rI h 73 (f_J6_bitCount_0f7a4 (p1 &&& ((1 <<< (p2 &&& 31)) - 1))).toNatClampNeg) = (-1) then (f_X5_fraction_j40 p3) else (gd (inb (f_J6_bitCount_0f7a4 (p1 &&& ((1 <<< (p2 &&& 31)) - 1))) 3) (gd (inb (rI h 73 (f_J6_bitCount_0f7a4 (p1 &&& ((1 <<< (p2 &&& 31)) - 1))).toNatClampNeg) 28) (rowG 24 52 (rR h 72 (rI h 73 (f_J6_bitCount_0f7a4 (p1 &&& ((1 <<< (p2 &&& 31)) - 1))).toNatClampNeg).toNatClampNeg) fun q58 => gd (inb (rI h 71 3) 4) (gd (inb (f_J6_bitCount_0f7a4 (p1 &&& ((1 <<< (p2 &&& 31)) - 1))) 4) ((f_X10_partOf (rJ h q58 (rI h 71 3).toNatClampNeg) (rJ h q58 (f_J6_bitCount_0f7a4 (p1 &&& ((1 <<< (p2 &&& 31)) - 1))).toNatClampNeg) p3).bind fun r74 => some r74))))))))
set_option maxRecDepth 100000 in
set_option maxHeartbeats 4000000 in
theorem c_X5_fraction (g : pq_g) {A : Nat → Prop} (hA : pq_A (SC g) A) (l : Launch) (p1 : Int32) (p2 : Int32) (p3 : Int32) (h : pq_H) {rr : Int64} (e : f_X5_fraction p1 p2 p3 h = some rr) : pq_M (SC g) A l yX5_fraction cX5_fraction 6 (some .long) 2 56 [.ref ((SC g).1.2.1 71), .int p1, .int p2, .int p3] h (some (.long rr)) h := by
  refine pq_met hA l (own := RX5) 2 56 _ [(0, .ref ((SC g).1.2.1 71)), (1, .int p1), (2, .int p2), (3, .int p3)] h _ h (by decide +kernel) rfl (Nat.le_of_ble_eq_true rfl) rfl (fun X hXl hXA hB hK hR => ?_)
  refine V.cast (F' := f_X5_fraction p1 p2 p3 h) (res' := rr) (fun _ => e) ?_
  have hn40 : V X (SC g) rr 6 40 [(3, .int p3)] [] h (f_X5_fraction_j40 p3) := by
    unfold f_X5_fraction_j40
    refine v_lconst hB 0 dX5_fraction_40 (by decide) ?_
    refine v_lconst hB 1 dX5_fraction_41 (by decide) ?_
    refine v_iload_n hB 0 dX5_fraction_42 rfl rfl ?_
    refine v_bRj (fun r43 e43 => v_callSN hB hK hR.rm [.long 0, .long 1, .int p3] [] lb_X10_partOf (nk_X5_68 g) lv_X5_68 (c_X10_partOf g hK.A X.1.2.1 0 1 p3 h e43) dX5_fraction_43 rfl rfl (Nat.le_of_ble_eq_true rfl) (by decide) (by decide)) (fun r43 => ?_)
    exact v_retRj (x := r43) hB hK hR dX5_fraction_46
  unfold f_X5_fraction
  refine v_iload_n hB 1 dX5_fraction_0 rfl rfl ?_
  refine v_iconst hB 1 dX5_fraction_1 (by decide) ?_
  refine v_iload_n hB 2 dX5_fraction_2 rfl rfl ?_
  refine v_ishl hB dX5_fraction_3 ?_
  refine v_iconst hB 1 dX5_fraction_4 (by decide) ?_
  refine v_isub hB dX5_fraction_5 ?_
  refine v_iand hB dX5_fraction_6 ?_
  refine v_bT (v_callS hB hK hR.rm [.int (p1 &&& ((1 <<< (p2 &&& 31)) - 1))] [] lb_J6_bitCount_0f7a4 lv_X5_63 (c_J6_bitCount_0f7a4 g hK.A X.1.2.1 (p1 &&& ((1 <<< (p2 &&& 31)) - 1)) h) dX5_fraction_7 rfl rfl (Nat.le_of_ble_eq_true rfl) (by decide) (by decide)) ?_
  refine v_istore hB [(0, .ref ((SC g).1.2.1 71)), (1, .int p1), (2, .int p2), (3, .int p3), (4, .int (f_J6_bitCount_0f7a4 (p1 &&& ((1 <<< (p2 &&& 31)) - 1))))] [1, 2, 3, 4, 0] dX5_fraction_10 (by decide) rfl ?_
  refine v_iload_n hB 1 dX5_fraction_12 rfl rfl ?_
  refine v_iload_n hB 2 dX5_fraction_13 rfl rfl ?_
  refine v_ishr hB dX5_fraction_14 ?_
  refine v_iconst hB 1 dX5_fraction_15 (by decide) ?_
  refine v_iand hB dX5_fraction_16 ?_
  refine v_if_eq (tgt := 40) hB dX5_fraction_17 rfl ?_ ?_
  · exact V.sub [3] rfl (hn40)
  · refine v_iload hB 4 dX5_fraction_20 rfl ?_
    refine v_aload_n hB 0 dX5_fraction_22 rfl rfl ?_
    refine v_getI hB hK (fl_X5_39 g) (cCI_71_3 g) dX5_fraction_23 ?_
    refine v_icmp_ge (tgt := 40) hB dX5_fraction_26 rfl ?_ ?_
    · exact V.sub [3] rfl (hn40)
    · refine v_aload_n hB 0 dX5_fraction_29 rfl rfl ?_
      refine v_getA hB hK (fl_X5_16 g) (cCA_71_1 g) dX5_fraction_30 ?_
      refine v_iload hB 4 dX5_fraction_33 rfl ?_
      refine v_iald hB hK (aCI_73 g) dX5_fraction_35 ?_
      refine v_iconst hB (-1) dX5_fraction_36 (by decide) ?_
      refine v_icmp_ne (tgt := 47) hB dX5_fraction_37 rfl ?_ ?_
      · refine v_aload_n hB 0 dX5_fraction_47 rfl rfl ?_
        refine v_getA hB hK (fl_X5_11 g) (cCA_71_0 g) dX5_fraction_48 ?_
        refine v_aload_n hB 0 dX5_fraction_51 rfl rfl ?_
        refine v_getA hB hK (fl_X5_16 g) (cCA_71_1 g) dX5_fraction_52 ?_
        refine v_iload hB 4 dX5_fraction_55 rfl ?_
        refine v_iald hB hK (aCI_73 g) dX5_fraction_57 ?_
        refine v_aaldR hB hK 24 52 (aR_72 g) dX5_fraction_58 (fun q58 q58a q58b => ?_)
        refine v_astore hB [(0, .ref ((SC g).1.2.1 71)), (1, .int p1), (2, .int p2), (3, .int p3), (4, .int (f_J6_bitCount_0f7a4 (p1 &&& ((1 <<< (p2 &&& 31)) - 1)))), (5, .ref ((SC g).1.2.1 q58))] [1, 2, 3, 4, 5, 0] dX5_fraction_59 (by decide) rfl ?_
        refine v_aload hB 5 dX5_fraction_61 rfl ?_
        refine v_aload_n hB 0 dX5_fraction_63 rfl rfl ?_
        refine v_getI hB hK (fl_X5_39 g) (cCI_71_3 g) dX5_fraction_64 ?_
        refine v_lald hB hK (aJ_mrow g q58 q58a q58b) dX5_fraction_67 ?_
        refine v_aload hB 5 dX5_fraction_68 rfl ?_
        refine v_iload hB 4 dX5_fraction_70 rfl ?_
        refine v_lald hB hK (aJ_mrow g q58 q58a q58b) dX5_fraction_72 ?_
        refine v_iload_n hB 3 dX5_fraction_73 rfl rfl ?_
        refine v_bRj (fun r74 e74 => v_callSN hB hK hR.rm [.long (rJ h q58 (rI h 71 3).toNatClampNeg), .long (rJ h q58 (f_J6_bitCount_0f7a4 (p1 &&& ((1 <<< (p2 &&& 31)) - 1))).toNatClampNeg), .int p3] [] lb_X10_partOf (nk_X5_68 g) lv_X5_68 (c_X10_partOf g hK.A X.1.2.1 (rJ h q58 (rI h 71 3).toNatClampNeg) (rJ h q58 (f_J6_bitCount_0f7a4 (p1 &&& ((1 <<< (p2 &&& 31)) - 1))).toNatClampNeg) p3 h e74) dX5_fraction_74 rfl rfl (Nat.le_of_ble_eq_true rfl) (by decide) (by decide)) (fun r74 => ?_)
        exact v_retRj (x := r74) hB hK hR dX5_fraction_77
      · exact V.sub [3] rfl (hn40)

def f_X6_isFull (h : pq_H) : Bool :=
  if (rI h 56 3) < 6 then (false) else (true)
set_option maxRecDepth 100000 in
set_option maxHeartbeats 4000000 in
theorem c_X6_isFull (g : pq_g) {A : Nat → Prop} (hA : pq_A (SC g) A) (l : Launch) (h : pq_H) : pq_M (SC g) A l yX6_isFull cX6_isFull 1 (some .boolean) 0 0 [.ref ((SC g).1.2.1 56)] h (some (.int (b2i (f_X6_isFull h)))) h := by
  refine pq_met hA l (own := RX6) 0 0 _ [(0, .ref ((SC g).1.2.1 56))] h _ h (by decide +kernel) rfl (Nat.le_of_ble_eq_true rfl) rfl (fun X hXl hXA hB hK hR => ?_)
  refine V.cast (F' := some (f_X6_isFull h)) (res' := (f_X6_isFull h)) (fun _ => rfl) ?_
  unfold f_X6_isFull
  refine v_aload_n hB 0 dX6_isFull_0 rfl rfl ?_
  refine v_getI hB hK (fl_X6_32 g) (cCI_56_3 g) dX6_isFull_1 ?_
  refine v_bipush hB 6 dX6_isFull_4 (by decide) ?_
  refine v_icmp_ltT (tgt := 13) hB dX6_isFull_6 rfl ?_ ?_
  · refine v_iconst hB 0 dX6_isFull_13 (by decide) ?_
    exact v_retRz (x := false) hB hK hR dX6_isFull_14
  · refine v_iconst hB 1 dX6_isFull_9 (by decide) ?_
    refine v_goto (tgt := 14) hB dX6_isFull_10 rfl ?_
    exact v_retRz (x := true) hB hK hR dX6_isFull_14

def f_X6_lacks (p1 : Int32) (h : pq_H) : Bool :=
  f_X10_notBelow p1 (rI h 56 3)
set_option maxRecDepth 100000 in
set_option maxHeartbeats 4000000 in
theorem c_X6_lacks (g : pq_g) {A : Nat → Prop} (hA : pq_A (SC g) A) (l : Launch) (p1 : Int32) (h : pq_H) : pq_M (SC g) A l yX6_lacks cX6_lacks 2 (some .boolean) 1 21 [.ref ((SC g).1.2.1 56), .int p1] h (some (.int (b2i (f_X6_lacks p1 h)))) h := by
  refine pq_met hA l (own := RX6) 1 21 _ [(0, .ref ((SC g).1.2.1 56)), (1, .int p1)] h _ h (by decide +kernel) rfl (Nat.le_of_ble_eq_true rfl) rfl (fun X hXl hXA hB hK hR => ?_)
  refine V.cast (F' := some (f_X6_lacks p1 h)) (res' := (f_X6_lacks p1 h)) (fun _ => rfl) ?_
  unfold f_X6_lacks
  refine v_iload_n hB 1 dX6_lacks_0 rfl rfl ?_
  refine v_aload_n hB 0 dX6_lacks_1 rfl rfl ?_
  refine v_getI hB hK (fl_X6_32 g) (cCI_56_3 g) dX6_lacks_2 ?_
  refine v_bT (v_callSN hB hK hR.rm [.int p1, .int (rI h 56 3)] [] lb_X10_notBelow (nk_X6_35 g) lv_X6_35 (c_X10_notBelow g hK.A X.1.2.1 p1 (rI h 56 3) h) dX6_lacks_5 rfl rfl (Nat.le_of_ble_eq_true rfl) (by decide) (by decide)) ?_
  exact v_retRz (x := f_X10_notBelow p1 (rI h 56 3)) hB hK hR dX6_lacks_8

def f_X6_lacksOf (p1 : Int32) (h : pq_H) : Bool :=
  if p1 < 1 then (true) else (if p1 < (1 <<< ((rI h 56 3) &&& 31)) then (false) else (true))
set_option maxRecDepth 100000 in
set_option maxHeartbeats 4000000 in
theorem c_X6_lacksOf (g : pq_g) {A : Nat → Prop} (hA : pq_A (SC g) A) (l : Launch) (p1 : Int32) (h : pq_H) : pq_M (SC g) A l yX6_lacksOf cX6_lacksOf 2 (some .boolean) 0 0 [.ref ((SC g).1.2.1 56), .int p1] h (some (.int (b2i (f_X6_lacksOf p1 h)))) h := by
  refine pq_met hA l (own := RX6) 0 0 _ [(0, .ref ((SC g).1.2.1 56)), (1, .int p1)] h _ h (by decide +kernel) rfl (Nat.le_of_ble_eq_true rfl) rfl (fun X hXl hXA hB hK hR => ?_)
  refine V.cast (F' := some (f_X6_lacksOf p1 h)) (res' := (f_X6_lacksOf p1 h)) (fun _ => rfl) ?_
  unfold f_X6_lacksOf
  refine v_iload_n hB 1 dX6_lacksOf_0 rfl rfl ?_
  refine v_iconst hB 1 dX6_lacksOf_1 (by decide) ?_
  refine v_icmp_ltT (tgt := 15) hB dX6_lacksOf_2 rfl ?_ ?_
  · refine v_iconst hB 1 dX6_lacksOf_15 (by decide) ?_
    refine v_goto (tgt := 20) hB dX6_lacksOf_16 rfl ?_
    exact v_retRz (x := true) hB hK hR dX6_lacksOf_20
  · refine v_iload_n hB 1 dX6_lacksOf_5 rfl rfl ?_
    refine v_iconst hB 1 dX6_lacksOf_6 (by decide) ?_
    refine v_aload_n hB 0 dX6_lacksOf_7 rfl rfl ?_
    refine v_getI hB hK (fl_X6_32 g) (cCI_56_3 g) dX6_lacksOf_8 ?_
    refine v_ishl hB dX6_lacksOf_11 ?_
    refine v_icmp_ltT (tgt := 19) hB dX6_lacksOf_12 rfl ?_ ?_
    · refine v_iconst hB 0 dX6_lacksOf_19 (by decide) ?_
      exact v_retRz (x := false) hB hK hR dX6_lacksOf_20
    · refine v_iconst hB 1 dX6_lacksOf_15 (by decide) ?_
      refine v_goto (tgt := 20) hB dX6_lacksOf_16 rfl ?_
      exact v_retRz (x := true) hB hK hR dX6_lacksOf_20

def f_X6_keepImage_j31 (h : pq_H) : Option pq_H :=
  some (wI h 56 4 (rI h 56 3))
def f_X6_keepImage_l2 (w2 : Int32 → pq_H → Option pq_H) (v1 : Int32) (h : pq_H) : Option pq_H :=
  if (rI h 56 3) ≤ v1 then (f_X6_keepImage_j31 h) else (gd (inb v1 6) (gd (inb v1 6) ((f_X1_copyOf (6 + v1.toNatClampNeg) v1.toNatClampNeg h).bind fun h22 => w2 (v1 + 1) h22)))
def f_X6_keepImage (h : pq_H) : Option pq_H :=
  lp (fun _ _ => none) (f_X6_keepImage_l2) 1000 0 h
set_option maxRecDepth 100000 in
set_option maxHeartbeats 4000000 in
theorem c_X6_keepImage (g : pq_g) {A : Nat → Prop} (hA : pq_A (SC g) A) (l : Launch) (h : pq_H) {hh : pq_H} (e : f_X6_keepImage h = some hh) : pq_M (SC g) A l yX6_keepImage cX6_keepImage 2 none 1 22 [.ref ((SC g).1.2.1 56)] h none hh := by
  refine pq_met hA l (own := RX6) 1 22 _ [(0, .ref ((SC g).1.2.1 56))] h _ hh (by decide +kernel) rfl (Nat.le_of_ble_eq_true rfl) rfl (fun X hXl hXA hB hK hR => ?_)
  refine V.cast (F' := f_X6_keepImage h) (res' := hh) (fun _ => e) ?_
  have hn31 : ∀ (h : pq_H), V X (SC g) hh 2 31 [(0, .ref ((SC g).1.2.1 56))] [] h (f_X6_keepImage_j31 h) := by
    intro h
    unfold f_X6_keepImage_j31
    refine v_aload_n hB 0 dX6_keepImage_31 rfl rfl ?_
    refine v_aload_n hB 0 dX6_keepImage_32 rfl rfl ?_
    refine v_getI hB hK (fl_X6_32 g) (cCI_56_3 g) dX6_keepImage_33 ?_
    refine v_putI hB hK (fl_X6_27 g) (fin_X6_4 g) (cCI_56_4 g) dX6_keepImage_36 ?_
    exact v_retWv hB hK hR dX6_keepImage_39
  have hn2 : ∀ (n : Nat), ∀ (v1 : Int32) (h : pq_H), V X (SC g) hh 2 2 [(0, .ref ((SC g).1.2.1 56)), (1, .int v1)] [] h (lp (fun _ _ => none) (f_X6_keepImage_l2) n v1 h) := by
    refine lp_ind (fun (w2 : Int32 → pq_H → Option pq_H) => ∀ (v1 : Int32) (h : pq_H), V X (SC g) hh 2 2 [(0, .ref ((SC g).1.2.1 56)), (1, .int v1)] [] h (w2 v1 h)) (fun _ _ => V.none _ _ _ _) (fun w2 ih2 => ?_)
    intro v1 h
    unfold f_X6_keepImage_l2
    refine v_iload_n hB 1 dX6_keepImage_2 rfl rfl ?_
    refine v_aload_n hB 0 dX6_keepImage_3 rfl rfl ?_
    refine v_getI hB hK (fl_X6_32 g) (cCI_56_3 g) dX6_keepImage_4 ?_
    refine v_icmp_ge (tgt := 31) hB dX6_keepImage_7 rfl ?_ ?_
    · exact V.sub [0] rfl (hn31 h)
    · refine v_aload_n hB 0 dX6_keepImage_10 rfl rfl ?_
      refine v_getA hB hK (fl_X6_17 g) (cCA_56_1 g) dX6_keepImage_11 ?_
      refine v_iload_n hB 1 dX6_keepImage_14 rfl rfl ?_
      refine v_aa58 hB hK dX6_keepImage_15 (fun q15 => ?_)
      refine v_aload_n hB 0 dX6_keepImage_16 rfl rfl ?_
      refine v_getA hB hK (fl_X6_11 g) (cCA_56_0 g) dX6_keepImage_17 ?_
      refine v_iload_n hB 1 dX6_keepImage_20 rfl rfl ?_
      refine v_aa57 hB hK dX6_keepImage_21 (fun q21 => ?_)
      refine v_bV (fun h22 e22 => v_callV hB hK hR.rm [.ref ((SC g).1.2.1 v1.toNatClampNeg)] [] (o_Form g (6 + v1.toNatClampNeg) (lt6_k q15)) lb_X1_copyOf lv_X6_39 (c_X1_copyOf g hK.A X.1.2.1 (6 + v1.toNatClampNeg) (lt6_k q15) v1.toNatClampNeg (lt6_12 q21) h e22) dX6_keepImage_22 rfl rfl (Nat.le_of_ble_eq_true rfl) (by decide) (by decide)) (fun h22 => ?_)
      refine v_iinc hB (v1 + 1) [(0, .ref ((SC g).1.2.1 56)), (1, .int (v1 + 1))] 1 [1, 0] dX6_keepImage_25 rfl rfl (by decide) rfl ?_
      refine v_goto (tgt := 2) hB dX6_keepImage_28 rfl ?_
      exact V.sub [0, 1] rfl (ih2 (v1 + 1) h22)
  unfold f_X6_keepImage
  refine v_iconst hB 0 dX6_keepImage_0 (by decide) ?_
  refine v_istore_n hB [(0, .ref ((SC g).1.2.1 56)), (1, .int 0)] [1, 0] dX6_keepImage_1 rfl (by decide) rfl ?_
  exact V.sub [0, 1] rfl (hn2 1000 0 h)

def f_X6_restoreImage_j31 (h : pq_H) : Option pq_H :=
  some (wI h 56 3 (rI h 56 4))
def f_X6_restoreImage_l2 (w2 : Int32 → pq_H → Option pq_H) (v1 : Int32) (h : pq_H) : Option pq_H :=
  if (rI h 56 4) ≤ v1 then (f_X6_restoreImage_j31 h) else (gd (inb v1 6) (gd (inb v1 6) ((f_X1_copyOf v1.toNatClampNeg (6 + v1.toNatClampNeg) h).bind fun h22 => w2 (v1 + 1) h22)))
def f_X6_restoreImage (h : pq_H) : Option pq_H :=
  lp (fun _ _ => none) (f_X6_restoreImage_l2) 1000 0 h
set_option maxRecDepth 100000 in
set_option maxHeartbeats 4000000 in
theorem c_X6_restoreImage (g : pq_g) {A : Nat → Prop} (hA : pq_A (SC g) A) (l : Launch) (h : pq_H) {hh : pq_H} (e : f_X6_restoreImage h = some hh) : pq_M (SC g) A l yX6_restoreImage cX6_restoreImage 2 none 1 22 [.ref ((SC g).1.2.1 56)] h none hh := by
  refine pq_met hA l (own := RX6) 1 22 _ [(0, .ref ((SC g).1.2.1 56))] h _ hh (by decide +kernel) rfl (Nat.le_of_ble_eq_true rfl) rfl (fun X hXl hXA hB hK hR => ?_)
  refine V.cast (F' := f_X6_restoreImage h) (res' := hh) (fun _ => e) ?_
  have hn31 : ∀ (h : pq_H), V X (SC g) hh 2 31 [(0, .ref ((SC g).1.2.1 56))] [] h (f_X6_restoreImage_j31 h) := by
    intro h
    unfold f_X6_restoreImage_j31
    refine v_aload_n hB 0 dX6_restoreImage_31 rfl rfl ?_
    refine v_aload_n hB 0 dX6_restoreImage_32 rfl rfl ?_
    refine v_getI hB hK (fl_X6_27 g) (cCI_56_4 g) dX6_restoreImage_33 ?_
    refine v_putI hB hK (fl_X6_32 g) (fin_X6_3 g) (cCI_56_3 g) dX6_restoreImage_36 ?_
    exact v_retWv hB hK hR dX6_restoreImage_39
  have hn2 : ∀ (n : Nat), ∀ (v1 : Int32) (h : pq_H), V X (SC g) hh 2 2 [(0, .ref ((SC g).1.2.1 56)), (1, .int v1)] [] h (lp (fun _ _ => none) (f_X6_restoreImage_l2) n v1 h) := by
    refine lp_ind (fun (w2 : Int32 → pq_H → Option pq_H) => ∀ (v1 : Int32) (h : pq_H), V X (SC g) hh 2 2 [(0, .ref ((SC g).1.2.1 56)), (1, .int v1)] [] h (w2 v1 h)) (fun _ _ => V.none _ _ _ _) (fun w2 ih2 => ?_)
    intro v1 h
    unfold f_X6_restoreImage_l2
    refine v_iload_n hB 1 dX6_restoreImage_2 rfl rfl ?_
    refine v_aload_n hB 0 dX6_restoreImage_3 rfl rfl ?_
    refine v_getI hB hK (fl_X6_27 g) (cCI_56_4 g) dX6_restoreImage_4 ?_
    refine v_icmp_ge (tgt := 31) hB dX6_restoreImage_7 rfl ?_ ?_
    · exact V.sub [0] rfl (hn31 h)
    · refine v_aload_n hB 0 dX6_restoreImage_10 rfl rfl ?_
      refine v_getA hB hK (fl_X6_11 g) (cCA_56_0 g) dX6_restoreImage_11 ?_
      refine v_iload_n hB 1 dX6_restoreImage_14 rfl rfl ?_
      refine v_aa57 hB hK dX6_restoreImage_15 (fun q15 => ?_)
      refine v_aload_n hB 0 dX6_restoreImage_16 rfl rfl ?_
      refine v_getA hB hK (fl_X6_17 g) (cCA_56_1 g) dX6_restoreImage_17 ?_
      refine v_iload_n hB 1 dX6_restoreImage_20 rfl rfl ?_
      refine v_aa58 hB hK dX6_restoreImage_21 (fun q21 => ?_)
      refine v_bV (fun h22 e22 => v_callV hB hK hR.rm [.ref ((SC g).1.2.1 (6 + v1.toNatClampNeg))] [] (o_Form g v1.toNatClampNeg (lt6_12 q15)) lb_X1_copyOf lv_X6_39 (c_X1_copyOf g hK.A X.1.2.1 v1.toNatClampNeg (lt6_12 q15) (6 + v1.toNatClampNeg) (lt6_k q21) h e22) dX6_restoreImage_22 rfl rfl (Nat.le_of_ble_eq_true rfl) (by decide) (by decide)) (fun h22 => ?_)
      refine v_iinc hB (v1 + 1) [(0, .ref ((SC g).1.2.1 56)), (1, .int (v1 + 1))] 1 [1, 0] dX6_restoreImage_25 rfl rfl (by decide) rfl ?_
      refine v_goto (tgt := 2) hB dX6_restoreImage_28 rfl ?_
      exact V.sub [0, 1] rfl (ih2 (v1 + 1) h22)
  unfold f_X6_restoreImage
  refine v_iconst hB 0 dX6_restoreImage_0 (by decide) ?_
  refine v_istore_n hB [(0, .ref ((SC g).1.2.1 56)), (1, .int 0)] [1, 0] dX6_restoreImage_1 rfl (by decide) rfl ?_
  exact V.sub [0, 1] rfl (hn2 1000 0 h)

def f_X6_termsOfAll_l4 (h : pq_H) (w4 : Int32 → Int32 → Option Int32) (v1 : Int32) (v2 : Int32) : Option Int32 :=
  if (rI h 56 3) ≤ v2 then (some v1) else (gd (inb v2 6) (w4 (v1 + (f_X10_termsOf (rI h v2.toNatClampNeg 3))) (v2 + 1)))
def f_X6_termsOfAll (h : pq_H) : Option Int32 :=
  lp (fun _ _ => none) (f_X6_termsOfAll_l4 h) 1000 0 0
set_option maxRecDepth 100000 in
set_option maxHeartbeats 4000000 in
theorem c_X6_termsOfAll (g : pq_g) {A : Nat → Prop} (hA : pq_A (SC g) A) (l : Launch) (h : pq_H) {rr : Int32} (e : f_X6_termsOfAll h = some rr) : pq_M (SC g) A l yX6_termsOfAll cX6_termsOfAll 3 (some .int) 1 20 [.ref ((SC g).1.2.1 56)] h (some (.int rr)) h := by
  refine pq_met hA l (own := RX6) 1 20 _ [(0, .ref ((SC g).1.2.1 56))] h _ h (by decide +kernel) rfl (Nat.le_of_ble_eq_true rfl) rfl (fun X hXl hXA hB hK hR => ?_)
  refine V.cast (F' := f_X6_termsOfAll h) (res' := rr) (fun _ => e) ?_
  have hn4 : ∀ (n : Nat), ∀ (v1 : Int32) (v2 : Int32), V X (SC g) rr 3 4 [(0, .ref ((SC g).1.2.1 56)), (1, .int v1), (2, .int v2)] [] h (lp (fun _ _ => none) (f_X6_termsOfAll_l4 h) n v1 v2) := by
    refine lp_ind (fun (w4 : Int32 → Int32 → Option Int32) => ∀ (v1 : Int32) (v2 : Int32), V X (SC g) rr 3 4 [(0, .ref ((SC g).1.2.1 56)), (1, .int v1), (2, .int v2)] [] h (w4 v1 v2)) (fun _ _ => V.none _ _ _ _) (fun w4 ih4 => ?_)
    intro v1 v2
    unfold f_X6_termsOfAll_l4
    refine v_iload_n hB 2 dX6_termsOfAll_4 rfl rfl ?_
    refine v_aload_n hB 0 dX6_termsOfAll_5 rfl rfl ?_
    refine v_getI hB hK (fl_X6_32 g) (cCI_56_3 g) dX6_termsOfAll_6 ?_
    refine v_icmp_ge (tgt := 33) hB dX6_termsOfAll_9 rfl ?_ ?_
    · refine v_iload_n hB 1 dX6_termsOfAll_33 rfl rfl ?_
      exact v_retRi (x := v1) hB hK hR dX6_termsOfAll_34
    · refine v_iload_n hB 1 dX6_termsOfAll_12 rfl rfl ?_
      refine v_aload_n hB 0 dX6_termsOfAll_13 rfl rfl ?_
      refine v_getA hB hK (fl_X6_11 g) (cCA_56_0 g) dX6_termsOfAll_14 ?_
      refine v_iload_n hB 2 dX6_termsOfAll_17 rfl rfl ?_
      refine v_aa57 hB hK dX6_termsOfAll_18 (fun q18 => ?_)
      refine v_getI hB hK (fl_X6_43 g) (cI_Form_3 g v2.toNatClampNeg (lt6_12 q18)) dX6_termsOfAll_19 ?_
      refine v_bT (v_callSN hB hK hR.rm [.int (rI h v2.toNatClampNeg 3)] [.int v1] lb_X10_termsOf (nk_X6_46 g) lv_X6_46 (c_X10_termsOf g hK.A X.1.2.1 (rI h v2.toNatClampNeg 3) h) dX6_termsOfAll_22 rfl rfl (Nat.le_of_ble_eq_true rfl) (by decide) (by decide)) ?_
      refine v_iadd hB dX6_termsOfAll_25 ?_
      refine v_istore_n hB [(0, .ref ((SC g).1.2.1 56)), (1, .int (v1 + (f_X10_termsOf (rI h v2.toNatClampNeg 3)))), (2, .int v2)] [1, 0, 2] dX6_termsOfAll_26 rfl (by decide) rfl ?_
      refine v_iinc hB (v2 + 1) [(0, .ref ((SC g).1.2.1 56)), (1, .int (v1 + (f_X10_termsOf (rI h v2.toNatClampNeg 3)))), (2, .int (v2 + 1))] 2 [1, 2, 0] dX6_termsOfAll_27 rfl rfl (by decide) rfl ?_
      refine v_goto (tgt := 4) hB dX6_termsOfAll_30 rfl ?_
      exact V.sub [0, 1, 2] rfl (ih4 (v1 + (f_X10_termsOf (rI h v2.toNatClampNeg 3))) (v2 + 1))
  unfold f_X6_termsOfAll
  refine v_iconst hB 0 dX6_termsOfAll_0 (by decide) ?_
  refine v_istore_n hB [(0, .ref ((SC g).1.2.1 56)), (1, .int 0)] [1, 0] dX6_termsOfAll_1 rfl (by decide) rfl ?_
  refine v_iconst hB 0 dX6_termsOfAll_2 (by decide) ?_
  refine v_istore_n hB [(0, .ref ((SC g).1.2.1 56)), (1, .int 0), (2, .int 0)] [1, 2, 0] dX6_termsOfAll_3 rfl (by decide) rfl ?_
  exact V.sub [0, 1, 2] rfl (hn4 1000 0 0)

def f_X6_clearForms_j31 (w4 : Int32 → Int32 → Option Int32) (v1 : Int32) (v2 : Int32) : Option Int32 :=
  w4 v1 (v2 + 1)
def f_X6_clearForms_l4 (h : pq_H) (w4 : Int32 → Int32 → Option Int32) (v1 : Int32) (v2 : Int32) : Option Int32 :=
  if (rI h 56 3) ≤ v2 then (some v1) else (gd (inb v2 6) ((f_X1_howMany v2.toNatClampNeg true h).bind fun r19 => if r19 = 0 then (f_X6_clearForms_j31 w4 (v1 ||| (1 <<< (v2 &&& 31))) v2) else (f_X6_clearForms_j31 w4 v1 v2)))
def f_X6_clearForms (h : pq_H) : Option Int32 :=
  lp (fun _ _ => none) (f_X6_clearForms_l4 h) 1000 0 0
set_option maxRecDepth 100000 in
set_option maxHeartbeats 4000000 in
theorem c_X6_clearForms (g : pq_g) {A : Nat → Prop} (hA : pq_A (SC g) A) (l : Launch) (h : pq_H) {rr : Int32} (e : f_X6_clearForms h = some rr) : pq_M (SC g) A l yX6_clearForms cX6_clearForms 3 (some .int) 4 91 [.ref ((SC g).1.2.1 56)] h (some (.int rr)) h := by
  refine pq_met hA l (own := RX6) 4 91 _ [(0, .ref ((SC g).1.2.1 56))] h _ h (by decide +kernel) rfl (Nat.le_of_ble_eq_true rfl) rfl (fun X hXl hXA hB hK hR => ?_)
  refine V.cast (F' := f_X6_clearForms h) (res' := rr) (fun _ => e) ?_
  have hn4 : ∀ (n : Nat), ∀ (v1 : Int32) (v2 : Int32), V X (SC g) rr 3 4 [(0, .ref ((SC g).1.2.1 56)), (1, .int v1), (2, .int v2)] [] h (lp (fun _ _ => none) (f_X6_clearForms_l4 h) n v1 v2) := by
    refine lp_ind (fun (w4 : Int32 → Int32 → Option Int32) => ∀ (v1 : Int32) (v2 : Int32), V X (SC g) rr 3 4 [(0, .ref ((SC g).1.2.1 56)), (1, .int v1), (2, .int v2)] [] h (w4 v1 v2)) (fun _ _ => V.none _ _ _ _) (fun w4 ih4 => ?_)
    have hn31 : ∀ (v1 : Int32) (v2 : Int32), V X (SC g) rr 3 31 [(0, .ref ((SC g).1.2.1 56)), (1, .int v1), (2, .int v2)] [] h (f_X6_clearForms_j31 w4 v1 v2) := by
      intro v1 v2
      unfold f_X6_clearForms_j31
      refine v_iinc hB (v2 + 1) [(0, .ref ((SC g).1.2.1 56)), (1, .int v1), (2, .int (v2 + 1))] 2 [1, 2, 0] dX6_clearForms_31 rfl rfl (by decide) rfl ?_
      refine v_goto (tgt := 4) hB dX6_clearForms_34 rfl ?_
      exact V.sub [0, 1, 2] rfl (ih4 v1 (v2 + 1))
    intro v1 v2
    unfold f_X6_clearForms_l4
    refine v_iload_n hB 2 dX6_clearForms_4 rfl rfl ?_
    refine v_aload_n hB 0 dX6_clearForms_5 rfl rfl ?_
    refine v_getI hB hK (fl_X6_32 g) (cCI_56_3 g) dX6_clearForms_6 ?_
    refine v_icmp_ge (tgt := 37) hB dX6_clearForms_9 rfl ?_ ?_
    · refine v_iload_n hB 1 dX6_clearForms_37 rfl rfl ?_
      exact v_retRi (x := v1) hB hK hR dX6_clearForms_38
    · refine v_aload_n hB 0 dX6_clearForms_12 rfl rfl ?_
      refine v_getA hB hK (fl_X6_11 g) (cCA_56_0 g) dX6_clearForms_13 ?_
      refine v_iload_n hB 2 dX6_clearForms_16 rfl rfl ?_
      refine v_aa57 hB hK dX6_clearForms_17 (fun q17 => ?_)
      refine v_iconst hB 1 dX6_clearForms_18 (by decide) ?_
      refine v_bRi (fun r19 e19 => v_callV hB hK hR.rm [.int (b2i true)] [] (o_Form g v2.toNatClampNeg (lt6_12 q17)) lb_X1_howMany lv_X6_50 (c_X1_howMany g hK.A X.1.2.1 v2.toNatClampNeg (lt6_12 q17) true h e19) dX6_clearForms_19 rfl rfl (Nat.le_of_ble_eq_true rfl) (by decide) (by decide)) (fun r19 => ?_)
      refine v_if_ne (tgt := 31) hB dX6_clearForms_22 rfl ?_ ?_
      · exact V.sub [0, 1, 2] rfl (hn31 v1 v2)
      · refine v_iload_n hB 1 dX6_clearForms_25 rfl rfl ?_
        refine v_iconst hB 1 dX6_clearForms_26 (by decide) ?_
        refine v_iload_n hB 2 dX6_clearForms_27 rfl rfl ?_
        refine v_ishl hB dX6_clearForms_28 ?_
        refine v_ior hB dX6_clearForms_29 ?_
        refine v_istore_n hB [(0, .ref ((SC g).1.2.1 56)), (1, .int (v1 ||| (1 <<< (v2 &&& 31)))), (2, .int v2)] [1, 0, 2] dX6_clearForms_30 rfl (by decide) rfl ?_
        exact V.sub [0, 1, 2] rfl (hn31 (v1 ||| (1 <<< (v2 &&& 31))) v2)
  unfold f_X6_clearForms
  refine v_iconst hB 0 dX6_clearForms_0 (by decide) ?_
  refine v_istore_n hB [(0, .ref ((SC g).1.2.1 56)), (1, .int 0)] [1, 0] dX6_clearForms_1 rfl (by decide) rfl ?_
  refine v_iconst hB 0 dX6_clearForms_2 (by decide) ?_
  refine v_istore_n hB [(0, .ref ((SC g).1.2.1 56)), (1, .int 0), (2, .int 0)] [1, 2, 0] dX6_clearForms_3 rfl (by decide) rfl ?_
  exact V.sub [0, 1, 2] rfl (hn4 1000 0 0)

def f_X6_isSmall_l2 (p0 : Nat) (h : pq_H) (w2 : Int32 → Option Bool) (v1 : Int32) : Option Bool :=
  if (f_X10_termsOf (rI h p0 3)) ≤ v1 then (some true) else ((f_X1_at p0 v1 h).bind fun r15 => if (if 0 ≤ r15 then r15 else 0 - r15) ≤ 99 then (w2 (v1 + 1)) else (some false))
def f_X6_isSmall (p0 : Nat) (h : pq_H) : Option Bool :=
  lp (fun _ => none) (f_X6_isSmall_l2 p0 h) 1000 0
set_option maxRecDepth 100000 in
set_option maxHeartbeats 4000000 in
theorem c_X6_isSmall (g : pq_g) {A : Nat → Prop} (hA : pq_A (SC g) A) (l : Launch) (p0 : Nat) (hp0 : p0 < 12) (h : pq_H) {rr : Bool} (e : f_X6_isSmall p0 h = some rr) : pq_M (SC g) A l yX6_isSmall cX6_isSmall 2 (some .boolean) 3 67 [.ref ((SC g).1.2.1 p0)] h (some (.int (b2i rr))) h := by
  refine pq_met hA l (own := RX6) 3 67 _ [(0, .ref ((SC g).1.2.1 p0))] h _ h (by decide +kernel) rfl (Nat.le_of_ble_eq_true rfl) rfl (fun X hXl hXA hB hK hR => ?_)
  refine V.cast (F' := f_X6_isSmall p0 h) (res' := rr) (fun _ => e) ?_
  have hn2 : ∀ (n : Nat), ∀ (v1 : Int32), V X (SC g) rr 2 2 [(0, .ref ((SC g).1.2.1 p0)), (1, .int v1)] [] h (lp (fun _ => none) (f_X6_isSmall_l2 p0 h) n v1) := by
    refine lp_ind (fun (w2 : Int32 → Option Bool) => ∀ (v1 : Int32), V X (SC g) rr 2 2 [(0, .ref ((SC g).1.2.1 p0)), (1, .int v1)] [] h (w2 v1)) (fun _ => V.none _ _ _ _) (fun w2 ih2 => ?_)
    intro v1
    unfold f_X6_isSmall_l2
    refine v_iload_n hB 1 dX6_isSmall_2 rfl rfl ?_
    refine v_aload_n hB 0 dX6_isSmall_3 rfl rfl ?_
    refine v_getI hB hK (fl_X6_43 g) (cI_Form_3 g p0 hp0) dX6_isSmall_4 ?_
    refine v_bT (v_callSN hB hK hR.rm [.int (rI h p0 3)] [.int v1] lb_X10_termsOf (nk_X6_46 g) lv_X6_46 (c_X10_termsOf g hK.A X.1.2.1 (rI h p0 3) h) dX6_isSmall_7 rfl rfl (Nat.le_of_ble_eq_true rfl) (by decide) (by decide)) ?_
    refine v_icmp_ge (tgt := 34) hB dX6_isSmall_10 rfl ?_ ?_
    · refine v_iconst hB 1 dX6_isSmall_34 (by decide) ?_
      exact v_retRz (x := true) hB hK hR dX6_isSmall_35
    · refine v_aload_n hB 0 dX6_isSmall_13 rfl rfl ?_
      refine v_iload_n hB 1 dX6_isSmall_14 rfl rfl ?_
      refine v_bRi (fun r15 e15 => v_callV hB hK hR.rm [.int v1] [] (o_Form g p0 hp0) lb_X1_at lv_X6_63 (c_X1_at g hK.A X.1.2.1 p0 hp0 v1 h e15) dX6_isSmall_15 rfl rfl (Nat.le_of_ble_eq_true rfl) (by decide) (by decide)) (fun r15 => ?_)
      refine v_mabs hB hR.rm lk_X6_66 (by decide) (Nat.le_of_ble_eq_true rfl) dX6_isSmall_18 ?_
      refine v_bipush hB 99 dX6_isSmall_21 (by decide) ?_
      refine v_icmp_le (tgt := 28) hB dX6_isSmall_23 rfl ?_ ?_
      · refine v_iinc hB (v1 + 1) [(0, .ref ((SC g).1.2.1 p0)), (1, .int (v1 + 1))] 1 [1, 0] dX6_isSmall_28 rfl rfl (by decide) rfl ?_
        refine v_goto (tgt := 2) hB dX6_isSmall_31 rfl ?_
        exact V.sub [0, 1] rfl (ih2 (v1 + 1))
      · refine v_iconst hB 0 dX6_isSmall_26 (by decide) ?_
        exact v_retRz (x := false) hB hK hR dX6_isSmall_27
  unfold f_X6_isSmall
  refine v_iconst hB 0 dX6_isSmall_0 (by decide) ?_
  refine v_istore_n hB [(0, .ref ((SC g).1.2.1 p0)), (1, .int 0)] [1, 0] dX6_isSmall_1 rfl (by decide) rfl ?_
  exact V.sub [0, 1] rfl (hn2 1000 0)

def f_X6_canMake_j79 (w20 : Int32 → Option Bool) (v3 : Int32) : Option Bool :=
  w20 (v3 + 1)
def f_X6_canMake_j44 (p1 : Int32) (h : pq_H) (w20 : Int32 → Option Bool) (v3 : Int32) : Option Bool :=
  gd (inb v3 6) (gd (inb p1 6) (if (rI h v3.toNatClampNeg 3) = (rI h p1.toNatClampNeg 3) then (gd (inb v3 6) ((f_X6_isSmall v3.toNatClampNeg h).bind fun r71 => if r71 = true then (f_X6_canMake_j79 w20 v3) else (some false))) else (some false)))
def f_X6_canMake_l20 (p1 : Int32) (p2 : Int32) (h : pq_H) (w20 : Int32 → Option Bool) (v3 : Int32) : Option Bool :=
  if (rI h 56 3) ≤ v3 then (some true) else (if v3 = p1 then (f_X6_canMake_j44 p1 h w20 v3) else (if ((p2 >>> (v3 &&& 31)) &&& 1) = 0 then (f_X6_canMake_j79 w20 v3) else (f_X6_canMake_j44 p1 h w20 v3)))
def f_X6_canMake (p1 : Int32) (p2 : Int32) (h : pq_H) : Option Bool :=
  if 3 < (f_J6_bitCount_0f7a4 p2) then (some false) else (if ((p2 >>> (p1 &&& 31)) &&& 1) = 0 then (lp (fun _ => none) (f_X6_canMake_l20 p1 p2 h) 1000 0) else (some false))
set_option maxRecDepth 100000 in
set_option maxHeartbeats 4000000 in
theorem c_X6_canMake (g : pq_g) {A : Nat → Prop} (hA : pq_A (SC g) A) (l : Launch) (p1 : Int32) (p2 : Int32) (h : pq_H) {rr : Bool} (e : f_X6_canMake p1 p2 h = some rr) : pq_M (SC g) A l yX6_canMake cX6_canMake 4 (some .boolean) 4 88 [.ref ((SC g).1.2.1 56), .int p1, .int p2] h (some (.int (b2i rr))) h := by
  refine pq_met hA l (own := RX6) 4 88 _ [(0, .ref ((SC g).1.2.1 56)), (1, .int p1), (2, .int p2)] h _ h (by decide +kernel) rfl (Nat.le_of_ble_eq_true rfl) rfl (fun X hXl hXA hB hK hR => ?_)
  refine V.cast (F' := f_X6_canMake p1 p2 h) (res' := rr) (fun _ => e) ?_
  have hn20 : ∀ (n : Nat), ∀ (v3 : Int32), V X (SC g) rr 4 20 [(0, .ref ((SC g).1.2.1 56)), (1, .int p1), (2, .int p2), (3, .int v3)] [] h (lp (fun _ => none) (f_X6_canMake_l20 p1 p2 h) n v3) := by
    refine lp_ind (fun (w20 : Int32 → Option Bool) => ∀ (v3 : Int32), V X (SC g) rr 4 20 [(0, .ref ((SC g).1.2.1 56)), (1, .int p1), (2, .int p2), (3, .int v3)] [] h (w20 v3)) (fun _ => V.none _ _ _ _) (fun w20 ih20 => ?_)
    have hn79 : ∀ (v3 : Int32), V X (SC g) rr 4 79 [(0, .ref ((SC g).1.2.1 56)), (1, .int p1), (2, .int p2), (3, .int v3)] [] h (f_X6_canMake_j79 w20 v3) := by
      intro v3
      unfold f_X6_canMake_j79
      refine v_iinc hB (v3 + 1) [(0, .ref ((SC g).1.2.1 56)), (1, .int p1), (2, .int p2), (3, .int (v3 + 1))] 3 [1, 2, 3, 0] dX6_canMake_79 rfl rfl (by decide) rfl ?_
      refine v_goto (tgt := 20) hB dX6_canMake_82 rfl ?_
      exact V.sub [0, 1, 2, 3] rfl (ih20 (v3 + 1))
    have hn44 : ∀ (v3 : Int32), V X (SC g) rr 4 44 [(0, .ref ((SC g).1.2.1 56)), (1, .int p1), (2, .int p2), (3, .int v3)] [] h (f_X6_canMake_j44 p1 h w20 v3) := by
      intro v3
      unfold f_X6_canMake_j44
      refine v_aload_n hB 0 dX6_canMake_44 rfl rfl ?_
      refine v_getA hB hK (fl_X6_11 g) (cCA_56_0 g) dX6_canMake_45 ?_
      refine v_iload_n hB 3 dX6_canMake_48 rfl rfl ?_
      refine v_aa57 hB hK dX6_canMake_49 (fun q49 => ?_)
      refine v_getI hB hK (fl_X6_43 g) (cI_Form_3 g v3.toNatClampNeg (lt6_12 q49)) dX6_canMake_50 ?_
      refine v_aload_n hB 0 dX6_canMake_53 rfl rfl ?_
      refine v_getA hB hK (fl_X6_11 g) (cCA_56_0 g) dX6_canMake_54 ?_
      refine v_iload_n hB 1 dX6_canMake_57 rfl rfl ?_
      refine v_aa57 hB hK dX6_canMake_58 (fun q58 => ?_)
      refine v_getI hB hK (fl_X6_43 g) (cI_Form_3 g p1.toNatClampNeg (lt6_12 q58)) dX6_canMake_59 ?_
      refine v_icmp_ne (tgt := 77) hB dX6_canMake_62 rfl ?_ ?_
      · refine v_iconst hB 0 dX6_canMake_77 (by decide) ?_
        exact v_retRz (x := false) hB hK hR dX6_canMake_78
      · refine v_aload_n hB 0 dX6_canMake_65 rfl rfl ?_
        refine v_getA hB hK (fl_X6_11 g) (cCA_56_0 g) dX6_canMake_66 ?_
        refine v_iload_n hB 3 dX6_canMake_69 rfl rfl ?_
        refine v_aa57 hB hK dX6_canMake_70 (fun q70 => ?_)
        refine v_bRz (fun r71 e71 => v_callS hB hK hR.rm [.ref ((SC g).1.2.1 v3.toNatClampNeg)] [] lb_X6_isSmall lv_X6_59 (c_X6_isSmall g hK.A X.1.2.1 v3.toNatClampNeg (lt6_12 q70) h e71) dX6_canMake_71 rfl rfl (Nat.le_of_ble_eq_true rfl) (by decide) (by decide)) (fun r71 => ?_)
        refine v_ifz_ne (r := r71) (tgt := 79) hB dX6_canMake_74 rfl ?_ ?_
        · exact V.sub [0, 1, 2, 3] rfl (hn79 v3)
        · refine v_iconst hB 0 dX6_canMake_77 (by decide) ?_
          exact v_retRz (x := false) hB hK hR dX6_canMake_78
    intro v3
    unfold f_X6_canMake_l20
    refine v_iload_n hB 3 dX6_canMake_20 rfl rfl ?_
    refine v_aload_n hB 0 dX6_canMake_21 rfl rfl ?_
    refine v_getI hB hK (fl_X6_32 g) (cCI_56_3 g) dX6_canMake_22 ?_
    refine v_icmp_ge (tgt := 85) hB dX6_canMake_25 rfl ?_ ?_
    · refine v_iconst hB 1 dX6_canMake_85 (by decide) ?_
      exact v_retRz (x := true) hB hK hR dX6_canMake_86
    · refine v_iload_n hB 3 dX6_canMake_28 rfl rfl ?_
      refine v_iload_n hB 1 dX6_canMake_29 rfl rfl ?_
      refine v_icmp_eq (tgt := 44) hB dX6_canMake_30 rfl ?_ ?_
      · exact V.sub [0, 1, 2, 3] rfl (hn44 v3)
      · refine v_iload_n hB 2 dX6_canMake_33 rfl rfl ?_
        refine v_iload_n hB 3 dX6_canMake_34 rfl rfl ?_
        refine v_ishr hB dX6_canMake_35 ?_
        refine v_iconst hB 1 dX6_canMake_36 (by decide) ?_
        refine v_iand hB dX6_canMake_37 ?_
        refine v_if_ne (tgt := 44) hB dX6_canMake_38 rfl ?_ ?_
        · exact V.sub [0, 1, 2, 3] rfl (hn44 v3)
        · refine v_goto (tgt := 79) hB dX6_canMake_41 rfl ?_
          exact V.sub [0, 1, 2, 3] rfl (hn79 v3)
  unfold f_X6_canMake
  refine v_iload_n hB 2 dX6_canMake_0 rfl rfl ?_
  refine v_bT (v_callS hB hK hR.rm [.int p2] [] lb_J6_bitCount_0f7a4 lv_X6_54 (c_J6_bitCount_0f7a4 g hK.A X.1.2.1 p2 h) dX6_canMake_1 rfl rfl (Nat.le_of_ble_eq_true rfl) (by decide) (by decide)) ?_
  refine v_iconst hB 3 dX6_canMake_4 (by decide) ?_
  refine v_icmp_gt (tgt := 16) hB dX6_canMake_5 rfl ?_ ?_
  · refine v_iconst hB 0 dX6_canMake_16 (by decide) ?_
    exact v_retRz (x := false) hB hK hR dX6_canMake_17
  · refine v_iload_n hB 2 dX6_canMake_8 rfl rfl ?_
    refine v_iload_n hB 1 dX6_canMake_9 rfl rfl ?_
    refine v_ishr hB dX6_canMake_10 ?_
    refine v_iconst hB 1 dX6_canMake_11 (by decide) ?_
    refine v_iand hB dX6_canMake_12 ?_
    refine v_if_eq (tgt := 18) hB dX6_canMake_13 rfl ?_ ?_
    · refine v_iconst hB 0 dX6_canMake_18 (by decide) ?_
      refine v_istore_n hB [(0, .ref ((SC g).1.2.1 56)), (1, .int p1), (2, .int p2), (3, .int 0)] [1, 2, 3, 0] dX6_canMake_19 rfl (by decide) rfl ?_
      exact V.sub [0, 1, 2, 3] rfl (hn20 1000 0)
    · refine v_iconst hB 0 dX6_canMake_16 (by decide) ?_
      exact v_retRz (x := false) hB hK hR dX6_canMake_17

def f_X10_standsOn_j20 (p0 : Int32) (p3 : Int32) : Bool :=
  if p3 = 0 then (true) else (if (p0 &&& 4) = 0 then (false) else (true))
def f_X10_standsOn_j10 (p0 : Int32) (p2 : Int32) (p3 : Int32) : Bool :=
  if p2 = 0 then (f_X10_standsOn_j20 p0 p3) else (if (p0 &&& 2) = 0 then (false) else (f_X10_standsOn_j20 p0 p3))
def f_X10_standsOn (p0 : Int32) (p1 : Int32) (p2 : Int32) (p3 : Int32) : Bool :=
  if p1 = 0 then (f_X10_standsOn_j10 p0 p2 p3) else (if (p0 &&& 1) = 0 then (false) else (f_X10_standsOn_j10 p0 p2 p3))
set_option maxRecDepth 100000 in
set_option maxHeartbeats 4000000 in
theorem c_X10_standsOn (g : pq_g) {A : Nat → Prop} (hA : pq_A (SC g) A) (l : Launch) (p0 : Int32) (p1 : Int32) (p2 : Int32) (p3 : Int32) (h : pq_H) : pq_M (SC g) A l yX10_standsOn cX10_standsOn 4 (some .boolean) 0 0 [.int p0, .int p1, .int p2, .int p3] h (some (.int (b2i (f_X10_standsOn p0 p1 p2 p3)))) h := by
  refine pq_met hA l (own := RX10) 0 0 _ [(0, .int p0), (1, .int p1), (2, .int p2), (3, .int p3)] h _ h (by decide +kernel) rfl (Nat.le_of_ble_eq_true rfl) rfl (fun X hXl hXA hB hK hR => ?_)
  refine V.cast (F' := some (f_X10_standsOn p0 p1 p2 p3)) (res' := (f_X10_standsOn p0 p1 p2 p3)) (fun _ => rfl) ?_
  have hn20 : V X (SC g) (f_X10_standsOn p0 p1 p2 p3) 4 20 [(0, .int p0), (3, .int p3)] [] h (some (f_X10_standsOn_j20 p0 p3)) := by
    unfold f_X10_standsOn_j20
    refine v_iload_n hB 1 dX10_standsOn_20 rfl rfl ?_
    refine v_if_eqT (tgt := 30) hB dX10_standsOn_21 rfl ?_ ?_
    · refine v_iconst hB 1 dX10_standsOn_30 (by decide) ?_
      refine v_goto (tgt := 35) hB dX10_standsOn_31 rfl ?_
      exact v_retRz (x := true) hB hK hR dX10_standsOn_35
    · refine v_iload_n hB 0 dX10_standsOn_24 rfl rfl ?_
      refine v_iconst hB 4 dX10_standsOn_25 (by decide) ?_
      refine v_iand hB dX10_standsOn_26 ?_
      refine v_if_eqT (tgt := 34) hB dX10_standsOn_27 rfl ?_ ?_
      · refine v_iconst hB 0 dX10_standsOn_34 (by decide) ?_
        exact v_retRz (x := false) hB hK hR dX10_standsOn_35
      · refine v_iconst hB 1 dX10_standsOn_30 (by decide) ?_
        refine v_goto (tgt := 35) hB dX10_standsOn_31 rfl ?_
        exact v_retRz (x := true) hB hK hR dX10_standsOn_35
  have hn10 : V X (SC g) (f_X10_standsOn p0 p1 p2 p3) 4 10 [(0, .int p0), (2, .int p2), (3, .int p3)] [] h (some (f_X10_standsOn_j10 p0 p2 p3)) := by
    unfold f_X10_standsOn_j10
    refine v_iload_n hB 1 dX10_standsOn_10 rfl rfl ?_
    refine v_if_eqT (tgt := 20) hB dX10_standsOn_11 rfl ?_ ?_
    · exact V.sub [0, 2] rfl (hn20)
    · refine v_iload_n hB 0 dX10_standsOn_14 rfl rfl ?_
      refine v_iconst hB 2 dX10_standsOn_15 (by decide) ?_
      refine v_iand hB dX10_standsOn_16 ?_
      refine v_if_eqT (tgt := 34) hB dX10_standsOn_17 rfl ?_ ?_
      · refine v_iconst hB 0 dX10_standsOn_34 (by decide) ?_
        exact v_retRz (x := false) hB hK hR dX10_standsOn_35
      · exact V.sub [0, 2] rfl (hn20)
  unfold f_X10_standsOn
  refine v_iload_n hB 1 dX10_standsOn_0 rfl rfl ?_
  refine v_if_eqT (tgt := 10) hB dX10_standsOn_1 rfl ?_ ?_
  · exact V.sub [0, 2, 3] rfl (hn10)
  · refine v_iload_n hB 0 dX10_standsOn_4 rfl rfl ?_
    refine v_iconst hB 1 dX10_standsOn_5 (by decide) ?_
    refine v_iand hB dX10_standsOn_6 ?_
    refine v_if_eqT (tgt := 34) hB dX10_standsOn_7 rfl ?_ ?_
    · refine v_iconst hB 0 dX10_standsOn_34 (by decide) ?_
      exact v_retRz (x := false) hB hK hR dX10_standsOn_35
    · exact V.sub [0, 2, 3] rfl (hn10)

