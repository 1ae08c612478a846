def f_X6_clearForms_j31 (w4 : Int32 → Int32 → Option Int32) (v1 : Int32) (v2 : Int32) : Option Int32 :=
  w4 v1 (v2 + 1)
def f_X6_clearForms_l4 (h : pq_H) (w4 : Int32 → Int32 → Option Int32) (v1 : Int32) (v2 : Int32) : Option Int32 :=
  if (rI h 56 3) ≤ v2 then (some v1) else (gd (inb v2 6) ((f_X1_howMany v2.toNatClampNeg true h).bind fun r19 => if r19 = 0 then (f_X6_clearForms_j31 w4 (v1 ||| (1 <<< (v2 &&& 31))) v2) else (f_X6_clearForms_j31 w4 v1 v2)))
def f_X6_clearForms (h : pq_H) : Option Int32 :=
  lp (fun _ _ => none) (f_X6_clearForms_l4 h) 1000 0 0
set_option maxRecDepth 100000 in
set_option maxHeartbeats 4000000 in
theorem c_X6_clearForms (g : pq_g) {A : Nat → Prop} (hA : pq_A (SC g) A) (l : Launch) (h : pq_H) {rr : Int32} (e : f_X6_clearForms h = some rr) : pq_M (SC g) A l yX6_clearForms cX6_clearForms 3 (some .int) 4 91 [.ref ((SC g).1.2.1 56)] h (some (.int rr)) h := by
  refine pq_met hA l (own := RX6) 4 91 _ [(0, .ref ((SC g).1.2.1 56))] h _ h (by decide +kernel) rfl (Nat.le_of_ble_eq_true rfl) rfl (fun X hXl hXA hB hK hR => ?_)
  refine V.cast (F' := f_X6_clearForms h) (res' := rr) (fun _ => e) ?_
  have hn4 : ∀ (n : Nat), ∀ (v1 : Int32) (v2 : Int32), V X (SC g) rr 3 4 [(0, .ref ((SC g).1.2.1 56)), (1, .int v1), (2, .int v2)] [] h (lp (fun _ _ => none) (f_X6_clearForms_l4 h) n v1 v2) := by
    refine lp_ind (fun (w4 : Int32 → Int32 → Option Int32) => ∀ (v1 : Int32) (v2 : Int32), V X (SC g) rr 3 4 [(0, .ref ((SC g).1.2.1 56)), (1, .int v1), (2, .int v2)] [] h (w4 v1 v2)) (fun _ _ => V.none _ _ _ _) (fun w4 ih4 => ?_)
    have hn31 : ∀ (v1 : Int32) (v2 : Int32), V X (SC g) rr 3 31 [(0, .ref ((SC g).1.2.1 56)), (1, .int v1), (2, .int v2)] [] h (f_X6_clearForms_j31 w4 v1 v2) := by
      intro v1 v2
      unfold f_X6_clearForms_j31
      refine v_iinc hB (v2 + 1) [(0, .ref ((SC g).1.2.1 56)), (1, .int v1), (2, .int (v2 + 1))] 2 [1, 2, 0] dX6_clearForms_31 rfl rfl (by decide) rfl ?_
      refine v_goto (tgt := 4) hB dX6_clearForms_34 rfl ?_
      exact V.sub [0, 1, 2] rfl (ih4 v1 (v2 + 1))
    intro v1 v2
    unfold f_X6_clearForms_l4
    refine v_iload_n hB 2 dX6_clearForms_4 rfl rfl ?_
    refine v_aload_n hB 0 dX6_clearForms_5 rfl rfl ?_
    refine v_getI hB hK (fl_X6_32 g) (cCI_56_3 g) dX6_clearForms_6 ?_
    refine v_icmp_ge (tgt := 37) hB dX6_clearForms_9 rfl ?_ ?_
    · refine v_iload_n hB 1 dX6_clearForms_37 rfl rfl ?_
      exact v_retRi (x := v1) hB hK hR dX6_clearForms_38
    · refine v_aload_n hB 0 dX6_clearForms_12 rfl rfl ?_
      refine v_getA hB hK (fl_X6_11 g) (cCA_56_0 g) dX6_clearForms_13 ?_
      refine v_iload_n hB 2 dX6_clearForms_16 rfl rfl ?_
      refine v_aa57 hB hK dX6_clearForms_17 (fun q17 => ?_)
      refine v_iconst hB 1 dX6_clearForms_18 (by decide) ?_
      refine v_bRi (fun r19 e19 => v_callV hB hK hR.rm [.int (b2i true)] [] (o_Form g v2.toNatClampNeg (lt6_12 q17)) lb_X1_howMany lv_X6_50 (c_X1_howMany g hK.A X.1.2.1 v2.toNatClampNeg (lt6_12 q17) true h e19) dX6_clearForms_19 rfl rfl (Nat.le_of_ble_eq_true rfl) (by decide) (by decide)) (fun r19 => ?_)
      refine v_if_ne (tgt := 31) hB dX6_clearForms_22 rfl ?_ ?_
      · exact V.sub [0, 1, 2] rfl (hn31 v1 v2)
      · refine v_iload_n hB 1 dX6_clearForms_25 rfl rfl ?_
        refine v_iconst hB 1 dX6_clearForms_26 (by decide) ?_
        refine v_iload_n hB 2 dX6_clearForms_27 rfl rfl ?_
        refine v_ishl hB dX6_clearForms_28 ?_
        refine v_ior hB dX6_clearForms_29 ?_
        refine v_istore_n hB [(0, .ref ((SC g).1.2.1 56)), (1, .int (v1 ||| (1 <<< (v2 &&& 31)))), (2, .int v2)] [1, 0, 2] dX6_clearForms_30 rfl (by decide) rfl ?_
        exact V.sub [0, 1, 2] rfl (hn31 (v1 ||| (1 <<< (v2 &&& 31))) v2)
  unfold f_X6_clearForms
  refine v_iconst hB 0 dX6_clearForms_0 (by decide) ?_
  refine v_istore_n hB [(0, .ref ((SC g).1.2.1 56)), (1, .int 0)] [1, 0] dX6_clearForms_1 rfl (by decide) rfl ?_
  refine v_iconst hB 0 dX6_clearForms_2 (by decide) ?_
  refine v_istore_n hB [(0, .ref ((SC g).1.2.1 56)), (1, .int 0), (2, .int 0)] [1, 2, 0] dX6_clearForms_3 rfl (by decide) rfl ?_
  exact V.sub [0, 1, 2] rfl (hn4 1000 0 0)

def f_X10_standsOn_j20 (p0 : Int32) (p3 : Int32) : Bool :=
  if p3 = 0 then (true) else (if (p0 &&& 4) = 0 then (false) else (true))
def f_X10_standsOn_j10 (p0 : Int32) (p2 : Int32) (p3 : Int32) : Bool :=
  if p2 = 0 then (f_X10_standsOn_j20 p0 p3) else (if (p0 &&& 2) = 0 then (false) else (f_X10_standsOn_j20 p0 p3))
def f_X10_standsOn (p0 : Int32) (p1 : Int32) (p2 : Int32) (p3 : Int32) : Bool :=
  if p1 = 0 then (f_X10_standsOn_j10 p0 p2 p3) else (if (p0 &&& 1) = 0 then (false) else (f_X10_standsOn_j10 p0 p2 p3))
set_option maxRecDepth 100000 in
set_option maxHeartbeats 4000000 in
theorem c_X10_standsOn (g : pq_g) {A : Nat → Prop} (hA : pq_A (SC g) A) (l : Launch) (p0 : Int32) (p1 : Int32) (p2 : Int32) (p3 : Int32) (h : pq_H) : pq_M (SC g) A l yX10_standsOn cX10_standsOn 4 (some .boolean) 0 0 [.int p0, .int p1, .int p2, .int p3] h (some (.int (b2i (f_X10_standsOn p0 p1 p2 p3)))) h := by
  refine pq_met hA l (own := RX10) 0 0 _ [(0, .int p0), (1, .int p1), (2, .int p2), (3, .int p3)] h _ h (by decide +kernel) rfl (Nat.le_of_ble_eq_true rfl) rfl (fun X hXl hXA hB hK hR => ?_)
  refine V.cast (F' := some (f_X10_standsOn p0 p1 p2 p3)) (res' := (f_X10_standsOn p0 p1 p2 p3)) (fun _ => rfl) ?_
  have hn20 : V X (SC g) (f_X10_standsOn p0 p1 p2 p3) 4 20 [(0, .int p0), (3, .int p3)] [] h (some (f_X10_standsOn_j20 p0 p3)) := by
    unfold f_X10_standsOn_j20
    refine v_iload_n hB 1 dX10_standsOn_20 rfl rfl ?_
    refine v_if_eqT (tgt := 30) hB dX10_standsOn_21 rfl ?_ ?_
    · refine v_iconst hB 1 dX10_standsOn_30 (by decide) ?_
      refine v_goto (tgt := 35) hB dX10_standsOn_31 rfl ?_
      exact v_retRz (x := true) hB hK hR dX10_standsOn_35
    · refine v_iload_n hB 0 dX10_standsOn_24 rfl rfl ?_
      refine v_iconst hB 4 dX10_standsOn_25 (by decide) ?_
      refine v_iand hB dX10_standsOn_26 ?_
      refine v_if_eqT (tgt := 34) hB dX10_standsOn_27 rfl ?_ ?_
      · refine v_iconst hB 0 dX10_standsOn_34 (by decide) ?_
        exact v_retRz (x := false) hB hK hR dX10_standsOn_35
      · refine v_iconst hB 1 dX10_standsOn_30 (by decide) ?_
        refine v_goto (tgt := 35) hB dX10_standsOn_31 rfl ?_
        exact v_retRz (x := true) hB hK hR dX10_standsOn_35
  have hn10 : V X (SC g) (f_X10_standsOn p0 p1 p2 p3) 4 10 [(0, .int p0), (2, .int p2), (3, .int p3)] [] h (some (f_X10_standsOn_j10 p0 p2 p3)) := by
    unfold f_X10_standsOn_j10
    refine v_iload_n hB 1 dX10_standsOn_10 rfl rfl ?_
    refine v_if_eqT (tgt := 20) hB dX10_standsOn_11 rfl ?_ ?_
    · exact V.sub [0, 2] rfl (hn20)
    · refine v_iload_n hB 0 dX10_standsOn_14 rfl rfl ?_
      refine v_iconst hB 2 dX10_standsOn_15 (by decide) ?_
      refine v_iand hB dX10_standsOn_16 ?_
      refine v_if_eqT (tgt := 34) hB dX10_standsOn_17 rfl ?_ ?_
      · refine v_iconst hB 0 dX10_standsOn_34 (by decide) ?_
        exact v_retRz (x := false) hB hK hR dX10_standsOn_35
      · exact V.sub [0, 2] rfl (hn20)
  unfold f_X10_standsOn
  refine v_iload_n hB 1 dX10_standsOn_0 rfl rfl ?_
  refine v_if_eqT (tgt := 10) hB dX10_standsOn_1 rfl ?_ ?_
  · exact V.sub [0, 2, 3] rfl (hn10)
  · refine v_iload_n hB 0 dX10_standsOn_4 rfl rfl ?_
    refine v_iconst hB 1 dX10_standsOn_5 (by decide) ?_
    refine v_iand hB dX10_standsOn_6 ?_
    refine v_if_eqT (tgt := 34) hB dX10_standsOn_7 rfl ?_ ?_
    · refine v_iconst hB 0 dX10_standsOn_34 (by decide) ?_
      exact v_retRz (x := false) hB hK hR dX10_standsOn_35
    · exact V.sub [0, 2, 3] rfl (hn10)

def f_X9_takeOn_j87 (w10 : Int32 → pq_H → Option pq_H) (v3 : Int32) (h : pq_H) : Option pq_H :=
  w10 (v3 + 1) h
def f_X9_takeOn_j80 (w10 : Int32 → pq_H → Option pq_H) (w21 : Int32 → pq_H → Option pq_H) (v4 : Int32) (s1 : Int32) (s2 : Int64) (h : pq_H) : Option pq_H :=
  gd (inb s1 190) (w21 (v4 + 1) (wJ h 60 s1.toNatClampNeg s2))
def f_X9_takeOn_l21 (p1 : Nat) (p2 : Int32) (w10 : Int32 → pq_H → Option pq_H) (v3 : Int32) (w21 : Int32 → pq_H → Option pq_H) (v4 : Int32) (h : pq_H) : Option pq_H :=
  if v3 < v4 then (f_X9_takeOn_j87 w10 v3 h) else (if (f_X10_standsOn p2 ((rI h 59 1) - v3) (v3 - v4) v4) = true then ((f_X1_has p1 ((rI h 59 1) - v3) (v3 - v4) v4 h).bind fun r72 => f_X9_takeOn_j80 w10 w21 v4 (f_X10_termOf (v3 - v4) v4) r72.toInt64 h) else (f_X9_takeOn_j80 w10 w21 v4 (f_X10_termOf (v3 - v4) v4) 0 h))
def f_X9_takeOn_l10 (p1 : Nat) (p2 : Int32) (w10 : Int32 → pq_H → Option pq_H) (v3 : Int32) (h : pq_H) : Option pq_H :=
  if (rI h 59 1) < v3 then (some h) else (lp (fun _ _ => none) (f_X9_takeOn_l21 p1 p2 w10 v3) 1000 0 h)
def f_X9_takeOn (p1 : Nat) (p2 : Int32) (h : pq_H) : Option pq_H :=
  hl (wI h 59 1 (rI h p1 3)) fun h5 => lp (fun _ _ => none) (f_X9_takeOn_l10 p1 p2) 1000 0 h5
set_option maxRecDepth 100000 in
set_option maxHeartbeats 4000000 in
theorem c_X9_takeOn (g : pq_g) {A : Nat → Prop} (hA : pq_A (SC g) A) (l : Launch) (p1 : Nat) (hp1 : p1 < 12) (p2 : Int32) (h : pq_H) {hh : pq_H} (e : f_X9_takeOn p1 p2 h = some hh) : pq_M (SC g) A l yX9_takeOn cX9_takeOn 7 none 2 44 [.ref ((SC g).1.2.1 59), .ref ((SC g).1.2.1 p1), .int p2] h none hh := by
  refine pq_met hA l (own := RX9) 2 44 _ [(0, .ref ((SC g).1.2.1 59)), (1, .ref ((SC g).1.2.1 p1)), (2, .int p2)] h _ hh (by decide +kernel) rfl (Nat.le_of_ble_eq_true rfl) rfl (fun X hXl hXA hB hK hR => ?_)
  refine V.cast (F' := f_X9_takeOn p1 p2 h) (res' := hh) (fun _ => e) ?_
  have hn10 : ∀ (n : Nat), ∀ (v3 : Int32) (h : pq_H), V X (SC g) hh 7 10 [(0, .ref ((SC g).1.2.1 59)), (1, .ref ((SC g).1.2.1 p1)), (2, .int p2), (3, .int v3)] [] h (lp (fun _ _ => none) (f_X9_takeOn_l10 p1 p2) n v3 h) := by
    refine lp_ind (fun (w10 : Int32 → pq_H → Option pq_H) => ∀ (v3 : Int32) (h : pq_H), V X (SC g) hh 7 10 [(0, .ref ((SC g).1.2.1 59)), (1, .ref ((SC g).1.2.1 p1)), (2, .int p2), (3, .int v3)] [] h (w10 v3 h)) (fun _ _ => V.none _ _ _ _) (fun w10 ih10 => ?_)
    have hn87 : ∀ (v3 : Int32) (h : pq_H), V X (SC g) hh 7 87 [(0, .ref ((SC g).1.2.1 59)), (1, .ref ((SC g).1.2.1 p1)), (2, .int p2), (3, .int v3)] [] h (f_X9_takeOn_j87 w10 v3 h) := by
      intro v3 h
      unfold f_X9_takeOn_j87
      refine v_iinc hB (v3 + 1) [(0, .ref ((SC g).1.2.1 59)), (1, .ref ((SC g).1.2.1 p1)), (2, .int p2), (3, .int (v3 + 1))] 3 [1, 2, 3, 0] dX9_takeOn_87 rfl rfl (by decide) rfl ?_
      refine v_goto (tgt := 10) hB dX9_takeOn_90 rfl ?_
      exact V.sub [0, 1, 2, 3] rfl (ih10 (v3 + 1) h)
    have hn21 : ∀ (v3 : Int32) (n : Nat), ∀ (v4 : Int32) (h : pq_H), V X (SC g) hh 7 21 [(0, .ref ((SC g).1.2.1 59)), (1, .ref ((SC g).1.2.1 p1)), (2, .int p2), (3, .int v3), (4, .int v4)] [] h (lp (fun _ _ => none) (f_X9_takeOn_l21 p1 p2 w10 v3) n v4 h) := by
      intro v3
      refine lp_ind (fun (w21 : Int32 → pq_H → Option pq_H) => ∀ (v4 : Int32) (h : pq_H), V X (SC g) hh 7 21 [(0, .ref ((SC g).1.2.1 59)), (1, .ref ((SC g).1.2.1 p1)), (2, .int p2), (3, .int v3), (4, .int v4)] [] h (w21 v4 h)) (fun _ _ => V.none _ _ _ _) (fun w21 ih21 => ?_)
      have hn80 : ∀ (v4 : Int32) (s1 : Int32) (s2 : Int64) (h : pq_H), V X (SC g) hh 7 80 [(0, .ref ((SC g).1.2.1 59)), (1, .ref ((SC g).1.2.1 p1)), (2, .int p2), (3, .int v3), (4, .int v4)] [.long s2, .int s1, .ref ((SC g).1.2.1 60)] h (f_X9_takeOn_j80 w10 w21 v4 s1 s2 h) := by
        intro v4 s1 s2 h
        unfold f_X9_takeOn_j80
        refine v_last hB hK (aCJ_60 g) dX9_takeOn_80 ?_
        refine v_iinc hB (v4 + 1) [(0, .ref ((SC g).1.2.1 59)), (1, .ref ((SC g).1.2.1 p1)), (2, .int p2), (3, .int v3), (4, .int (v4 + 1))] 4 [1, 2, 3, 4, 0] dX9_takeOn_81 rfl rfl (by decide) rfl ?_
        refine v_goto (tgt := 21) hB dX9_takeOn_84 rfl ?_
        exact V.sub [0, 1, 2, 3, 4] rfl (ih21 (v4 + 1) (wJ h 60 s1.toNatClampNeg s2))
      intro v4 h
      unfold f_X9_takeOn_l21
      refine v_iload hB 4 dX9_takeOn_21 rfl ?_
      refine v_iload_n hB 3 dX9_takeOn_23 rfl rfl ?_
      refine v_icmp_gt (tgt := 87) hB dX9_takeOn_24 rfl ?_ ?_
      · exact V.sub [0, 1, 2, 3] rfl (hn87 v3 h)
      · refine v_aload_n hB 0 dX9_takeOn_27 rfl rfl ?_
        refine v_getI hB hK (fl_X9_15 g) (cCI_59_1 g) dX9_takeOn_28 ?_
        refine v_iload_n hB 3 dX9_takeOn_31 rfl rfl ?_
        refine v_isub hB dX9_takeOn_32 ?_
        refine v_istore hB [(0, .ref ((SC g).1.2.1 59)), (1, .ref ((SC g).1.2.1 p1)), (2, .int p2), (3, .int v3), (4, .int v4), (5, .int ((rI h 59 1) - v3))] [1, 2, 3, 4, 5, 0] dX9_takeOn_33 (by decide) rfl ?_
        refine v_iload_n hB 3 dX9_takeOn_35 rfl rfl ?_
        refine v_iload hB 4 dX9_takeOn_36 rfl ?_
        refine v_isub hB dX9_takeOn_38 ?_
        refine v_istore hB [(0, .ref ((SC g).1.2.1 59)), (1, .ref ((SC g).1.2.1 p1)), (2, .int p2), (3, .int v3), (4, .int v4), (5, .int ((rI h 59 1) - v3)), (6, .int (v3 - v4))] [1, 2, 3, 4, 5, 6, 0] dX9_takeOn_39 (by decide) rfl ?_
        refine v_aload_n hB 0 dX9_takeOn_41 rfl rfl ?_
        refine v_getA hB hK (fl_X9_9 g) (cCA_59_0 g) dX9_takeOn_42 ?_
        refine v_iload hB 6 dX9_takeOn_45 rfl ?_
        refine v_iload hB 4 dX9_takeOn_47 rfl ?_
        refine v_bT (v_callSN hB hK hR.rm [.int (v3 - v4), .int v4] [.ref ((SC g).1.2.1 60)] lb_X10_termOf (nk_X9_26 g) lv_X9_26 (c_X10_termOf g hK.A X.1.2.1 (v3 - v4) v4 h) dX9_takeOn_49 rfl rfl (Nat.le_of_ble_eq_true rfl) (by decide) (by decide)) ?_
        refine v_iload_n hB 2 dX9_takeOn_52 rfl rfl ?_
        refine v_iload hB 5 dX9_takeOn_53 rfl ?_
        refine v_iload hB 6 dX9_takeOn_55 rfl ?_
        refine v_iload hB 4 dX9_takeOn_57 rfl ?_
        refine v_bT (v_callSN hB hK hR.rm [.int p2, .int ((rI h 59 1) - v3), .int (v3 - v4), .int v4] [.int (f_X10_termOf (v3 - v4) v4), .ref ((SC g).1.2.1 60)] lb_X10_standsOn (nk_X9_30 g) lv_X9_30 (c_X10_standsOn g hK.A X.1.2.1 p2 ((rI h 59 1) - v3) (v3 - v4) v4 h) dX9_takeOn_59 rfl rfl (Nat.le_of_ble_eq_true rfl) (by decide) (by decide)) ?_
        refine v_ifz_eq (r := f_X10_standsOn p2 ((rI h 59 1) - v3) (v3 - v4) v4) (tgt := 79) hB dX9_takeOn_62 rfl ?_ ?_
        · refine v_lconst hB 0 dX9_takeOn_79 (by decide) ?_
          exact V.sub [0, 1, 2, 3, 4] rfl (hn80 v4 (f_X10_termOf (v3 - v4) v4) 0 h)
        · refine v_aload_n hB 1 dX9_takeOn_65 rfl rfl ?_
          refine v_iload hB 5 dX9_takeOn_66 rfl ?_
          refine v_iload hB 6 dX9_takeOn_68 rfl ?_
          refine v_iload hB 4 dX9_takeOn_70 rfl ?_
          refine v_bRi (fun r72 e72 => v_callV hB hK hR.rm [.int ((rI h 59 1) - v3), .int (v3 - v4), .int v4] [.int (f_X10_termOf (v3 - v4) v4), .ref ((SC g).1.2.1 60)] (o_Form g p1 hp1) lb_X1_has lv_X9_34 (c_X1_has g hK.A X.1.2.1 p1 hp1 ((rI h 59 1) - v3) (v3 - v4) v4 h e72) dX9_takeOn_72 rfl rfl (Nat.le_of_ble_eq_true rfl) (by decide) (by decide)) (fun r72 => ?_)
          refine v_i2l hB dX9_takeOn_75 ?_
          refine v_goto (tgt := 80) hB dX9_takeOn_76 rfl ?_
          exact V.sub [0, 1, 2, 3, 4] rfl (hn80 v4 (f_X10_termOf (v3 - v4) v4) r72.toInt64 h)
    intro v3 h
    unfold f_X9_takeOn_l10
    refine v_iload_n hB 3 dX9_takeOn_10 rfl rfl ?_
    refine v_aload_n hB 0 dX9_takeOn_11 rfl rfl ?_
    refine v_getI hB hK (fl_X9_15 g) (cCI_59_1 g) dX9_takeOn_12 ?_
    refine v_icmp_gt (tgt := 93) hB dX9_takeOn_15 rfl ?_ ?_
    · exact v_retWv hB hK hR dX9_takeOn_93
    · refine v_iconst hB 0 dX9_takeOn_18 (by decide) ?_
      refine v_istore hB [(0, .ref ((SC g).1.2.1 59)), (1, .ref ((SC g).1.2.1 p1)), (2, .int p2), (3, .int v3), (4, .int 0)] [1, 2, 3, 4, 0] dX9_takeOn_19 (by decide) rfl ?_
      exact V.sub [0, 1, 2, 3, 4] rfl (hn21 v3 1000 0 h)
  unfold f_X9_takeOn
  refine v_aload_n hB 0 dX9_takeOn_0 rfl rfl ?_
  refine v_aload_n hB 1 dX9_takeOn_1 rfl rfl ?_
  refine v_getI hB hK (fl_X9_23 g) (cI_Form_3 g p1 hp1) dX9_takeOn_2 ?_
  refine v_putI hB hK (fl_X9_15 g) (fin_X9_1 g) (cCI_59_1 g) dX9_takeOn_5 ?_
  refine v_hl (fun h5 => ?_)
  refine v_iconst hB 0 dX9_takeOn_8 (by decide) ?_
  refine v_istore_n hB [(0, .ref ((SC g).1.2.1 59)), (1, .ref ((SC g).1.2.1 p1)), (2, .int p2), (3, .int 0)] [1, 2, 3, 0] dX9_takeOn_9 rfl (by decide) rfl ?_
  exact V.sub [0, 1, 2, 3] rfl (hn10 1000 0 h5)

def f_X6_settle_j133 (h : pq_H) : Option (Bool × pq_H) :=
  some (true, wI h 56 3 ((rI h 56 3) + 1))
def f_X6_settle_l106 (v1 : Int32) (v2 : Nat) (w106 : Int32 → pq_H → Option (Bool × pq_H)) (v3 : Int32) (h : pq_H) : Option (Bool × pq_H) :=
  if v1 ≤ v3 then (f_X6_settle_j133 h) else (gd (inb v3 190) (gd (inb v3 28) (w106 (v3 + 1) (wI h (v2 + 12) v3.toNatClampNeg ((rJ h 60 v3.toNatClampNeg).toInt32)))))
def f_X6_settle_j79 (v1 : Int32) (h : pq_H) : Option (Bool × pq_H) :=
  gd (inb (rI h 56 3) 6) ((f_X1_makeNought ((rI h 56 3).toNatClampNeg) h).bind fun h90 => hl (wI h90 ((rI h 56 3).toNatClampNeg) 3 (rI h90 59 1)) fun h101 => lp (fun _ _ => none) (f_X6_settle_l106 v1 ((rI h 56 3).toNatClampNeg)) 1000 0 h101)
def f_X6_settle_l34 (v1 : Int32) (h : pq_H) (w34 : Int32 → Option (Bool × pq_H)) (v2 : Int32) : Option (Bool × pq_H) :=
  if v1 ≤ v2 then (f_X6_settle_j79 v1 h) else (gd (inb v2 190) (if (rJ h 60 v2.toNatClampNeg) < (-1000000) then (some (false, h)) else (gd (inb v2 190) (if (rJ h 60 v2.toNatClampNeg) ≤ 1000000 then (w34 (v2 + 1)) else (some (false, h))))))
def f_X6_settle (h : pq_H) : Option (Bool × pq_H) :=
  if (f_X6_isFull h) = true then (some (false, h)) else (if (rI h 59 1) ≤ 6 then (lp (fun _ => none) (f_X6_settle_l34 (f_X10_termsOf (rI h 59 1)) h) 1000 0) else (some (false, h)))
set_option maxRecDepth 100000 in
set_option maxHeartbeats 4000000 in
theorem c_X6_settle (g : pq_g) {A : Nat → Prop} (hA : pq_A (SC g) A) (l : Launch) (h : pq_H) {rr : Bool} {hh : pq_H} (e : f_X6_settle h = some (rr, hh)) : pq_M (SC g) A l yX6_settle cX6_settle 4 (some .boolean) 1 21 [.ref ((SC g).1.2.1 56)] h (some (.int (b2i rr))) hh := by
  refine pq_met hA l (own := RX6) 1 21 _ [(0, .ref ((SC g).1.2.1 56))] h _ hh (by decide +kernel) rfl (Nat.le_of_ble_eq_true rfl) rfl (fun X hXl hXA hB hK hR => ?_)
  refine V.cast (F' := f_X6_settle h) (res' := (rr, hh)) (fun _ => e) ?_
  have hn133 : ∀ (h : pq_H), V X (SC g) (rr, hh) 4 133 [(0, .ref ((SC g).1.2.1 56))] [] h (f_X6_settle_j133 h) := by
    intro h
    unfold f_X6_settle_j133
    refine v_aload_n hB 0 dX6_settle_133 rfl rfl ?_
    refine v_dup hB dX6_settle_134 rfl ?_
    refine v_getI hB hK (fl_X6_32 g) (cCI_56_3 g) dX6_settle_135 ?_
    refine v_iconst hB 1 dX6_settle_138 (by decide) ?_
    refine v_iadd hB dX6_settle_139 ?_
    refine v_putI hB hK (fl_X6_32 g) (fin_X6_3 g) (cCI_56_3 g) dX6_settle_140 ?_
    refine v_iconst hB 1 dX6_settle_143 (by decide) ?_
    exact v_retWz (x := true) hB hK hR dX6_settle_144
  have hn106 : ∀ (v1 : Int32) (v2 : Nat) (hv2 : v2 < 12) (n : Nat), ∀ (v3 : Int32) (h : pq_H), V X (SC g) (rr, hh) 4 106 [(0, .ref ((SC g).1.2.1 56)), (1, .int v1), (2, .ref ((SC g).1.2.1 v2)), (3, .int v3)] [] h (lp (fun _ _ => none) (f_X6_settle_l106 v1 v2) n v3 h) := by
    intro v1 v2 hv2
    refine lp_ind (fun (w106 : Int32 → pq_H → Option (Bool × pq_H)) => ∀ (v3 : Int32) (h : pq_H), V X (SC g) (rr, hh) 4 106 [(0, .ref ((SC g).1.2.1 56)), (1, .int v1), (2, .ref ((SC g).1.2.1 v2)), (3, .int v3)] [] h (w106 v3 h)) (fun _ _ => V.none _ _ _ _) (fun w106 ih106 => ?_)
    intro v3 h
    unfold f_X6_settle_l106
    refine v_iload_n hB 3 dX6_settle_106 rfl rfl ?_
    refine v_iload_n hB 1 dX6_settle_107 rfl rfl ?_
    refine v_icmp_ge (tgt := 133) hB dX6_settle_108 rfl ?_ ?_
    · exact V.sub [0] rfl (hn133 h)
    · refine v_aload_n hB 2 dX6_settle_111 rfl rfl ?_
      refine v_getA hB hK (fl_X6_155 g) (cA_Form_0 g v2 hv2) dX6_settle_112 ?_
      refine v_iload_n hB 3 dX6_settle_115 rfl rfl ?_
      refine v_aload_n hB 0 dX6_settle_116 rfl rfl ?_
      refine v_getA hB hK (fl_X6_23 g) (cCA_56_2 g) dX6_settle_117 ?_
      refine v_getA hB hK (fl_X6_118 g) (cCA_59_0 g) dX6_settle_120 ?_
      refine v_iload_n hB 3 dX6_settle_123 rfl rfl ?_
      refine v_lald hB hK (aCJ_60 g) dX6_settle_124 ?_
      refine v_l2i hB dX6_settle_125 ?_
      refine v_iast hB hK (aI_told g v2 hv2) dX6_settle_126 ?_
      refine v_iinc hB (v3 + 1) [(0, .ref ((SC g).1.2.1 56)), (1, .int v1), (2, .ref ((SC g).1.2.1 v2)), (3, .int (v3 + 1))] 3 [1, 2, 3, 0] dX6_settle_127 rfl rfl (by decide) rfl ?_
      refine v_goto (tgt := 106) hB dX6_settle_130 rfl ?_
      exact V.sub [0, 1, 2, 3] rfl (ih106 (v3 + 1) (wI h (v2 + 12) v3.toNatClampNeg ((rJ h 60 v3.toNatClampNeg).toInt32)))
  have hn79 : ∀ (v1 : Int32) (h : pq_H), V X (SC g) (rr, hh) 4 79 [(0, .ref ((SC g).1.2.1 56)), (1, .int v1)] [] h (f_X6_settle_j79 v1 h) := by
    intro v1 h
    unfold f_X6_settle_j79
    refine v_aload_n hB 0 dX6_settle_79 rfl rfl ?_
    refine v_getA hB hK (fl_X6_11 g) (cCA_56_0 g) dX6_settle_80 ?_
    refine v_aload_n hB 0 dX6_settle_83 rfl rfl ?_
    refine v_getI hB hK (fl_X6_32 g) (cCI_56_3 g) dX6_settle_84 ?_
    refine v_aa57 hB hK dX6_settle_87 (fun q87 => ?_)
    refine v_astore_n hB [(0, .ref ((SC g).1.2.1 56)), (1, .int v1), (2, .ref ((SC g).1.2.1 ((rI h 56 3).toNatClampNeg)))] [1, 2, 0] dX6_settle_88 rfl (by decide) rfl ?_
    refine v_aload_n hB 2 dX6_settle_89 rfl rfl ?_
    refine v_bV (fun h90 e90 => v_callV hB hK hR.rm [] [] (o_Form g ((rI h 56 3).toNatClampNeg) (lt6_12 q87)) lb_X1_makeNought lv_X6_153 (c_X1_makeNought g hK.A X.1.2.1 ((rI h 56 3).toNatClampNeg) (lt6_12 q87) h e90) dX6_settle_90 rfl rfl (Nat.le_of_ble_eq_true rfl) (by decide) (by decide)) (fun h90 => ?_)
    refine v_aload_n hB 2 dX6_settle_93 rfl rfl ?_
    refine v_aload_n hB 0 dX6_settle_94 rfl rfl ?_
    refine v_getA hB hK (fl_X6_23 g) (cCA_56_2 g) dX6_settle_95 ?_
    refine v_getI hB hK (fl_X6_117 g) (cCI_59_1 g) dX6_settle_98 ?_
    refine v_putI hB hK (fl_X6_43 g) (fin_X1_3 g) (cI_Form_3 g ((rI h 56 3).toNatClampNeg) (lt6_12 q87)) dX6_settle_101 ?_
    refine v_hl (fun h101 => ?_)
    refine v_iconst hB 0 dX6_settle_104 (by decide) ?_
    refine v_istore_n hB [(0, .ref ((SC g).1.2.1 56)), (1, .int v1), (2, .ref ((SC g).1.2.1 ((rI h 56 3).toNatClampNeg))), (3, .int 0)] [1, 2, 3, 0] dX6_settle_105 rfl (by decide) rfl ?_
    exact V.sub [0, 1, 2, 3] rfl (hn106 v1 ((rI h 56 3).toNatClampNeg) (lt6_12 q87) 1000 0 h101)
  have hn34 : ∀ (v1 : Int32) (h : pq_H) (n : Nat), ∀ (v2 : Int32), V X (SC g) (rr, hh) 4 34 [(0, .ref ((SC g).1.2.1 56)), (1, .int v1), (2, .int v2)] [] h (lp (fun _ => none) (f_X6_settle_l34 v1 h) n v2) := by
    intro v1 h
    refine lp_ind (fun (w34 : Int32 → Option (Bool × pq_H)) => ∀ (v2 : Int32), V X (SC g) (rr, hh) 4 34 [(0, .ref ((SC g).1.2.1 56)), (1, .int v1), (2, .int v2)] [] h (w34 v2)) (fun _ => V.none _ _ _ _) (fun w34 ih34 => ?_)
    intro v2
    unfold f_X6_settle_l34
    refine v_iload_n hB 2 dX6_settle_34 rfl rfl ?_
    refine v_iload_n hB 1 dX6_settle_35 rfl rfl ?_
    refine v_icmp_ge (tgt := 79) hB dX6_settle_36 rfl ?_ ?_
    · exact V.sub [0, 1] rfl (hn79 v1 h)
    · refine v_aload_n hB 0 dX6_settle_39 rfl rfl ?_
      refine v_getA hB hK (fl_X6_23 g) (cCA_56_2 g) dX6_settle_40 ?_
      refine v_getA hB hK (fl_X6_118 g) (cCA_59_0 g) dX6_settle_43 ?_
      refine v_iload_n hB 2 dX6_settle_46 rfl rfl ?_
      refine v_lald hB hK (aCJ_60 g) dX6_settle_47 ?_
      refine v_ldc2 hB (-1000000) k_X6_149 dX6_settle_48 ?_
      refine v_lcmp_lt (tgt := 71) hB dX6_settle_51 dX6_settle_52 rfl ?_ ?_
      · refine v_iconst hB 0 dX6_settle_71 (by decide) ?_
        exact v_retWz (x := false) hB hK hR dX6_settle_72
      · refine v_aload_n hB 0 dX6_settle_55 rfl rfl ?_
        refine v_getA hB hK (fl_X6_23 g) (cCA_56_2 g) dX6_settle_56 ?_
        refine v_getA hB hK (fl_X6_118 g) (cCA_59_0 g) dX6_settle_59 ?_
        refine v_iload_n hB 2 dX6_settle_62 rfl rfl ?_
        refine v_lald hB hK (aCJ_60 g) dX6_settle_63 ?_
        refine v_ldc2 hB 1000000 k_X6_151 dX6_settle_64 ?_
        refine v_lcmp_le (tgt := 73) hB dX6_settle_67 dX6_settle_68 rfl ?_ ?_
        · refine v_iinc hB (v2 + 1) [(0, .ref ((SC g).1.2.1 56)), (1, .int v1), (2, .int (v2 + 1))] 2 [1, 2, 0] dX6_settle_73 rfl rfl (by decide) rfl ?_
          refine v_goto (tgt := 34) hB dX6_settle_76 rfl ?_
          exact V.sub [0, 1, 2] rfl (ih34 (v2 + 1))
        · refine v_iconst hB 0 dX6_settle_71 (by decide) ?_
          exact v_retWz (x := false) hB hK hR dX6_settle_72
  unfold f_X6_settle
  refine v_aload_n hB 0 dX6_settle_0 rfl rfl ?_
  refine v_bT (v_callV hB hK hR.rm [] [] (oC_56 g) lb_X6_isFull lv_X6_146 (c_X6_isFull g hK.A X.1.2.1 h) dX6_settle_1 rfl rfl (Nat.le_of_ble_eq_true rfl) (by decide) (by decide)) ?_
  refine v_ifz_ne (r := f_X6_isFull h) (tgt := 19) hB dX6_settle_4 rfl ?_ ?_
  · refine v_iconst hB 0 dX6_settle_19 (by decide) ?_
    exact v_retWz (x := false) hB hK hR dX6_settle_20
  · refine v_aload_n hB 0 dX6_settle_7 rfl rfl ?_
    refine v_getA hB hK (fl_X6_23 g) (cCA_56_2 g) dX6_settle_8 ?_
    refine v_getI hB hK (fl_X6_117 g) (cCI_59_1 g) dX6_settle_11 ?_
    refine v_bipush hB 6 dX6_settle_14 (by decide) ?_
    refine v_icmp_le (tgt := 21) hB dX6_settle_16 rfl ?_ ?_
    · refine v_aload_n hB 0 dX6_settle_21 rfl rfl ?_
      refine v_getA hB hK (fl_X6_23 g) (cCA_56_2 g) dX6_settle_22 ?_
      refine v_getI hB hK (fl_X6_117 g) (cCI_59_1 g) dX6_settle_25 ?_
      refine v_bT (v_callSN hB hK hR.rm [.int (rI h 59 1)] [] lb_X10_termsOf (nk_X6_46 g) lv_X6_46 (c_X10_termsOf g hK.A X.1.2.1 (rI h 59 1) h) dX6_settle_28 rfl rfl (Nat.le_of_ble_eq_true rfl) (by decide) (by decide)) ?_
      refine v_istore_n hB [(0, .ref ((SC g).1.2.1 56)), (1, .int (f_X10_termsOf (rI h 59 1)))] [1, 0] dX6_settle_31 rfl (by decide) rfl ?_
      refine v_iconst hB 0 dX6_settle_32 (by decide) ?_
      refine v_istore_n hB [(0, .ref ((SC g).1.2.1 56)), (1, .int (f_X10_termsOf (rI h 59 1))), (2, .int 0)] [1, 2, 0] dX6_settle_33 rfl (by decide) rfl ?_
      exact V.sub [0, 1, 2] rfl (hn34 (f_X10_termsOf (rI h 59 1)) h 1000 0)
    · refine v_iconst hB 0 dX6_settle_19 (by decide) ?_
      exact v_retWz (x := false) hB hK hR dX6_settle_20

def f_X6_bringSum_j83 (h : pq_H) : Option (Bool × pq_H) :=
  bd2 (f_X6_settle h) fun r84 h84 => some (r84, h84)
def f_X6_bringSum_l40 (p2 : Int32) (w40 : Int32 → pq_H → Option (Bool × pq_H)) (v3 : Int32) (h : pq_H) : Option (Bool × pq_H) :=
  if (f_X10_termsOf (rI h 59 1)) ≤ v3 then (f_X6_bringSum_j83 h) else (gd (inb v3 190) (gd (inb p2 6) ((f_X1_at p2.toNatClampNeg v3 h).bind fun r71 => gd (inb v3 190) (w40 (v3 + 1) (wJ h 60 v3.toNatClampNeg ((rJ h 60 v3.toNatClampNeg) + r71.toInt64))))))
def f_X6_bringSum (p1 : Int32) (p2 : Int32) (h : pq_H) : Option (Bool × pq_H) :=
  gd (inb p1 6) (gd (inb p2 6) (if (rI h p1.toNatClampNeg 3) = (rI h p2.toNatClampNeg 3) then (gd (inb p1 6) ((f_X9_takeOn p1.toNatClampNeg 7 h).bind fun h35 => lp (fun _ _ => none) (f_X6_bringSum_l40 p2) 1000 0 h35)) else (some (false, h))))
set_option maxRecDepth 100000 in
set_option maxHeartbeats 4000000 in
theorem c_X6_bringSum (g : pq_g) {A : Nat → Prop} (hA : pq_A (SC g) A) (l : Launch) (p1 : Int32) (p2 : Int32) (h : pq_H) {rr : Bool} {hh : pq_H} (e : f_X6_bringSum p1 p2 h = some (rr, hh)) : pq_M (SC g) A l yX6_bringSum cX6_bringSum 4 (some .boolean) 3 70 [.ref ((SC g).1.2.1 56), .int p1, .int p2] h (some (.int (b2i rr))) hh := by
  refine pq_met hA l (own := RX6) 3 70 _ [(0, .ref ((SC g).1.2.1 56)), (1, .int p1), (2, .int p2)] h _ hh (by decide +kernel) rfl (Nat.le_of_ble_eq_true rfl) rfl (fun X hXl hXA hB hK hR => ?_)
  refine V.cast (F' := f_X6_bringSum p1 p2 h) (res' := (rr, hh)) (fun _ => e) ?_
  have hn83 : ∀ (h : pq_H), V X (SC g) (rr, hh) 4 83 [(0, .ref ((SC g).1.2.1 56))] [] h (f_X6_bringSum_j83 h) := by
    intro h
    unfold f_X6_bringSum_j83
    refine v_aload_n hB 0 dX6_bringSum_83 rfl rfl ?_
    refine v_bWz (fun r84 h84 e84 => v_callV hB hK hR.rm [] [] (oC_56 g) lb_X6_settle lv_X6_122 (c_X6_settle g hK.A X.1.2.1 h e84) dX6_bringSum_84 rfl rfl (Nat.le_of_ble_eq_true rfl) (by decide) (by decide)) (fun r84 h84 => ?_)
    exact v_retWz (x := r84) hB hK hR dX6_bringSum_87
  have hn40 : ∀ (n : Nat), ∀ (v3 : Int32) (h : pq_H), V X (SC g) (rr, hh) 4 40 [(0, .ref ((SC g).1.2.1 56)), (2, .int p2), (3, .int v3)] [] h (lp (fun _ _ => none) (f_X6_bringSum_l40 p2) n v3 h) := by
    refine lp_ind (fun (w40 : Int32 → pq_H → Option (Bool × pq_H)) => ∀ (v3 : Int32) (h : pq_H), V X (SC g) (rr, hh) 4 40 [(0, .ref ((SC g).1.2.1 56)), (2, .int p2), (3, .int v3)] [] h (w40 v3 h)) (fun _ _ => V.none _ _ _ _) (fun w40 ih40 => ?_)
    intro v3 h
    unfold f_X6_bringSum_l40
    refine v_iload_n hB 2 dX6_bringSum_40 rfl rfl ?_
    refine v_aload_n hB 0 dX6_bringSum_41 rfl rfl ?_
    refine v_getA hB hK (fl_X6_23 g) (cCA_56_2 g) dX6_bringSum_42 ?_
    refine v_getI hB hK (fl_X6_117 g) (cCI_59_1 g) dX6_bringSum_45 ?_
    refine v_bT (v_callSN hB hK hR.rm [.int (rI h 59 1)] [.int v3] lb_X10_termsOf (nk_X6_46 g) lv_X6_46 (c_X10_termsOf g hK.A X.1.2.1 (rI h 59 1) h) dX6_bringSum_48 rfl rfl (Nat.le_of_ble_eq_true rfl) (by decide) (by decide)) ?_
    refine v_icmp_ge (tgt := 83) hB dX6_bringSum_51 rfl ?_ ?_
    · exact V.sub [0] rfl (hn83 h)
    · refine v_aload_n hB 0 dX6_bringSum_54 rfl rfl ?_
      refine v_getA hB hK (fl_X6_23 g) (cCA_56_2 g) dX6_bringSum_55 ?_
      refine v_getA hB hK (fl_X6_118 g) (cCA_59_0 g) dX6_bringSum_58 ?_
      refine v_iload_n hB 2 dX6_bringSum_61 rfl rfl ?_
      refine v_dup2 hB dX6_bringSum_62 rfl rfl ?_
      refine v_lald hB hK (aCJ_60 g) dX6_bringSum_63 ?_
      refine v_aload_n hB 0 dX6_bringSum_64 rfl rfl ?_
      refine v_getA hB hK (fl_X6_11 g) (cCA_56_0 g) dX6_bringSum_65 ?_
      refine v_iload_n hB 1 dX6_bringSum_68 rfl rfl ?_
      refine v_aa57 hB hK dX6_bringSum_69 (fun q69 => ?_)
      refine v_iload_n hB 2 dX6_bringSum_70 rfl rfl ?_
      refine v_bRi (fun r71 e71 => v_callV hB hK hR.rm [.int v3] [.long (rJ h 60 v3.toNatClampNeg), .int v3, .ref ((SC g).1.2.1 60)] (o_Form g p2.toNatClampNeg (lt6_12 q69)) lb_X1_at lv_X6_63 (c_X1_at g hK.A X.1.2.1 p2.toNatClampNeg (lt6_12 q69) v3 h e71) dX6_bringSum_71 rfl rfl (Nat.le_of_ble_eq_true rfl) (by decide) (by decide)) (fun r71 => ?_)
      refine v_i2l hB dX6_bringSum_74 ?_
      refine v_ladd hB dX6_bringSum_75 ?_
      refine v_last hB hK (aCJ_60 g) dX6_bringSum_76 ?_
      refine v_iinc hB (v3 + 1) [(0, .ref ((SC g).1.2.1 56)), (2, .int p2), (3, .int (v3 + 1))] 2 [1, 2, 0] dX6_bringSum_77 rfl rfl (by decide) rfl ?_
      refine v_goto (tgt := 40) hB dX6_bringSum_80 rfl ?_
      exact V.sub [0, 1, 2] rfl (ih40 (v3 + 1) (wJ h 60 v3.toNatClampNeg ((rJ h 60 v3.toNatClampNeg) + r71.toInt64)))
  unfold f_X6_bringSum
  refine v_aload_n hB 0 dX6_bringSum_0 rfl rfl ?_
  refine v_getA hB hK (fl_X6_11 g) (cCA_56_0 g) dX6_bringSum_1 ?_
  refine v_iload_n hB 1 dX6_bringSum_4 rfl rfl ?_
  refine v_aa57 hB hK dX6_bringSum_5 (fun q5 => ?_)
  refine v_getI hB hK (fl_X6_43 g) (cI_Form_3 g p1.toNatClampNeg (lt6_12 q5)) dX6_bringSum_6 ?_
  refine v_aload_n hB 0 dX6_bringSum_9 rfl rfl ?_
  refine v_getA hB hK (fl_X6_11 g) (cCA_56_0 g) dX6_bringSum_10 ?_
  refine v_iload_n hB 2 dX6_bringSum_13 rfl rfl ?_
  refine v_aa57 hB hK dX6_bringSum_14 (fun q14 => ?_)
  refine v_getI hB hK (fl_X6_43 g) (cI_Form_3 g p2.toNatClampNeg (lt6_12 q14)) dX6_bringSum_15 ?_
  refine v_icmp_eq (tgt := 23) hB dX6_bringSum_18 rfl ?_ ?_
  · refine v_aload_n hB 0 dX6_bringSum_23 rfl rfl ?_
    refine v_getA hB hK (fl_X6_23 g) (cCA_56_2 g) dX6_bringSum_24 ?_
    refine v_aload_n hB 0 dX6_bringSum_27 rfl rfl ?_
    refine v_getA hB hK (fl_X6_11 g) (cCA_56_0 g) dX6_bringSum_28 ?_
    refine v_iload_n hB 1 dX6_bringSum_31 rfl rfl ?_
    refine v_aa57 hB hK dX6_bringSum_32 (fun q32 => ?_)
    refine v_bipush hB 7 dX6_bringSum_33 (by decide) ?_
    refine v_bV (fun h35 e35 => v_callV hB hK hR.rm [.ref ((SC g).1.2.1 p1.toNatClampNeg), .int 7] [] (oC_59 g) lb_X9_takeOn lv_X6_113 (c_X9_takeOn g hK.A X.1.2.1 p1.toNatClampNeg (lt6_12 q32) 7 h e35) dX6_bringSum_35 rfl rfl (Nat.le_of_ble_eq_true rfl) (by decide) (by decide)) (fun h35 => ?_)
    refine v_iconst hB 0 dX6_bringSum_38 (by decide) ?_
    refine v_istore_n hB [(0, .ref ((SC g).1.2.1 56)), (1, .int p1), (2, .int p2), (3, .int 0)] [1, 2, 3, 0] dX6_bringSum_39 rfl (by decide) rfl ?_
    exact V.sub [0, 2, 3] rfl (hn40 1000 0 h35)
  · refine v_iconst hB 0 dX6_bringSum_21 (by decide) ?_
    exact v_retWz (x := false) hB hK hR dX6_bringSum_22

def f_X9_makeNought_l7 (w7 : Int32 → pq_H → Option pq_H) (v2 : Int32) (h : pq_H) : Option pq_H :=
  if (f_X10_termsOf (rI h 59 1)) ≤ v2 then (some h) else (gd (inb v2 190) (w7 (v2 + 1) (wJ h 60 v2.toNatClampNeg 0)))
def f_X9_makeNought (p1 : Int32) (h : pq_H) : Option pq_H :=
  hl (wI h 59 1 p1) fun h2 => lp (fun _ _ => none) (f_X9_makeNought_l7) 1000 0 h2
set_option maxRecDepth 100000 in
set_option maxHeartbeats 4000000 in
theorem c_X9_makeNought (g : pq_g) {A : Nat → Prop} (hA : pq_A (SC g) A) (l : Launch) (p1 : Int32) (h : pq_H) {hh : pq_H} (e : f_X9_makeNought p1 h = some hh) : pq_M (SC g) A l yX9_makeNought cX9_makeNought 3 none 1 20 [.ref ((SC g).1.2.1 59), .int p1] h none hh := by
  refine pq_met hA l (own := RX9) 1 20 _ [(0, .ref ((SC g).1.2.1 59)), (1, .int p1)] h _ hh (by decide +kernel) rfl (Nat.le_of_ble_eq_true rfl) rfl (fun X hXl hXA hB hK hR => ?_)
  refine V.cast (F' := f_X9_makeNought p1 h) (res' := hh) (fun _ => e) ?_
  have hn7 : ∀ (n : Nat), ∀ (v2 : Int32) (h : pq_H), V X (SC g) hh 3 7 [(0, .ref ((SC g).1.2.1 59)), (2, .int v2)] [] h (lp (fun _ _ => none) (f_X9_makeNought_l7) n v2 h) := by
    refine lp_ind (fun (w7 : Int32 → pq_H → Option pq_H) => ∀ (v2 : Int32) (h : pq_H), V X (SC g) hh 3 7 [(0, .ref ((SC g).1.2.1 59)), (2, .int v2)] [] h (w7 v2 h)) (fun _ _ => V.none _ _ _ _) (fun w7 ih7 => ?_)
    intro v2 h
    unfold f_X9_makeNought_l7
    refine v_iload_n hB 1 dX9_makeNought_7 rfl rfl ?_
    refine v_aload_n hB 0 dX9_makeNought_8 rfl rfl ?_
    refine v_getI hB hK (fl_X9_15 g) (cCI_59_1 g) dX9_makeNought_9 ?_
    refine v_bT (v_callSN hB hK hR.rm [.int (rI h 59 1)] [.int v2] lb_X10_termsOf (nk_X9_19 g) lv_X9_19 (c_X10_termsOf g hK.A X.1.2.1 (rI h 59 1) h) dX9_makeNought_12 rfl rfl (Nat.le_of_ble_eq_true rfl) (by decide) (by decide)) ?_
    refine v_icmp_ge (tgt := 31) hB dX9_makeNought_15 rfl ?_ ?_
    · exact v_retWv hB hK hR dX9_makeNought_31
    · refine v_aload_n hB 0 dX9_makeNought_18 rfl rfl ?_
      refine v_getA hB hK (fl_X9_9 g) (cCA_59_0 g) dX9_makeNought_19 ?_
      refine v_iload_n hB 1 dX9_makeNought_22 rfl rfl ?_
      refine v_lconst hB 0 dX9_makeNought_23 (by decide) ?_
      refine v_last hB hK (aCJ_60 g) dX9_makeNought_24 ?_
      refine v_iinc hB (v2 + 1) [(0, .ref ((SC g).1.2.1 59)), (2, .int (v2 + 1))] 1 [1, 0] dX9_makeNought_25 rfl rfl (by decide) rfl ?_
      refine v_goto (tgt := 7) hB dX9_makeNought_28 rfl ?_
      exact V.sub [0, 1] rfl (ih7 (v2 + 1) (wJ h 60 v2.toNatClampNeg 0))
  unfold f_X9_makeNought
  refine v_aload_n hB 0 dX9_makeNought_0 rfl rfl ?_
  refine v_iload_n hB 1 dX9_makeNought_1 rfl rfl ?_
  refine v_putI hB hK (fl_X9_15 g) (fin_X9_1 g) (cCI_59_1 g) dX9_makeNought_2 ?_
  refine v_hl (fun h2 => ?_)
  refine v_iconst hB 0 dX9_makeNought_5 (by decide) ?_
  refine v_istore_n hB [(0, .ref ((SC g).1.2.1 59)), (1, .int p1), (2, .int 0)] [1, 2, 0] dX9_makeNought_6 rfl (by decide) rfl ?_
  exact V.sub [0, 2] rfl (hn7 1000 0 h2)

def f_X6_addTimes_j85 (w10 : Int32 → pq_H → Option pq_H) (v6 : Int32) (h : pq_H) : Option pq_H :=
  w10 (v6 + 1) h
def f_X6_addTimes_l23 (p1 : Int64) (p3 : Int32) (p4 : Int32) (p5 : Nat) (w10 : Int32 → pq_H → Option pq_H) (v6 : Int32) (w23 : Int32 → pq_H → Option pq_H) (v7 : Int32) (h : pq_H) : Option pq_H :=
  if v6 < v7 then (f_X6_addTimes_j85 w10 v6 h) else (gd (inb (f_X10_termOf ((p3 + v6) - v7) (p4 + v7)) 190) ((f_X1_has p5 ((rI h p5 3) - v6) (v6 - v7) v7 h).bind fun r72 => gd (inb (f_X10_termOf ((p3 + v6) - v7) (p4 + v7)) 190) (w23 (v7 + 1) (wJ h 60 (f_X10_termOf ((p3 + v6) - v7) (p4 + v7)).toNatClampNeg ((rJ h 60 (f_X10_termOf ((p3 + v6) - v7) (p4 + v7)).toNatClampNeg) + (p1 * r72.toInt64))))))
def f_X6_addTimes_l10 (p1 : Int64) (p3 : Int32) (p4 : Int32) (p5 : Nat) (w10 : Int32 → pq_H → Option pq_H) (v6 : Int32) (h : pq_H) : Option pq_H :=
  if (rI h p5 3) < v6 then (some h) else (lp (fun _ _ => none) (f_X6_addTimes_l23 p1 p3 p4 p5 w10 v6) 1000 0 h)
def f_X6_addTimes (p1 : Int64) (p3 : Int32) (p4 : Int32) (p5 : Nat) (h : pq_H) : Option pq_H :=
  if p1 = 0 then (some h) else (lp (fun _ _ => none) (f_X6_addTimes_l10 p1 p3 p4 p5) 1000 0 h)
set_option maxRecDepth 100000 in
set_option maxHeartbeats 4000000 in
theorem c_X6_addTimes (g : pq_g) {A : Nat → Prop} (hA : pq_A (SC g) A) (l : Launch) (p1 : Int64) (p3 : Int32) (p4 : Int32) (p5 : Nat) (hp5 : p5 < 12) (h : pq_H) {hh : pq_H} (e : f_X6_addTimes p1 p3 p4 p5 h = some hh) : pq_M (SC g) A l yX6_addTimes cX6_addTimes 8 none 2 44 [.ref ((SC g).1.2.1 56), .long p1, .int p3, .int p4, .ref ((SC g).1.2.1 p5)] h none hh := by
  refine pq_met hA l (own := RX6) 2 44 _ [(0, .ref ((SC g).1.2.1 56)), (1, .long p1), (3, .int p3), (4, .int p4), (5, .ref ((SC g).1.2.1 p5))] h _ hh (by decide +kernel) rfl (Nat.le_of_ble_eq_true rfl) rfl (fun X hXl hXA hB hK hR => ?_)
  refine V.cast (F' := f_X6_addTimes p1 p3 p4 p5 h) (res' := hh) (fun _ => e) ?_
  have hn10 : ∀ (n : Nat), ∀ (v6 : Int32) (h : pq_H), V X (SC g) hh 8 10 [(0, .ref ((SC g).1.2.1 56)), (1, .long p1), (3, .int p3), (4, .int p4), (5, .ref ((SC g).1.2.1 p5)), (6, .int v6)] [] h (lp (fun _ _ => none) (f_X6_addTimes_l10 p1 p3 p4 p5) n v6 h) := by
    refine lp_ind (fun (w10 : Int32 → pq_H → Option pq_H) => ∀ (v6 : Int32) (h : pq_H), V X (SC g) hh 8 10 [(0, .ref ((SC g).1.2.1 56)), (1, .long p1), (3, .int p3), (4, .int p4), (5, .ref ((SC g).1.2.1 p5)), (6, .int v6)] [] h (w10 v6 h)) (fun _ _ => V.none _ _ _ _) (fun w10 ih10 => ?_)
    have hn85 : ∀ (v6 : Int32) (h : pq_H), V X (SC g) hh 8 85 [(0, .ref ((SC g).1.2.1 56)), (1, .long p1), (3, .int p3), (4, .int p4), (5, .ref ((SC g).1.2.1 p5)), (6, .int v6)] [] h (f_X6_addTimes_j85 w10 v6 h) := by
      intro v6 h
      unfold f_X6_addTimes_j85
      refine v_iinc hB (v6 + 1) [(0, .ref ((SC g).1.2.1 56)), (1, .long p1), (3, .int p3), (4, .int p4), (5, .ref ((SC g).1.2.1 p5)), (6, .int (v6 + 1))] 5 [1, 2, 3, 4, 5, 0] dX6_addTimes_85 rfl rfl (by decide) rfl ?_
      refine v_goto (tgt := 10) hB dX6_addTimes_88 rfl ?_
      exact V.sub [0, 1, 2, 3, 4, 5] rfl (ih10 (v6 + 1) h)
    have hn23 : ∀ (v6 : Int32) (n : Nat), ∀ (v7 : Int32) (h : pq_H), V X (SC g) hh 8 23 [(0, .ref ((SC g).1.2.1 56)), (1, .long p1), (3, .int p3), (4, .int p4), (5, .ref ((SC g).1.2.1 p5)), (6, .int v6), (7, .int v7)] [] h (lp (fun _ _ => none) (f_X6_addTimes_l23 p1 p3 p4 p5 w10 v6) n v7 h) := by
      intro v6
      refine lp_ind (fun (w23 : Int32 → pq_H → Option pq_H) => ∀ (v7 : Int32) (h : pq_H), V X (SC g) hh 8 23 [(0, .ref ((SC g).1.2.1 56)), (1, .long p1), (3, .int p3), (4, .int p4), (5, .ref ((SC g).1.2.1 p5)), (6, .int v6), (7, .int v7)] [] h (w23 v7 h)) (fun _ _ => V.none _ _ _ _) (fun w23 ih23 => ?_)
      intro v7 h
      unfold f_X6_addTimes_l23
      refine v_iload hB 6 dX6_addTimes_23 rfl ?_
      refine v_iload hB 5 dX6_addTimes_25 rfl ?_
      refine v_icmp_gt (tgt := 85) hB dX6_addTimes_27 rfl ?_ ?_
      · exact V.sub [0, 1, 2, 3, 4, 5] rfl (hn85 v6 h)
      · refine v_aload_n hB 0 dX6_addTimes_30 rfl rfl ?_
        refine v_getA hB hK (fl_X6_23 g) (cCA_56_2 g) dX6_addTimes_31 ?_
        refine v_getA hB hK (fl_X6_118 g) (cCA_59_0 g) dX6_addTimes_34 ?_
        refine v_iload_n hB 2 dX6_addTimes_37 rfl rfl ?_
        refine v_iload hB 5 dX6_addTimes_38 rfl ?_
        refine v_iadd hB dX6_addTimes_40 ?_
        refine v_iload hB 6 dX6_addTimes_41 rfl ?_
        refine v_isub hB dX6_addTimes_43 ?_
        refine v_iload hB 3 dX6_addTimes_44 rfl ?_
        refine v_iload hB 6 dX6_addTimes_46 rfl ?_
        refine v_iadd hB dX6_addTimes_48 ?_
        refine v_bT (v_callSN hB hK hR.rm [.int ((p3 + v6) - v7), .int (p4 + v7)] [.ref ((SC g).1.2.1 60)] lb_X10_termOf (nk_X6_138 g) lv_X6_138 (c_X10_termOf g hK.A X.1.2.1 ((p3 + v6) - v7) (p4 + v7) h) dX6_addTimes_49 rfl rfl (Nat.le_of_ble_eq_true rfl) (by decide) (by decide)) ?_
        refine v_dup2 hB dX6_addTimes_52 rfl rfl ?_
        refine v_lald hB hK (aCJ_60 g) dX6_addTimes_53 ?_
        refine v_lload_n hB 1 dX6_addTimes_54 rfl rfl ?_
        refine v_aload hB 4 dX6_addTimes_55 rfl ?_
        refine v_aload hB 4 dX6_addTimes_57 rfl ?_
        refine v_getI hB hK (fl_X6_43 g) (cI_Form_3 g p5 hp5) dX6_addTimes_59 ?_
        refine v_iload hB 5 dX6_addTimes_62 rfl ?_
        refine v_isub hB dX6_addTimes_64 ?_
        refine v_iload hB 5 dX6_addTimes_65 rfl ?_
        refine v_iload hB 6 dX6_addTimes_67 rfl ?_
        refine v_isub hB dX6_addTimes_69 ?_
        refine v_iload hB 6 dX6_addTimes_70 rfl ?_
        refine v_bRi (fun r72 e72 => v_callV hB hK hR.rm [.int ((rI h p5 3) - v6), .int (v6 - v7), .int v7] [.long p1, .long (rJ h 60 (f_X10_termOf ((p3 + v6) - v7) (p4 + v7)).toNatClampNeg), .int (f_X10_termOf ((p3 + v6) - v7) (p4 + v7)), .ref ((SC g).1.2.1 60)] (o_Form g p5 hp5) lb_X1_has lv_X6_130 (c_X1_has g hK.A X.1.2.1 p5 hp5 ((rI h p5 3) - v6) (v6 - v7) v7 h e72) dX6_addTimes_72 rfl rfl (Nat.le_of_ble_eq_true rfl) (by decide) (by decide)) (fun r72 => ?_)
        refine v_i2l hB dX6_addTimes_75 ?_
        refine v_lmul hB dX6_addTimes_76 ?_
        refine v_ladd hB dX6_addTimes_77 ?_
        refine v_last hB hK (aCJ_60 g) dX6_addTimes_78 ?_
        refine v_iinc hB (v7 + 1) [(0, .ref ((SC g).1.2.1 56)), (1, .long p1), (3, .int p3), (4, .int p4), (5, .ref ((SC g).1.2.1 p5)), (6, .int v6), (7, .int (v7 + 1))] 6 [1, 2, 3, 4, 5, 6, 0] dX6_addTimes_79 rfl rfl (by decide) rfl ?_
        refine v_goto (tgt := 23) hB dX6_addTimes_82 rfl ?_
        exact V.sub [0, 1, 2, 3, 4, 5, 6] rfl (ih23 (v7 + 1) (wJ h 60 (f_X10_termOf ((p3 + v6) - v7) (p4 + v7)).toNatClampNeg ((rJ h 60 (f_X10_termOf ((p3 + v6) - v7) (p4 + v7)).toNatClampNeg) + (p1 * r72.toInt64))))
    intro v6 h
    unfold f_X6_addTimes_l10
    refine v_iload hB 5 dX6_addTimes_10 rfl ?_
    refine v_aload hB 4 dX6_addTimes_12 rfl ?_
    refine v_getI hB hK (fl_X6_43 g) (cI_Form_3 g p5 hp5) dX6_addTimes_14 ?_
    refine v_icmp_gt (tgt := 91) hB dX6_addTimes_17 rfl ?_ ?_
    · exact v_retWv hB hK hR dX6_addTimes_91
    · refine v_iconst hB 0 dX6_addTimes_20 (by decide) ?_
      refine v_istore hB [(0, .ref ((SC g).1.2.1 56)), (1, .long p1), (3, .int p3), (4, .int p4), (5, .ref ((SC g).1.2.1 p5)), (6, .int v6), (7, .int 0)] [1, 2, 3, 4, 5, 6, 0] dX6_addTimes_21 (by decide) rfl ?_
      exact V.sub [0, 1, 2, 3, 4, 5, 6] rfl (hn23 v6 1000 0 h)
  unfold f_X6_addTimes
  refine v_lload_n hB 1 dX6_addTimes_0 rfl rfl ?_
  refine v_lconst hB 0 dX6_addTimes_1 (by decide) ?_
  refine v_lcmp_ne (tgt := 7) hB dX6_addTimes_2 dX6_addTimes_3 rfl ?_ ?_
  · refine v_iconst hB 0 dX6_addTimes_7 (by decide) ?_
    refine v_istore hB [(0, .ref ((SC g).1.2.1 56)), (1, .long p1), (3, .int p3), (4, .int p4), (5, .ref ((SC g).1.2.1 p5)), (6, .int 0)] [1, 2, 3, 4, 5, 0] dX6_addTimes_8 (by decide) rfl ?_
    exact V.sub [0, 1, 2, 3, 4, 5] rfl (hn10 1000 0 h)
  · exact v_retWv hB hK hR dX6_addTimes_6

def f_X6_bringProduct_j98 (h : pq_H) : Option (Bool × pq_H) :=
  bd2 (f_X6_settle h) fun r99 h99 => some (r99, h99)
def f_X6_bringProduct_j92 (w35 : Int32 → pq_H → Option (Bool × pq_H)) (v5 : Int32) (h : pq_H) : Option (Bool × pq_H) :=
  w35 (v5 + 1) h
def f_X6_bringProduct_l47 (v3 : Nat) (v4 : Nat) (w35 : Int32 → pq_H → Option (Bool × pq_H)) (v5 : Int32) (w47 : Int32 → pq_H → Option (Bool × pq_H)) (v6 : Int32) (h : pq_H) : Option (Bool × pq_H) :=
  if v5 < v6 then (f_X6_bringProduct_j92 w35 v5 h) else ((f_X1_has v3 ((rI h v3 3) - v5) (v5 - v6) v6 h).bind fun r70 => (f_X6_addTimes r70.toInt64 (v5 - v6) v6 v4 h).bind fun h83 => w47 (v6 + 1) h83)
def f_X6_bringProduct_l35 (v3 : Nat) (v4 : Nat) (w35 : Int32 → pq_H → Option (Bool × pq_H)) (v5 : Int32) (h : pq_H) : Option (Bool × pq_H) :=
  if (rI h v3 3) < v5 then (f_X6_bringProduct_j98 h) else (lp (fun _ _ => none) (f_X6_bringProduct_l47 v3 v4 w35 v5) 1000 0 h)
def f_X6_bringProduct (p1 : Int32) (p2 : Int32) (h : pq_H) : Option (Bool × pq_H) :=
  gd (inb p1 6) (gd (inb p2 6) ((f_X9_makeNought ((rI h p1.toNatClampNeg 3) + (rI h p2.toNatClampNeg 3)) h).bind fun h29 => lp (fun _ _ => none) (f_X6_bringProduct_l35 p1.toNatClampNeg p2.toNatClampNeg) 1000 0 h29))
set_option maxRecDepth 100000 in
set_option maxHeartbeats 4000000 in
theorem c_X6_bringProduct (g : pq_g) {A : Nat → Prop} (hA : pq_A (SC g) A) (l : Launch) (p1 : Int32) (p2 : Int32) (h : pq_H) {rr : Bool} {hh : pq_H} (e : f_X6_bringProduct p1 p2 h = some (rr, hh)) : pq_M (SC g) A l yX6_bringProduct cX6_bringProduct 7 (some .boolean) 3 71 [.ref ((SC g).1.2.1 56), .int p1, .int p2] h (some (.int (b2i rr))) hh := by
  refine pq_met hA l (own := RX6) 3 71 _ [(0, .ref ((SC g).1.2.1 56)), (1, .int p1), (2, .int p2)] h _ hh (by decide +kernel) rfl (Nat.le_of_ble_eq_true rfl) rfl (fun X hXl hXA hB hK hR => ?_)
  refine V.cast (F' := f_X6_bringProduct p1 p2 h) (res' := (rr, hh)) (fun _ => e) ?_
  have hn98 : ∀ (h : pq_H), V X (SC g) (rr, hh) 7 98 [(0, .ref ((SC g).1.2.1 56))] [] h (f_X6_bringProduct_j98 h) := by
    intro h
    unfold f_X6_bringProduct_j98
    refine v_aload_n hB 0 dX6_bringProduct_98 rfl rfl ?_
    refine v_bWz (fun r99 h99 e99 => v_callV hB hK hR.rm [] [] (oC_56 g) lb_X6_settle lv_X6_122 (c_X6_settle g hK.A X.1.2.1 h e99) dX6_bringProduct_99 rfl rfl (Nat.le_of_ble_eq_true rfl) (by decide) (by decide)) (fun r99 h99 => ?_)
    exact v_retWz (x := r99) hB hK hR dX6_bringProduct_102
  have hn35 : ∀ (v3 : Nat) (hv3 : v3 < 12) (v4 : Nat) (hv4 : v4 < 12) (n : Nat), ∀ (v5 : Int32) (h : pq_H), V X (SC g) (rr, hh) 7 35 [(0, .ref ((SC g).1.2.1 56)), (3, .ref ((SC g).1.2.1 v3)), (4, .ref ((SC g).1.2.1 v4)), (5, .int v5)] [] h (lp (fun _ _ => none) (f_X6_bringProduct_l35 v3 v4) n v5 h) := by
    intro v3 hv3 v4 hv4
    refine lp_ind (fun (w35 : Int32 → pq_H → Option (Bool × pq_H)) => ∀ (v5 : Int32) (h : pq_H), V X (SC g) (rr, hh) 7 35 [(0, .ref ((SC g).1.2.1 56)), (3, .ref ((SC g).1.2.1 v3)), (4, .ref ((SC g).1.2.1 v4)), (5, .int v5)] [] h (w35 v5 h)) (fun _ _ => V.none _ _ _ _) (fun w35 ih35 => ?_)
    have hn92 : ∀ (v5 : Int32) (h : pq_H), V X (SC g) (rr, hh) 7 92 [(0, .ref ((SC g).1.2.1 56)), (3, .ref ((SC g).1.2.1 v3)), (4, .ref ((SC g).1.2.1 v4)), (5, .int v5)] [] h (f_X6_bringProduct_j92 w35 v5 h) := by
      intro v5 h
      unfold f_X6_bringProduct_j92
      refine v_iinc hB (v5 + 1) [(0, .ref ((SC g).1.2.1 56)), (3, .ref ((SC g).1.2.1 v3)), (4, .ref ((SC g).1.2.1 v4)), (5, .int (v5 + 1))] 3 [1, 2, 3, 0] dX6_bringProduct_92 rfl rfl (by decide) rfl ?_
      refine v_goto (tgt := 35) hB dX6_bringProduct_95 rfl ?_
      exact V.sub [0, 1, 2, 3] rfl (ih35 (v5 + 1) h)
    have hn47 : ∀ (v5 : Int32) (n : Nat), ∀ (v6 : Int32) (h : pq_H), V X (SC g) (rr, hh) 7 47 [(0, .ref ((SC g).1.2.1 56)), (3, .ref ((SC g).1.2.1 v3)), (4, .ref ((SC g).1.2.1 v4)), (5, .int v5), (6, .int v6)] [] h (lp (fun _ _ => none) (f_X6_bringProduct_l47 v3 v4 w35 v5) n v6 h) := by
      intro v5
      refine lp_ind (fun (w47 : Int32 → pq_H → Option (Bool × pq_H)) => ∀ (v6 : Int32) (h : pq_H), V X (SC g) (rr, hh) 7 47 [(0, .ref ((SC g).1.2.1 56)), (3, .ref ((SC g).1.2.1 v3)), (4, .ref ((SC g).1.2.1 v4)), (5, .int v5), (6, .int v6)] [] h (w47 v6 h)) (fun _ _ => V.none _ _ _ _) (fun w47 ih47 => ?_)
      intro v6 h
      unfold f_X6_bringProduct_l47
      refine v_iload hB 4 dX6_bringProduct_47 rfl ?_
      refine v_iload hB 3 dX6_bringProduct_49 rfl ?_
      refine v_icmp_gt (tgt := 92) hB dX6_bringProduct_51 rfl ?_ ?_
      · exact V.sub [0, 1, 2, 3] rfl (hn92 v5 h)
      · refine v_aload_n hB 0 dX6_bringProduct_54 rfl rfl ?_
        refine v_aload_n hB 1 dX6_bringProduct_55 rfl rfl ?_
        refine v_aload_n hB 1 dX6_bringProduct_56 rfl rfl ?_
        refine v_getI hB hK (fl_X6_43 g) (cI_Form_3 g v3 hv3) dX6_bringProduct_57 ?_
        refine v_iload hB 3 dX6_bringProduct_60 rfl ?_
        refine v_isub hB dX6_bringProduct_62 ?_
        refine v_iload hB 3 dX6_bringProduct_63 rfl ?_
        refine v_iload hB 4 dX6_bringProduct_65 rfl ?_
        refine v_isub hB dX6_bringProduct_67 ?_
        refine v_iload hB 4 dX6_bringProduct_68 rfl ?_
        refine v_bRi (fun r70 e70 => v_callV hB hK hR.rm [.int ((rI h v3 3) - v5), .int (v5 - v6), .int v6] [.ref ((SC g).1.2.1 56)] (o_Form g v3 hv3) lb_X1_has lv_X6_130 (c_X1_has g hK.A X.1.2.1 v3 hv3 ((rI h v3 3) - v5) (v5 - v6) v6 h e70) dX6_bringProduct_70 rfl rfl (Nat.le_of_ble_eq_true rfl) (by decide) (by decide)) (fun r70 => ?_)
        refine v_i2l hB dX6_bringProduct_73 ?_
        refine v_iload hB 3 dX6_bringProduct_74 rfl ?_
        refine v_iload hB 4 dX6_bringProduct_76 rfl ?_
        refine v_isub hB dX6_bringProduct_78 ?_
        refine v_iload hB 4 dX6_bringProduct_79 rfl ?_
        refine v_aload hB 2 dX6_bringProduct_81 rfl ?_
        refine v_bV (fun h83 e83 => v_callV hB hK hR.rm [.long r70.toInt64, .int (v5 - v6), .int v6, .ref ((SC g).1.2.1 v4)] [] (oC_56 g) lb_X6_addTimes lv_X6_134 (c_X6_addTimes g hK.A X.1.2.1 r70.toInt64 (v5 - v6) v6 v4 hv4 h e83) dX6_bringProduct_83 rfl rfl (Nat.le_of_ble_eq_true rfl) (by decide) (by decide)) (fun h83 => ?_)
        refine v_iinc hB (v6 + 1) [(0, .ref ((SC g).1.2.1 56)), (3, .ref ((SC g).1.2.1 v3)), (4, .ref ((SC g).1.2.1 v4)), (5, .int v5), (6, .int (v6 + 1))] 4 [1, 2, 3, 4, 0] dX6_bringProduct_86 rfl rfl (by decide) rfl ?_
        refine v_goto (tgt := 47) hB dX6_bringProduct_89 rfl ?_
        exact V.sub [0, 1, 2, 3, 4] rfl (ih47 (v6 + 1) h83)
    intro v5 h
    unfold f_X6_bringProduct_l35
    refine v_iload hB 3 dX6_bringProduct_35 rfl ?_
    refine v_aload_n hB 1 dX6_bringProduct_37 rfl rfl ?_
    refine v_getI hB hK (fl_X6_43 g) (cI_Form_3 g v3 hv3) dX6_bringProduct_38 ?_
    refine v_icmp_gt (tgt := 98) hB dX6_bringProduct_41 rfl ?_ ?_
    · exact V.sub [0] rfl (hn98 h)
    · refine v_iconst hB 0 dX6_bringProduct_44 (by decide) ?_
      refine v_istore hB [(0, .ref ((SC g).1.2.1 56)), (3, .ref ((SC g).1.2.1 v3)), (4, .ref ((SC g).1.2.1 v4)), (5, .int v5), (6, .int 0)] [1, 2, 3, 4, 0] dX6_bringProduct_45 (by decide) rfl ?_
      exact V.sub [0, 1, 2, 3, 4] rfl (hn47 v5 1000 0 h)
  unfold f_X6_bringProduct
  refine v_aload_n hB 0 dX6_bringProduct_0 rfl rfl ?_
  refine v_getA hB hK (fl_X6_11 g) (cCA_56_0 g) dX6_bringProduct_1 ?_
  refine v_iload_n hB 1 dX6_bringProduct_4 rfl rfl ?_
  refine v_aa57 hB hK dX6_bringProduct_5 (fun q5 => ?_)
  refine v_astore_n hB [(0, .ref ((SC g).1.2.1 56)), (1, .int p1), (2, .int p2), (3, .ref ((SC g).1.2.1 p1.toNatClampNeg))] [1, 2, 3, 0] dX6_bringProduct_6 rfl (by decide) rfl ?_
  refine v_aload_n hB 0 dX6_bringProduct_7 rfl rfl ?_
  refine v_getA hB hK (fl_X6_11 g) (cCA_56_0 g) dX6_bringProduct_8 ?_
  refine v_iload_n hB 2 dX6_bringProduct_11 rfl rfl ?_
  refine v_aa57 hB hK dX6_bringProduct_12 (fun q12 => ?_)
  refine v_astore hB [(0, .ref ((SC g).1.2.1 56)), (1, .int p1), (2, .int p2), (3, .ref ((SC g).1.2.1 p1.toNatClampNeg)), (4, .ref ((SC g).1.2.1 p2.toNatClampNeg))] [1, 2, 3, 4, 0] dX6_bringProduct_13 (by decide) rfl ?_
  refine v_aload_n hB 0 dX6_bringProduct_15 rfl rfl ?_
  refine v_getA hB hK (fl_X6_23 g) (cCA_56_2 g) dX6_bringProduct_16 ?_
  refine v_aload_n hB 3 dX6_bringProduct_19 rfl rfl ?_
  refine v_getI hB hK (fl_X6_43 g) (cI_Form_3 g p1.toNatClampNeg (lt6_12 q5)) dX6_bringProduct_20 ?_
  refine v_aload hB 4 dX6_bringProduct_23 rfl ?_
  refine v_getI hB hK (fl_X6_43 g) (cI_Form_3 g p2.toNatClampNeg (lt6_12 q12)) dX6_bringProduct_25 ?_
  refine v_iadd hB dX6_bringProduct_28 ?_
  refine v_bV (fun h29 e29 => v_callV hB hK hR.rm [.int ((rI h p1.toNatClampNeg 3) + (rI h p2.toNatClampNeg 3))] [] (oC_59 g) lb_X9_makeNought lv_X6_126 (c_X9_makeNought g hK.A X.1.2.1 ((rI h p1.toNatClampNeg 3) + (rI h p2.toNatClampNeg 3)) h e29) dX6_bringProduct_29 rfl rfl (Nat.le_of_ble_eq_true rfl) (by decide) (by decide)) (fun h29 => ?_)
  refine v_iconst hB 0 dX6_bringProduct_32 (by decide) ?_
  refine v_istore hB [(0, .ref ((SC g).1.2.1 56)), (1, .int p1), (2, .int p2), (3, .ref ((SC g).1.2.1 p1.toNatClampNeg)), (4, .ref ((SC g).1.2.1 p2.toNatClampNeg)), (5, .int 0)] [1, 2, 3, 4, 5, 0] dX6_bringProduct_33 (by decide) rfl ?_
  exact V.sub [0, 3, 4, 5] rfl (hn35 p1.toNatClampNeg (lt6_12 q5) p2.toNatClampNeg (lt6_12 q12) 1000 0 h29)

def f_X9_raiseOnce_j149 (w25 : Int32 → pq_H → Option pq_H) (v2 : Int32) (h : pq_H) : Option pq_H :=
  w25 (v2 + (-1)) h
def f_X9_raiseOnce_j130 (w25 : Int32 → pq_H → Option pq_H) (w31 : Int32 → pq_H → Option pq_H) (v3 : Int32) (v4 : Int32) (v5 : Int64) (h : pq_H) : Option pq_H :=
  gd (inb (f_X10_termOf v4 v3) 190) (w31 (v3 + (-1)) (wJ h 60 (f_X10_termOf v4 v3).toNatClampNeg v5))
def f_X9_raiseOnce_j102 (p1 : Int32) (w25 : Int32 → pq_H → Option pq_H) (w31 : Int32 → pq_H → Option pq_H) (v3 : Int32) (v4 : Int32) (v5 : Int64) (h : pq_H) : Option pq_H :=
  if (p1 &&& 4) = 0 then (f_X9_raiseOnce_j130 w25 w31 v3 v4 v5 h) else (if v3 ≤ 0 then (f_X9_raiseOnce_j130 w25 w31 v3 v4 v5 h) else (gd (inb (f_X10_termOf v4 (v3 - 1)) 190) (f_X9_raiseOnce_j130 w25 w31 v3 v4 (v5 + (rJ h 60 (f_X10_termOf v4 (v3 - 1)).toNatClampNeg)) h)))
def f_X9_raiseOnce_j73 (p1 : Int32) (w25 : Int32 → pq_H → Option pq_H) (w31 : Int32 → pq_H → Option pq_H) (v3 : Int32) (v4 : Int32) (v5 : Int64) (h : pq_H) : Option pq_H :=
  if (p1 &&& 2) = 0 then (f_X9_raiseOnce_j102 p1 w25 w31 v3 v4 v5 h) else (if v4 ≤ 0 then (f_X9_raiseOnce_j102 p1 w25 w31 v3 v4 v5 h) else (gd (inb (f_X10_termOf (v4 - 1) v3) 190) (f_X9_raiseOnce_j102 p1 w25 w31 v3 v4 (v5 + (rJ h 60 (f_X10_termOf (v4 - 1) v3).toNatClampNeg)) h)))
def f_X9_raiseOnce_l31 (p1 : Int32) (w25 : Int32 → pq_H → Option pq_H) (v2 : Int32) (w31 : Int32 → pq_H → Option pq_H) (v3 : Int32) (h : pq_H) : Option pq_H :=
  if v3 < 0 then (f_X9_raiseOnce_j149 w25 v2 h) else (if (p1 &&& 1) = 0 then (f_X9_raiseOnce_j73 p1 w25 w31 v3 (v2 - v3) 0 h) else (if (rI h 59 1) ≤ v2 then (f_X9_raiseOnce_j73 p1 w25 w31 v3 (v2 - v3) 0 h) else (gd (inb (f_X10_termOf (v2 - v3) v3) 190) (f_X9_raiseOnce_j73 p1 w25 w31 v3 (v2 - v3) (0 + (rJ h 60 (f_X10_termOf (v2 - v3) v3).toNatClampNeg)) h))))
def f_X9_raiseOnce_l25 (p1 : Int32) (w25 : Int32 → pq_H → Option pq_H) (v2 : Int32) (h : pq_H) : Option pq_H :=
  if v2 < 0 then (some h) else (lp (fun _ _ => none) (f_X9_raiseOnce_l31 p1 w25 v2) 1000 v2 h)
def f_X9_raiseOnce (p1 : Int32) (h : pq_H) : Option pq_H :=
  if (rI h 59 1) < 18 then (hl (wI h 59 1 ((rI h 59 1) + 1)) fun h17 => lp (fun _ _ => none) (f_X9_raiseOnce_l25 p1) 1000 (rI h17 59 1) h17) else (some h)
set_option maxRecDepth 100000 in
set_option maxHeartbeats 4000000 in
theorem c_X9_raiseOnce (g : pq_g) {A : Nat → Prop} (hA : pq_A (SC g) A) (l : Launch) (p1 : Int32) (h : pq_H) {hh : pq_H} (e : f_X9_raiseOnce p1 h = some hh) : pq_M (SC g) A l yX9_raiseOnce cX9_raiseOnce 7 none 1 21 [.ref ((SC g).1.2.1 59), .int p1] h none hh := by
  refine pq_met hA l (own := RX9) 1 21 _ [(0, .ref ((SC g).1.2.1 59)), (1, .int p1)] h _ hh (by decide +kernel) rfl (Nat.le_of_ble_eq_true rfl) rfl (fun X hXl hXA hB hK hR => ?_)
  refine V.cast (F' := f_X9_raiseOnce p1 h) (res' := hh) (fun _ => e) ?_
  have hn25 : ∀ (n : Nat), ∀ (v2 : Int32) (h : pq_H), V X (SC g) hh 7 25 [(0, .ref ((SC g).1.2.1 59)), (1, .int p1), (2, .int v2)] [] h (lp (fun _ _ => none) (f_X9_raiseOnce_l25 p1) n v2 h) := by
    refine lp_ind (fun (w25 : Int32 → pq_H → Option pq_H) => ∀ (v2 : Int32) (h : pq_H), V X (SC g) hh 7 25 [(0, .ref ((SC g).1.2.1 59)), (1, .int p1), (2, .int v2)] [] h (w25 v2 h)) (fun _ _ => V.none _ _ _ _) (fun w25 ih25 => ?_)
    have hn149 : ∀ (v2 : Int32) (h : pq_H), V X (SC g) hh 7 149 [(0, .ref ((SC g).1.2.1 59)), (1, .int p1), (2, .int v2)] [] h (f_X9_raiseOnce_j149 w25 v2 h) := by
      intro v2 h
      unfold f_X9_raiseOnce_j149
      refine v_iinc hB (v2 + (-1)) [(0, .ref ((SC g).1.2.1 59)), (1, .int p1), (2, .int (v2 + (-1)))] 2 [1, 2, 0] dX9_raiseOnce_149 rfl rfl (by decide) rfl ?_
      refine v_goto (tgt := 25) hB dX9_raiseOnce_152 rfl ?_
      exact V.sub [0, 1, 2] rfl (ih25 (v2 + (-1)) h)
    have hn31 : ∀ (v2 : Int32) (n : Nat), ∀ (v3 : Int32) (h : pq_H), V X (SC g) hh 7 31 [(0, .ref ((SC g).1.2.1 59)), (1, .int p1), (2, .int v2), (3, .int v3)] [] h (lp (fun _ _ => none) (f_X9_raiseOnce_l31 p1 w25 v2) n v3 h) := by
      intro v2
      refine lp_ind (fun (w31 : Int32 → pq_H → Option pq_H) => ∀ (v3 : Int32) (h : pq_H), V X (SC g) hh 7 31 [(0, .ref ((SC g).1.2.1 59)), (1, .int p1), (2, .int v2), (3, .int v3)] [] h (w31 v3 h)) (fun _ _ => V.none _ _ _ _) (fun w31 ih31 => ?_)
      have hn130 : ∀ (v3 : Int32) (v4 : Int32) (v5 : Int64) (h : pq_H), V X (SC g) hh 7 130 [(0, .ref ((SC g).1.2.1 59)), (1, .int p1), (2, .int v2), (3, .int v3), (4, .int v4), (5, .long v5)] [] h (f_X9_raiseOnce_j130 w25 w31 v3 v4 v5 h) := by
        intro v3 v4 v5 h
        unfold f_X9_raiseOnce_j130
        refine v_aload_n hB 0 dX9_raiseOnce_130 rfl rfl ?_
        refine v_getA hB hK (fl_X9_9 g) (cCA_59_0 g) dX9_raiseOnce_131 ?_
        refine v_iload hB 4 dX9_raiseOnce_134 rfl ?_
        refine v_iload_n hB 3 dX9_raiseOnce_136 rfl rfl ?_
        refine v_bT (v_callSN hB hK hR.rm [.int v4, .int v3] [.ref ((SC g).1.2.1 60)] lb_X10_termOf (nk_X9_26 g) lv_X9_26 (c_X10_termOf g hK.A X.1.2.1 v4 v3 h) dX9_raiseOnce_137 rfl rfl (Nat.le_of_ble_eq_true rfl) (by decide) (by decide)) ?_
        refine v_lload hB 5 dX9_raiseOnce_140 rfl ?_
        refine v_last hB hK (aCJ_60 g) dX9_raiseOnce_142 ?_
        refine v_iinc hB (v3 + (-1)) [(0, .ref ((SC g).1.2.1 59)), (1, .int p1), (2, .int v2), (3, .int (v3 + (-1))), (4, .int v4), (5, .long v5)] 3 [1, 2, 3, 0, 4, 5] dX9_raiseOnce_143 rfl rfl (by decide) rfl ?_
        refine v_goto (tgt := 31) hB dX9_raiseOnce_146 rfl ?_
        exact V.sub [0, 1, 2, 3] rfl (ih31 (v3 + (-1)) (wJ h 60 (f_X10_termOf v4 v3).toNatClampNeg v5))
      have hn102 : ∀ (v3 : Int32) (v4 : Int32) (v5 : Int64) (h : pq_H), V X (SC g) hh 7 102 [(0, .ref ((SC g).1.2.1 59)), (1, .int p1), (2, .int v2), (3, .int v3), (4, .int v4), (5, .long v5)] [] h (f_X9_raiseOnce_j102 p1 w25 w31 v3 v4 v5 h) := by
        intro v3 v4 v5 h
        unfold f_X9_raiseOnce_j102
        refine v_iload_n hB 1 dX9_raiseOnce_102 rfl rfl ?_
        refine v_iconst hB 4 dX9_raiseOnce_103 (by decide) ?_
        refine v_iand hB dX9_raiseOnce_104 ?_
        refine v_if_eq (tgt := 130) hB dX9_raiseOnce_105 rfl ?_ ?_
        · exact V.sub [0, 1, 2, 3, 4, 5] rfl (hn130 v3 v4 v5 h)
        · refine v_iload_n hB 3 dX9_raiseOnce_108 rfl rfl ?_
          refine v_if_le (tgt := 130) hB dX9_raiseOnce_109 rfl ?_ ?_
          · exact V.sub [0, 1, 2, 3, 4, 5] rfl (hn130 v3 v4 v5 h)
          · refine v_lload hB 5 dX9_raiseOnce_112 rfl ?_
            refine v_aload_n hB 0 dX9_raiseOnce_114 rfl rfl ?_
            refine v_getA hB hK (fl_X9_9 g) (cCA_59_0 g) dX9_raiseOnce_115 ?_
            refine v_iload hB 4 dX9_raiseOnce_118 rfl ?_
            refine v_iload_n hB 3 dX9_raiseOnce_120 rfl rfl ?_
            refine v_iconst hB 1 dX9_raiseOnce_121 (by decide) ?_
            refine v_isub hB dX9_raiseOnce_122 ?_
            refine v_bT (v_callSN hB hK hR.rm [.int v4, .int (v3 - 1)] [.ref ((SC g).1.2.1 60), .long v5] lb_X10_termOf (nk_X9_26 g) lv_X9_26 (c_X10_termOf g hK.A X.1.2.1 v4 (v3 - 1) h) dX9_raiseOnce_123 rfl rfl (Nat.le_of_ble_eq_true rfl) (by decide) (by decide)) ?_
            refine v_lald hB hK (aCJ_60 g) dX9_raiseOnce_126 ?_
            refine v_ladd hB dX9_raiseOnce_127 ?_
            refine v_lstore hB [(0, .ref ((SC g).1.2.1 59)), (1, .int p1), (2, .int v2), (3, .int v3), (4, .int v4), (5, .long (v5 + (rJ h 60 (f_X10_termOf v4 (v3 - 1)).toNatClampNeg)))] [1, 2, 3, 4, 5, 0] dX9_raiseOnce_128 (by decide) rfl ?_
            exact V.sub [0, 1, 2, 3, 4, 5] rfl (hn130 v3 v4 (v5 + (rJ h 60 (f_X10_termOf v4 (v3 - 1)).toNatClampNeg)) h)
      have hn73 : ∀ (v3 : Int32) (v4 : Int32) (v5 : Int64) (h : pq_H), V X (SC g) hh 7 73 [(0, .ref ((SC g).1.2.1 59)), (1, .int p1), (2, .int v2), (3, .int v3), (4, .int v4), (5, .long v5)] [] h (f_X9_raiseOnce_j73 p1 w25 w31 v3 v4 v5 h) := by
        intro v3 v4 v5 h
        unfold f_X9_raiseOnce_j73
        refine v_iload_n hB 1 dX9_raiseOnce_73 rfl rfl ?_
        refine v_iconst hB 2 dX9_raiseOnce_74 (by decide) ?_
        refine v_iand hB dX9_raiseOnce_75 ?_
        refine v_if_eq (tgt := 102) hB dX9_raiseOnce_76 rfl ?_ ?_
        · exact V.sub [0, 1, 2, 3, 4, 5] rfl (hn102 v3 v4 v5 h)
        · refine v_iload hB 4 dX9_raiseOnce_79 rfl ?_
          refine v_if_le (tgt := 102) hB dX9_raiseOnce_81 rfl ?_ ?_
          · exact V.sub [0, 1, 2, 3, 4, 5] rfl (hn102 v3 v4 v5 h)
          · refine v_lload hB 5 dX9_raiseOnce_84 rfl ?_
            refine v_aload_n hB 0 dX9_raiseOnce_86 rfl rfl ?_
            refine v_getA hB hK (fl_X9_9 g) (cCA_59_0 g) dX9_raiseOnce_87 ?_
            refine v_iload hB 4 dX9_raiseOnce_90 rfl ?_
            refine v_iconst hB 1 dX9_raiseOnce_92 (by decide) ?_
            refine v_isub hB dX9_raiseOnce_93 ?_
            refine v_iload_n hB 3 dX9_raiseOnce_94 rfl rfl ?_
            refine v_bT (v_callSN hB hK hR.rm [.int (v4 - 1), .int v3] [.ref ((SC g).1.2.1 60), .long v5] lb_X10_termOf (nk_X9_26 g) lv_X9_26 (c_X10_termOf g hK.A X.1.2.1 (v4 - 1) v3 h) dX9_raiseOnce_95 rfl rfl (Nat.le_of_ble_eq_true rfl) (by decide) (by decide)) ?_
            refine v_lald hB hK (aCJ_60 g) dX9_raiseOnce_98 ?_
            refine v_ladd hB dX9_raiseOnce_99 ?_
            refine v_lstore hB [(0, .ref ((SC g).1.2.1 59)), (1, .int p1), (2, .int v2), (3, .int v3), (4, .int v4), (5, .long (v5 + (rJ h 60 (f_X10_termOf (v4 - 1) v3).toNatClampNeg)))] [1, 2, 3, 4, 5, 0] dX9_raiseOnce_100 (by decide) rfl ?_
            exact V.sub [0, 1, 2, 3, 4, 5] rfl (hn102 v3 v4 (v5 + (rJ h 60 (f_X10_termOf (v4 - 1) v3).toNatClampNeg)) h)
      intro v3 h
      unfold f_X9_raiseOnce_l31
      refine v_iload_n hB 3 dX9_raiseOnce_31 rfl rfl ?_
      refine v_if_lt (tgt := 149) hB dX9_raiseOnce_32 rfl ?_ ?_
      · exact V.sub [0, 1, 2] rfl (hn149 v2 h)
      · refine v_iload_n hB 2 dX9_raiseOnce_35 rfl rfl ?_
        refine v_iload_n hB 3 dX9_raiseOnce_36 rfl rfl ?_
        refine v_isub hB dX9_raiseOnce_37 ?_
        refine v_istore hB [(0, .ref ((SC g).1.2.1 59)), (1, .int p1), (2, .int v2), (3, .int v3), (4, .int (v2 - v3))] [1, 2, 3, 4, 0] dX9_raiseOnce_38 (by decide) rfl ?_
        refine v_lconst hB 0 dX9_raiseOnce_40 (by decide) ?_
        refine v_lstore hB [(0, .ref ((SC g).1.2.1 59)), (1, .int p1), (2, .int v2), (3, .int v3), (4, .int (v2 - v3)), (5, .long 0)] [1, 2, 3, 4, 5, 0] dX9_raiseOnce_41 (by decide) rfl ?_
        refine v_iload_n hB 1 dX9_raiseOnce_43 rfl rfl ?_
        refine v_iconst hB 1 dX9_raiseOnce_44 (by decide) ?_
        refine v_iand hB dX9_raiseOnce_45 ?_
        refine v_if_eq (tgt := 73) hB dX9_raiseOnce_46 rfl ?_ ?_
        · exact V.sub [0, 1, 2, 3, 4, 5] rfl (hn73 v3 (v2 - v3) 0 h)
        · refine v_iload_n hB 2 dX9_raiseOnce_49 rfl rfl ?_
          refine v_aload_n hB 0 dX9_raiseOnce_50 rfl rfl ?_
          refine v_getI hB hK (fl_X9_15 g) (cCI_59_1 g) dX9_raiseOnce_51 ?_
          refine v_icmp_ge (tgt := 73) hB dX9_raiseOnce_54 rfl ?_ ?_
          · exact V.sub [0, 1, 2, 3, 4, 5] rfl (hn73 v3 (v2 - v3) 0 h)
          · refine v_lload hB 5 dX9_raiseOnce_57 rfl ?_
            refine v_aload_n hB 0 dX9_raiseOnce_59 rfl rfl ?_
            refine v_getA hB hK (fl_X9_9 g) (cCA_59_0 g) dX9_raiseOnce_60 ?_
            refine v_iload hB 4 dX9_raiseOnce_63 rfl ?_
            refine v_iload_n hB 3 dX9_raiseOnce_65 rfl rfl ?_
            refine v_bT (v_callSN hB hK hR.rm [.int (v2 - v3), .int v3] [.ref ((SC g).1.2.1 60), .long 0] lb_X10_termOf (nk_X9_26 g) lv_X9_26 (c_X10_termOf g hK.A X.1.2.1 (v2 - v3) v3 h) dX9_raiseOnce_66 rfl rfl (Nat.le_of_ble_eq_true rfl) (by decide) (by decide)) ?_
            refine v_lald hB hK (aCJ_60 g) dX9_raiseOnce_69 ?_
            refine v_ladd hB dX9_raiseOnce_70 ?_
            refine v_lstore hB [(0, .ref ((SC g).1.2.1 59)), (1, .int p1), (2, .int v2), (3, .int v3), (4, .int (v2 - v3)), (5, .long (0 + (rJ h 60 (f_X10_termOf (v2 - v3) v3).toNatClampNeg)))] [1, 2, 3, 4, 5, 0] dX9_raiseOnce_71 (by decide) rfl ?_
            exact V.sub [0, 1, 2, 3, 4, 5] rfl (hn73 v3 (v2 - v3) (0 + (rJ h 60 (f_X10_termOf (v2 - v3) v3).toNatClampNeg)) h)
    intro v2 h
    unfold f_X9_raiseOnce_l25
    refine v_iload_n hB 2 dX9_raiseOnce_25 rfl rfl ?_
    refine v_if_lt (tgt := 155) hB dX9_raiseOnce_26 rfl ?_ ?_
    · exact v_retWv hB hK hR dX9_raiseOnce_155
    · refine v_iload_n hB 2 dX9_raiseOnce_29 rfl rfl ?_
      refine v_istore_n hB [(0, .ref ((SC g).1.2.1 59)), (1, .int p1), (2, .int v2), (3, .int v2)] [1, 2, 3, 0] dX9_raiseOnce_30 rfl (by decide) rfl ?_
      exact V.sub [0, 1, 2, 3] rfl (hn31 v2 1000 v2 h)
  unfold f_X9_raiseOnce
  refine v_aload_n hB 0 dX9_raiseOnce_0 rfl rfl ?_
  refine v_getI hB hK (fl_X9_15 g) (cCI_59_1 g) dX9_raiseOnce_1 ?_
  refine v_bipush hB 18 dX9_raiseOnce_4 (by decide) ?_
  refine v_icmp_lt (tgt := 10) hB dX9_raiseOnce_6 rfl ?_ ?_
  · refine v_aload_n hB 0 dX9_raiseOnce_10 rfl rfl ?_
    refine v_dup hB dX9_raiseOnce_11 rfl ?_
    refine v_getI hB hK (fl_X9_15 g) (cCI_59_1 g) dX9_raiseOnce_12 ?_
    refine v_iconst hB 1 dX9_raiseOnce_15 (by decide) ?_
    refine v_iadd hB dX9_raiseOnce_16 ?_
    refine v_putI hB hK (fl_X9_15 g) (fin_X9_1 g) (cCI_59_1 g) dX9_raiseOnce_17 ?_
    refine v_hl (fun h17 => ?_)
    refine v_aload_n hB 0 dX9_raiseOnce_20 rfl rfl ?_
    refine v_getI hB hK (fl_X9_15 g) (cCI_59_1 g) dX9_raiseOnce_21 ?_
    refine v_istore_n hB [(0, .ref ((SC g).1.2.1 59)), (1, .int p1), (2, .int (rI h17 59 1))] [1, 2, 0] dX9_raiseOnce_24 rfl (by decide) rfl ?_
    exact V.sub [0, 1, 2] rfl (hn25 1000 (rI h17 59 1) h17)
  · exact v_retWv hB hK hR dX9_raiseOnce_9

def f_X9_raise_l2 (p1 : Int32) (p2 : Int32) (w2 : Int32 → pq_H → Option pq_H) (v3 : Int32) (h : pq_H) : Option pq_H :=
  if p2 ≤ v3 then (some h) else ((f_X9_raiseOnce p1 h).bind fun h9 => w2 (v3 + 1) h9)
def f_X9_raise (p1 : Int32) (p2 : Int32) (h : pq_H) : Option pq_H :=
  lp (fun _ _ => none) (f_X9_raise_l2 p1 p2) 1000 0 h
set_option maxRecDepth 100000 in
set_option maxHeartbeats 4000000 in
theorem c_X9_raise (g : pq_g) {A : Nat → Prop} (hA : pq_A (SC g) A) (l : Launch) (p1 : Int32) (p2 : Int32) (h : pq_H) {hh : pq_H} (e : f_X9_raise p1 p2 h = some hh) : pq_M (SC g) A l yX9_raise cX9_raise 4 none 2 47 [.ref ((SC g).1.2.1 59), .int p1, .int p2] h none hh := by
  refine pq_met hA l (own := RX9) 2 47 _ [(0, .ref ((SC g).1.2.1 59)), (1, .int p1), (2, .int p2)] h _ hh (by decide +kernel) rfl (Nat.le_of_ble_eq_true rfl) rfl (fun X hXl hXA hB hK hR => ?_)
  refine V.cast (F' := f_X9_raise p1 p2 h) (res' := hh) (fun _ => e) ?_
  have hn2 : ∀ (n : Nat), ∀ (v3 : Int32) (h : pq_H), V X (SC g) hh 4 2 [(0, .ref ((SC g).1.2.1 59)), (1, .int p1), (2, .int p2), (3, .int v3)] [] h (lp (fun _ _ => none) (f_X9_raise_l2 p1 p2) n v3 h) := by
    refine lp_ind (fun (w2 : Int32 → pq_H → Option pq_H) => ∀ (v3 : Int32) (h : pq_H), V X (SC g) hh 4 2 [(0, .ref ((SC g).1.2.1 59)), (1, .int p1), (2, .int p2), (3, .int v3)] [] h (w2 v3 h)) (fun _ _ => V.none _ _ _ _) (fun w2 ih2 => ?_)
    intro v3 h
    unfold f_X9_raise_l2
    refine v_iload_n hB 3 dX9_raise_2 rfl rfl ?_
    refine v_iload_n hB 2 dX9_raise_3 rfl rfl ?_
    refine v_icmp_ge (tgt := 18) hB dX9_raise_4 rfl ?_ ?_
    · exact v_retWv hB hK hR dX9_raise_18
    · refine v_aload_n hB 0 dX9_raise_7 rfl rfl ?_
      refine v_iload_n hB 1 dX9_raise_8 rfl rfl ?_
      refine v_bV (fun h9 e9 => v_callV hB hK hR.rm [.int p1] [] (oC_59 g) lb_X9_raiseOnce lv_X9_38 (c_X9_raiseOnce g hK.A X.1.2.1 p1 h e9) dX9_raise_9 rfl rfl (Nat.le_of_ble_eq_true rfl) (by decide) (by decide)) (fun h9 => ?_)
      refine v_iinc hB (v3 + 1) [(0, .ref ((SC g).1.2.1 59)), (1, .int p1), (2, .int p2), (3, .int (v3 + 1))] 3 [1, 2, 3, 0] dX9_raise_12 rfl rfl (by decide) rfl ?_
      refine v_goto (tgt := 2) hB dX9_raise_15 rfl ?_
      exact V.sub [0, 1, 2, 3] rfl (ih2 (v3 + 1) h9)
  unfold f_X9_raise
  refine v_iconst hB 0 dX9_raise_0 (by decide) ?_
  refine v_istore_n hB [(0, .ref ((SC g).1.2.1 59)), (1, .int p1), (2, .int p2), (3, .int 0)] [1, 2, 3, 0] dX9_raise_1 rfl (by decide) rfl ?_
  exact V.sub [0, 1, 2, 3] rfl (hn2 1000 0 h)

def f_X6_bringLift (p1 : Int32) (p2 : Int32) (h : pq_H) : Option (Bool × pq_H) :=
  if p2 ≤ 6 then (gd (inb p1 6) ((f_X9_takeOn p1.toNatClampNeg 7 h).bind fun h20 => (f_X9_raise 7 p2 h20).bind fun h30 => bd2 (f_X6_settle h30) fun r34 h34 => some (r34, h34))) else (some (false, h))
set_option maxRecDepth 100000 in
set_option maxHeartbeats 4000000 in
theorem c_X6_bringLift (g : pq_g) {A : Nat → Prop} (hA : pq_A (SC g) A) (l : Launch) (p1 : Int32) (p2 : Int32) (h : pq_H) {rr : Bool} {hh : pq_H} (e : f_X6_bringLift p1 p2 h = some (rr, hh)) : pq_M (SC g) A l yX6_bringLift cX6_bringLift 3 (some .boolean) 3 70 [.ref ((SC g).1.2.1 56), .int p1, .int p2] h (some (.int (b2i rr))) hh := by
  refine pq_met hA l (own := RX6) 3 70 _ [(0, .ref ((SC g).1.2.1 56)), (1, .int p1), (2, .int p2)] h _ hh (by decide +kernel) rfl (Nat.le_of_ble_eq_true rfl) rfl (fun X hXl hXA hB hK hR => ?_)
  refine V.cast (F' := f_X6_bringLift p1 p2 h) (res' := (rr, hh)) (fun _ => e) ?_
  unfold f_X6_bringLift
  refine v_iload_n hB 2 dX6_bringLift_0 rfl rfl ?_
  refine v_bipush hB 6 dX6_bringLift_1 (by decide) ?_
  refine v_icmp_le (tgt := 8) hB dX6_bringLift_3 rfl ?_ ?_
  · refine v_aload_n hB 0 dX6_bringLift_8 rfl rfl ?_
    refine v_getA hB hK (fl_X6_23 g) (cCA_56_2 g) dX6_bringLift_9 ?_
    refine v_aload_n hB 0 dX6_bringLift_12 rfl rfl ?_
    refine v_getA hB hK (fl_X6_11 g) (cCA_56_0 g) dX6_bringLift_13 ?_
    refine v_iload_n hB 1 dX6_bringLift_16 rfl rfl ?_
    refine v_aa57 hB hK dX6_bringLift_17 (fun q17 => ?_)
    refine v_bipush hB 7 dX6_bringLift_18 (by decide) ?_
    refine v_bV (fun h20 e20 => v_callV hB hK hR.rm [.ref ((SC g).1.2.1 p1.toNatClampNeg), .int 7] [] (oC_59 g) lb_X9_takeOn lv_X6_113 (c_X9_takeOn g hK.A X.1.2.1 p1.toNatClampNeg (lt6_12 q17) 7 h e20) dX6_bringLift_20 rfl rfl (Nat.le_of_ble_eq_true rfl) (by decide) (by decide)) (fun h20 => ?_)
    refine v_aload_n hB 0 dX6_bringLift_23 rfl rfl ?_
    refine v_getA hB hK (fl_X6_23 g) (cCA_56_2 g) dX6_bringLift_24 ?_
    refine v_bipush hB 7 dX6_bringLift_27 (by decide) ?_
    refine v_iload_n hB 2 dX6_bringLift_29 rfl rfl ?_
    refine v_bV (fun h30 e30 => v_callV hB hK hR.rm [.int 7, .int p2] [] (oC_59 g) lb_X9_raise lv_X6_142 (c_X9_raise g hK.A X.1.2.1 7 p2 h20 e30) dX6_bringLift_30 rfl rfl (Nat.le_of_ble_eq_true rfl) (by decide) (by decide)) (fun h30 => ?_)
    refine v_aload_n hB 0 dX6_bringLift_33 rfl rfl ?_
    refine v_bWz (fun r34 h34 e34 => v_callV hB hK hR.rm [] [] (oC_56 g) lb_X6_settle lv_X6_122 (c_X6_settle g hK.A X.1.2.1 h30 e34) dX6_bringLift_34 rfl rfl (Nat.le_of_ble_eq_true rfl) (by decide) (by decide)) (fun r34 h34 => ?_)
    exact v_retWz (x := r34) hB hK hR dX6_bringLift_37
  · refine v_iconst hB 0 dX6_bringLift_6 (by decide) ?_
    exact v_retWz (x := false) hB hK hR dX6_bringLift_7

def f_X6_bringNegative_j56 (h : pq_H) : Option (Bool × pq_H) :=
  bd2 (f_X6_settle h) fun r57 h57 => some (r57, h57)
def f_X6_bringNegative_l17 (w17 : Int32 → pq_H → Option (Bool × pq_H)) (v2 : Int32) (h : pq_H) : Option (Bool × pq_H) :=
  if (f_X10_termsOf (rI h 59 1)) ≤ v2 then (f_X6_bringNegative_j56 h) else (gd (inb v2 190) (gd (inb v2 190) (w17 (v2 + 1) (wJ h 60 v2.toNatClampNeg (-(rJ h 60 v2.toNatClampNeg))))))
def f_X6_bringNegative (p1 : Int32) (h : pq_H) : Option (Bool × pq_H) :=
  gd (inb p1 6) ((f_X9_takeOn p1.toNatClampNeg 7 h).bind fun h12 => lp (fun _ _ => none) (f_X6_bringNegative_l17) 1000 0 h12)
set_option maxRecDepth 100000 in
set_option maxHeartbeats 4000000 in
theorem c_X6_bringNegative (g : pq_g) {A : Nat → Prop} (hA : pq_A (SC g) A) (l : Launch) (p1 : Int32) (h : pq_H) {rr : Bool} {hh : pq_H} (e : f_X6_bringNegative p1 h = some (rr, hh)) : pq_M (SC g) A l yX6_bringNegative cX6_bringNegative 3 (some .boolean) 3 70 [.ref ((SC g).1.2.1 56), .int p1] h (some (.int (b2i rr))) hh := by
  refine pq_met hA l (own := RX6) 3 70 _ [(0, .ref ((SC g).1.2.1 56)), (1, .int p1)] h _ hh (by decide +kernel) rfl (Nat.le_of_ble_eq_true rfl) rfl (fun X hXl hXA hB hK hR => ?_)
  refine V.cast (F' := f_X6_bringNegative p1 h) (res' := (rr, hh)) (fun _ => e) ?_
  have hn56 : ∀ (h : pq_H), V X (SC g) (rr, hh) 3 56 [(0, .ref ((SC g).1.2.1 56))] [] h (f_X6_bringNegative_j56 h) := by
    intro h
    unfold f_X6_bringNegative_j56
    refine v_aload_n hB 0 dX6_bringNegative_56 rfl rfl ?_
    refine v_bWz (fun r57 h57 e57 => v_callV hB hK hR.rm [] [] (oC_56 g) lb_X6_settle lv_X6_122 (c_X6_settle g hK.A X.1.2.1 h e57) dX6_bringNegative_57 rfl rfl (Nat.le_of_ble_eq_true rfl) (by decide) (by decide)) (fun r57 h57 => ?_)
    exact v_retWz (x := r57) hB hK hR dX6_bringNegative_60
  have hn17 : ∀ (n : Nat), ∀ (v2 : Int32) (h : pq_H), V X (SC g) (rr, hh) 3 17 [(0, .ref ((SC g).1.2.1 56)), (2, .int v2)] [] h (lp (fun _ _ => none) (f_X6_bringNegative_l17) n v2 h) := by
    refine lp_ind (fun (w17 : Int32 → pq_H → Option (Bool × pq_H)) => ∀ (v2 : Int32) (h : pq_H), V X (SC g) (rr, hh) 3 17 [(0, .ref ((SC g).1.2.1 56)), (2, .int v2)] [] h (w17 v2 h)) (fun _ _ => V.none _ _ _ _) (fun w17 ih17 => ?_)
    intro v2 h
    unfold f_X6_bringNegative_l17
    refine v_iload_n hB 1 dX6_bringNegative_17 rfl rfl ?_
    refine v_aload_n hB 0 dX6_bringNegative_18 rfl rfl ?_
    refine v_getA hB hK (fl_X6_23 g) (cCA_56_2 g) dX6_bringNegative_19 ?_
    refine v_getI hB hK (fl_X6_117 g) (cCI_59_1 g) dX6_bringNegative_22 ?_
    refine v_bT (v_callSN hB hK hR.rm [.int (rI h 59 1)] [.int v2] lb_X10_termsOf (nk_X6_46 g) lv_X6_46 (c_X10_termsOf g hK.A X.1.2.1 (rI h 59 1) h) dX6_bringNegative_25 rfl rfl (Nat.le_of_ble_eq_true rfl) (by decide) (by decide)) ?_
    refine v_icmp_ge (tgt := 56) hB dX6_bringNegative_28 rfl ?_ ?_
    · exact V.sub [0] rfl (hn56 h)
    · refine v_aload_n hB 0 dX6_bringNegative_31 rfl rfl ?_
      refine v_getA hB hK (fl_X6_23 g) (cCA_56_2 g) dX6_bringNegative_32 ?_
      refine v_getA hB hK (fl_X6_118 g) (cCA_59_0 g) dX6_bringNegative_35 ?_
      refine v_iload_n hB 1 dX6_bringNegative_38 rfl rfl ?_
      refine v_aload_n hB 0 dX6_bringNegative_39 rfl rfl ?_
      refine v_getA hB hK (fl_X6_23 g) (cCA_56_2 g) dX6_bringNegative_40 ?_
      refine v_getA hB hK (fl_X6_118 g) (cCA_59_0 g) dX6_bringNegative_43 ?_
      refine v_iload_n hB 1 dX6_bringNegative_46 rfl rfl ?_
      refine v_lald hB hK (aCJ_60 g) dX6_bringNegative_47 ?_
      refine v_lneg hB dX6_bringNegative_48 ?_
      refine v_last hB hK (aCJ_60 g) dX6_bringNegative_49 ?_
      refine v_iinc hB (v2 + 1) [(0, .ref ((SC g).1.2.1 56)), (2, .int (v2 + 1))] 1 [1, 0] dX6_bringNegative_50 rfl rfl (by decide) rfl ?_
      refine v_goto (tgt := 17) hB dX6_bringNegative_53 rfl ?_
      exact V.sub [0, 1] rfl (ih17 (v2 + 1) (wJ h 60 v2.toNatClampNeg (-(rJ h 60 v2.toNatClampNeg))))
  unfold f_X6_bringNegative
  refine v_aload_n hB 0 dX6_bringNegative_0 rfl rfl ?_
  refine v_getA hB hK (fl_X6_23 g) (cCA_56_2 g) dX6_bringNegative_1 ?_
  refine v_aload_n hB 0 dX6_bringNegative_4 rfl rfl ?_
  refine v_getA hB hK (fl_X6_11 g) (cCA_56_0 g) dX6_bringNegative_5 ?_
  refine v_iload_n hB 1 dX6_bringNegative_8 rfl rfl ?_
  refine v_aa57 hB hK dX6_bringNegative_9 (fun q9 => ?_)
  refine v_bipush hB 7 dX6_bringNegative_10 (by decide) ?_
  refine v_bV (fun h12 e12 => v_callV hB hK hR.rm [.ref ((SC g).1.2.1 p1.toNatClampNeg), .int 7] [] (oC_59 g) lb_X9_takeOn lv_X6_113 (c_X9_takeOn g hK.A X.1.2.1 p1.toNatClampNeg (lt6_12 q9) 7 h e12) dX6_bringNegative_12 rfl rfl (Nat.le_of_ble_eq_true rfl) (by decide) (by decide)) (fun h12 => ?_)
  refine v_iconst hB 0 dX6_bringNegative_15 (by decide) ?_
  refine v_istore_n hB [(0, .ref ((SC g).1.2.1 56)), (1, .int p1), (2, .int 0)] [1, 2, 0] dX6_bringNegative_16 rfl (by decide) rfl ?_
  exact V.sub [0, 2] rfl (hn17 1000 0 h12)

def f_X6_bringOn (p1 : Int32) (p2 : Int32) (h : pq_H) : Option (Bool × pq_H) :=
  gd (inb p1 6) ((f_X9_takeOn p1.toNatClampNeg p2 h).bind fun h11 => bd2 (f_X6_settle h11) fun r15 h15 => some (r15, h15))
set_option maxRecDepth 100000 in
set_option maxHeartbeats 4000000 in
theorem c_X6_bringOn (g : pq_g) {A : Nat → Prop} (hA : pq_A (SC g) A) (l : Launch) (p1 : Int32) (p2 : Int32) (h : pq_H) {rr : Bool} {hh : pq_H} (e : f_X6_bringOn p1 p2 h = some (rr, hh)) : pq_M (SC g) A l yX6_bringOn cX6_bringOn 3 (some .boolean) 3 70 [.ref ((SC g).1.2.1 56), .int p1, .int p2] h (some (.int (b2i rr))) hh := by
  refine pq_met hA l (own := RX6) 3 70 _ [(0, .ref ((SC g).1.2.1 56)), (1, .int p1), (2, .int p2)] h _ hh (by decide +kernel) rfl (Nat.le_of_ble_eq_true rfl) rfl (fun X hXl hXA hB hK hR => ?_)
  refine V.cast (F' := f_X6_bringOn p1 p2 h) (res' := (rr, hh)) (fun _ => e) ?_
  unfold f_X6_bringOn
  refine v_aload_n hB 0 dX6_bringOn_0 rfl rfl ?_
  refine v_getA hB hK (fl_X6_23 g) (cCA_56_2 g) dX6_bringOn_1 ?_
  refine v_aload_n hB 0 dX6_bringOn_4 rfl rfl ?_
  refine v_getA hB hK (fl_X6_11 g) (cCA_56_0 g) dX6_bringOn_5 ?_
  refine v_iload_n hB 1 dX6_bringOn_8 rfl rfl ?_
  refine v_aa57 hB hK dX6_bringOn_9 (fun q9 => ?_)
  refine v_iload_n hB 2 dX6_bringOn_10 rfl rfl ?_
  refine v_bV (fun h11 e11 => v_callV hB hK hR.rm [.ref ((SC g).1.2.1 p1.toNatClampNeg), .int p2] [] (oC_59 g) lb_X9_takeOn lv_X6_113 (c_X9_takeOn g hK.A X.1.2.1 p1.toNatClampNeg (lt6_12 q9) p2 h e11) dX6_bringOn_11 rfl rfl (Nat.le_of_ble_eq_true rfl) (by decide) (by decide)) (fun h11 => ?_)
  refine v_aload_n hB 0 dX6_bringOn_14 rfl rfl ?_
  refine v_bWz (fun r15 h15 e15 => v_callV hB hK hR.rm [] [] (oC_56 g) lb_X6_settle lv_X6_122 (c_X6_settle g hK.A X.1.2.1 h11 e15) dX6_bringOn_15 rfl rfl (Nat.le_of_ble_eq_true rfl) (by decide) (by decide)) (fun r15 h15 => ?_)
  exact v_retWz (x := r15) hB hK hR dX6_bringOn_18

def f_X7_add_j16 (h : pq_H) : Option pq_H :=
  some (wI h 70 0 ((rI h 70 0) + 1))
def f_X7_add (p1 : Int32) (h : pq_H) : Option pq_H :=
  if (rI h 70 0) = (rI h 70 2) then (f_X7_add_j16 (wI h 70 1 p1)) else (f_X7_add_j16 h)
set_option maxRecDepth 100000 in
set_option maxHeartbeats 4000000 in
theorem c_X7_add (g : pq_g) {A : Nat → Prop} (hA : pq_A (SC g) A) (l : Launch) (p1 : Int32) (h : pq_H) {hh : pq_H} (e : f_X7_add p1 h = some hh) : pq_M (SC g) A l yX7_add cX7_add 2 none 0 0 [.ref ((SC g).1.2.1 70), .int p1] h none hh := by
  refine pq_met hA l (own := RX7) 0 0 _ [(0, .ref ((SC g).1.2.1 70)), (1, .int p1)] h _ hh (by decide +kernel) rfl (Nat.le_of_ble_eq_true rfl) rfl (fun X hXl hXA hB hK hR => ?_)
  refine V.cast (F' := f_X7_add p1 h) (res' := hh) (fun _ => e) ?_
  have hn16 : ∀ (h : pq_H), V X (SC g) hh 2 16 [(0, .ref ((SC g).1.2.1 70))] [] h (f_X7_add_j16 h) := by
    intro h
    unfold f_X7_add_j16
    refine v_aload_n hB 0 dX7_add_16 rfl rfl ?_
    refine v_dup hB dX7_add_17 rfl ?_
    refine v_getI hB hK (fl_X7_9 g) (cCI_70_0 g) dX7_add_18 ?_
    refine v_iconst hB 1 dX7_add_21 (by decide) ?_
    refine v_iadd hB dX7_add_22 ?_
    refine v_putI hB hK (fl_X7_9 g) (fin_X7_0 g) (cCI_70_0 g) dX7_add_23 ?_
    exact v_retWv hB hK hR dX7_add_26
  unfold f_X7_add
  refine v_aload_n hB 0 dX7_add_0 rfl rfl ?_
  refine v_getI hB hK (fl_X7_9 g) (cCI_70_0 g) dX7_add_1 ?_
  refine v_aload_n hB 0 dX7_add_4 rfl rfl ?_
  refine v_getI hB hK (fl_X7_18 g) (cCI_70_2 g) dX7_add_5 ?_
  refine v_icmp_ne (tgt := 16) hB dX7_add_8 rfl ?_ ?_
  · exact V.sub [0] rfl (hn16 h)
  · refine v_aload_n hB 0 dX7_add_11 rfl rfl ?_
    refine v_iload_n hB 1 dX7_add_12 rfl rfl ?_
    refine v_putI hB hK (fl_X7_15 g) (fin_X7_1 g) (cCI_70_1 g) dX7_add_13 ?_
    exact V.sub [0] rfl (hn16 (wI h 70 1 p1))

def f_X7_spellNumber_l29 (p1 : Int32) (w29 : Int32 → pq_H → Option pq_H) (v2 : Int32) (h : pq_H) : Option pq_H :=
  if v2 ≤ 0 then (some h) else (gd (v2 != 0) ((f_X7_add (48 + ((p1 / v2) - (p1 / v2) / 10 * 10)) h).bind fun h43 => w29 (v2 / 10) h43))
def f_X7_spellNumber_l4 (p1 : Int32) (h : pq_H) (w4 : Int32 → Int32 → Option pq_H) (v2 : Int32) (v3 : Int32) : Option pq_H :=
  if 8 ≤ v3 then (lp (fun _ _ => none) (f_X7_spellNumber_l29 p1) 1000 v2 h) else (gd (v2 != 0) (if (p1 / v2) < 10 then (lp (fun _ _ => none) (f_X7_spellNumber_l29 p1) 1000 v2 h) else (w4 (v2 * 10) (v3 + 1))))
def f_X7_spellNumber (p1 : Int32) (h : pq_H) : Option pq_H :=
  lp (fun _ _ => none) (f_X7_spellNumber_l4 p1 h) 1000 1 0
set_option maxRecDepth 100000 in
set_option maxHeartbeats 4000000 in
theorem c_X7_spellNumber (g : pq_g) {A : Nat → Prop} (hA : pq_A (SC g) A) (l : Launch) (p1 : Int32) (h : pq_H) {hh : pq_H} (e : f_X7_spellNumber p1 h = some hh) : pq_M (SC g) A l yX7_spellNumber cX7_spellNumber 4 none 1 21 [.ref ((SC g).1.2.1 70), .int p1] h none hh := by
  refine pq_met hA l (own := RX7) 1 21 _ [(0, .ref ((SC g).1.2.1 70)), (1, .int p1)] h _ hh (by decide +kernel) rfl (Nat.le_of_ble_eq_true rfl) rfl (fun X hXl hXA hB hK hR => ?_)
  refine V.cast (F' := f_X7_spellNumber p1 h) (res' := hh) (fun _ => e) ?_
  have hn29 : ∀ (n : Nat), ∀ (v2 : Int32) (h : pq_H), V X (SC g) hh 4 29 [(0, .ref ((SC g).1.2.1 70)), (1, .int p1), (2, .int v2)] [] h (lp (fun _ _ => none) (f_X7_spellNumber_l29 p1) n v2 h) := by
    refine lp_ind (fun (w29 : Int32 → pq_H → Option pq_H) => ∀ (v2 : Int32) (h : pq_H), V X (SC g) hh 4 29 [(0, .ref ((SC g).1.2.1 70)), (1, .int p1), (2, .int v2)] [] h (w29 v2 h)) (fun _ _ => V.none _ _ _ _) (fun w29 ih29 => ?_)
    intro v2 h
    unfold f_X7_spellNumber_l29
    refine v_iload_n hB 2 dX7_spellNumber_29 rfl rfl ?_
    refine v_if_le (tgt := 54) hB dX7_spellNumber_30 rfl ?_ ?_
    · exact v_retWv hB hK hR dX7_spellNumber_54
    · refine v_aload_n hB 0 dX7_spellNumber_33 rfl rfl ?_
      refine v_bipush hB 48 dX7_spellNumber_34 (by decide) ?_
      refine v_iload_n hB 1 dX7_spellNumber_36 rfl rfl ?_
      refine v_iload_n hB 2 dX7_spellNumber_37 rfl rfl ?_
      refine v_idivG hB dX7_spellNumber_38 ?_
      refine v_bipush hB 10 dX7_spellNumber_39 (by decide) ?_
      refine v_irem hB dX7_spellNumber_41 (by decide) ?_
      refine v_iadd hB dX7_spellNumber_42 ?_
      refine v_bV (fun h43 e43 => v_callV hB hK hR.rm [.int (48 + ((p1 / v2) - (p1 / v2) / 10 * 10))] [] (oC_70 g) lb_X7_add lv_X7_30 (c_X7_add g hK.A X.1.2.1 (48 + ((p1 / v2) - (p1 / v2) / 10 * 10)) h e43) dX7_spellNumber_43 rfl rfl (Nat.le_of_ble_eq_true rfl) (by decide) (by decide)) (fun h43 => ?_)
      refine v_iload_n hB 2 dX7_spellNumber_46 rfl rfl ?_
      refine v_bipush hB 10 dX7_spellNumber_47 (by decide) ?_
      refine v_idiv hB dX7_spellNumber_49 (by decide) ?_
      refine v_istore_n hB [(0, .ref ((SC g).1.2.1 70)), (1, .int p1), (2, .int (v2 / 10))] [1, 2, 0] dX7_spellNumber_50 rfl (by decide) rfl ?_
      refine v_goto (tgt := 29) hB dX7_spellNumber_51 rfl ?_
      exact V.sub [0, 1, 2] rfl (ih29 (v2 / 10) h43)
  have hn4 : ∀ (h : pq_H) (n : Nat), ∀ (v2 : Int32) (v3 : Int32), V X (SC g) hh 4 4 [(0, .ref ((SC g).1.2.1 70)), (1, .int p1), (2, .int v2), (3, .int v3)] [] h (lp (fun _ _ => none) (f_X7_spellNumber_l4 p1 h) n v2 v3) := by
    intro h
    refine lp_ind (fun (w4 : Int32 → Int32 → Option pq_H) => ∀ (v2 : Int32) (v3 : Int32), V X (SC g) hh 4 4 [(0, .ref ((SC g).1.2.1 70)), (1, .int p1), (2, .int v2), (3, .int v3)] [] h (w4 v2 v3)) (fun _ _ => V.none _ _ _ _) (fun w4 ih4 => ?_)
    intro v2 v3
    unfold f_X7_spellNumber_l4
    refine v_iload_n hB 3 dX7_spellNumber_4 rfl rfl ?_
    refine v_bipush hB 8 dX7_spellNumber_5 (by decide) ?_
    refine v_icmp_ge (tgt := 29) hB dX7_spellNumber_7 rfl ?_ ?_
    · exact V.sub [0, 1, 2] rfl (hn29 1000 v2 h)
    · refine v_iload_n hB 1 dX7_spellNumber_10 rfl rfl ?_
      refine v_iload_n hB 2 dX7_spellNumber_11 rfl rfl ?_
      refine v_idivG hB dX7_spellNumber_12 ?_
      refine v_bipush hB 10 dX7_spellNumber_13 (by decide) ?_
      refine v_icmp_lt (tgt := 29) hB dX7_spellNumber_15 rfl ?_ ?_
      · exact V.sub [0, 1, 2] rfl (hn29 1000 v2 h)
      · refine v_iload_n hB 2 dX7_spellNumber_18 rfl rfl ?_
        refine v_bipush hB 10 dX7_spellNumber_19 (by decide) ?_
        refine v_imul hB dX7_spellNumber_21 ?_
        refine v_istore_n hB [(0, .ref ((SC g).1.2.1 70)), (1, .int p1), (2, .int (v2 * 10)), (3, .int v3)] [1, 2, 0, 3] dX7_spellNumber_22 rfl (by decide) rfl ?_
        refine v_iinc hB (v3 + 1) [(0, .ref ((SC g).1.2.1 70)), (1, .int p1), (2, .int (v2 * 10)), (3, .int (v3 + 1))] 3 [1, 2, 3, 0] dX7_spellNumber_23 rfl rfl (by decide) rfl ?_
        refine v_goto (tgt := 4) hB dX7_spellNumber_26 rfl ?_
        exact V.sub [0, 1, 2, 3] rfl (ih4 (v2 * 10) (v3 + 1))
  unfold f_X7_spellNumber
  refine v_iconst hB 1 dX7_spellNumber_0 (by decide) ?_
  refine v_istore_n hB [(0, .ref ((SC g).1.2.1 70)), (1, .int p1), (2, .int 1)] [1, 2, 0] dX7_spellNumber_1 rfl (by decide) rfl ?_
  refine v_iconst hB 0 dX7_spellNumber_2 (by decide) ?_
  refine v_istore_n hB [(0, .ref ((SC g).1.2.1 70)), (1, .int p1), (2, .int 1), (3, .int 0)] [1, 2, 3, 0] dX7_spellNumber_3 rfl (by decide) rfl ?_
  exact V.sub [0, 1, 2, 3] rfl (hn4 h 1000 1 0)

def f_X7_spellPower_j9 (p2 : Int32) (h : pq_H) : Option pq_H :=
  if p2 ≤ 1 then (some h) else ((f_X7_add 94 h).bind fun h17 => (f_X7_add (48 + p2) h17).bind fun h25 => some h25)
def f_X7_spellPower (p1 : Int32) (p2 : Int32) (h : pq_H) : Option pq_H :=
  if p2 ≤ 0 then (f_X7_spellPower_j9 p2 h) else ((f_X7_add p1 h).bind fun h6 => f_X7_spellPower_j9 p2 h6)
set_option maxRecDepth 100000 in
set_option maxHeartbeats 4000000 in
theorem c_X7_spellPower (g : pq_g) {A : Nat → Prop} (hA : pq_A (SC g) A) (l : Launch) (p1 : Int32) (p2 : Int32) (h : pq_H) {hh : pq_H} (e : f_X7_spellPower p1 p2 h = some hh) : pq_M (SC g) A l yX7_spellPower cX7_spellPower 3 none 1 21 [.ref ((SC g).1.2.1 70), .int p1, .int p2] h none hh := by
  refine pq_met hA l (own := RX7) 1 21 _ [(0, .ref ((SC g).1.2.1 70)), (1, .int p1), (2, .int p2)] h _ hh (by decide +kernel) rfl (Nat.le_of_ble_eq_true rfl) rfl (fun X hXl hXA hB hK hR => ?_)
  refine V.cast (F' := f_X7_spellPower p1 p2 h) (res' := hh) (fun _ => e) ?_
  have hn9 : ∀ (h : pq_H), V X (SC g) hh 3 9 [(0, .ref ((SC g).1.2.1 70)), (2, .int p2)] [] h (f_X7_spellPower_j9 p2 h) := by
    intro h
    unfold f_X7_spellPower_j9
    refine v_iload_n hB 1 dX7_spellPower_9 rfl rfl ?_
    refine v_iconst hB 1 dX7_spellPower_10 (by decide) ?_
    refine v_icmp_le (tgt := 28) hB dX7_spellPower_11 rfl ?_ ?_
    · exact v_retWv hB hK hR dX7_spellPower_28
    · refine v_aload_n hB 0 dX7_spellPower_14 rfl rfl ?_
      refine v_bipush hB 94 dX7_spellPower_15 (by decide) ?_
      refine v_bV (fun h17 e17 => v_callV hB hK hR.rm [.int 94] [] (oC_70 g) lb_X7_add lv_X7_30 (c_X7_add g hK.A X.1.2.1 94 h e17) dX7_spellPower_17 rfl rfl (Nat.le_of_ble_eq_true rfl) (by decide) (by decide)) (fun h17 => ?_)
      refine v_aload_n hB 0 dX7_spellPower_20 rfl rfl ?_
      refine v_bipush hB 48 dX7_spellPower_21 (by decide) ?_
      refine v_iload_n hB 1 dX7_spellPower_23 rfl rfl ?_
      refine v_iadd hB dX7_spellPower_24 ?_
      refine v_bV (fun h25 e25 => v_callV hB hK hR.rm [.int (48 + p2)] [] (oC_70 g) lb_X7_add lv_X7_30 (c_X7_add g hK.A X.1.2.1 (48 + p2) h17 e25) dX7_spellPower_25 rfl rfl (Nat.le_of_ble_eq_true rfl) (by decide) (by decide)) (fun h25 => ?_)
      exact v_retWv hB hK hR dX7_spellPower_28
  unfold f_X7_spellPower
  refine v_iload_n hB 2 dX7_spellPower_0 rfl rfl ?_
  refine v_if_le (tgt := 9) hB dX7_spellPower_1 rfl ?_ ?_
  · exact V.sub [0, 2] rfl (hn9 h)
  · refine v_aload_n hB 0 dX7_spellPower_4 rfl rfl ?_
    refine v_iload_n hB 1 dX7_spellPower_5 rfl rfl ?_
    refine v_bV (fun h6 e6 => v_callV hB hK hR.rm [.int p1] [] (oC_70 g) lb_X7_add lv_X7_30 (c_X7_add g hK.A X.1.2.1 p1 h e6) dX7_spellPower_6 rfl rfl (Nat.le_of_ble_eq_true rfl) (by decide) (by decide)) (fun h6 => ?_)
    exact V.sub [0, 2] rfl (hn9 h6)

def f_X7_spellTerm_j69 (p2 : Int32) (p3 : Int32) (p4 : Int32) (h : pq_H) : Option pq_H :=
  (f_X7_spellPower 97 p2 h).bind fun h73 => (f_X7_spellPower 98 p3 h73).bind fun h80 => (f_X7_spellPower 99 p4 h80).bind fun h88 => some h88
def f_X7_spellTerm_j63 (p2 : Int32) (p3 : Int32) (p4 : Int32) (v6 : Int32) (h : pq_H) : Option pq_H :=
  (f_X7_spellNumber v6 h).bind fun h66 => f_X7_spellTerm_j69 p2 p3 p4 h66
def f_X7_spellTerm_j43 (p1 : Nat) (p2 : Int32) (p3 : Int32) (p4 : Int32) (v5 : Int32) (h : pq_H) : Option pq_H :=
  if (if 0 ≤ v5 then v5 else 0 - v5) = 1 then (if (rI h p1 3) = 0 then (f_X7_spellTerm_j63 p2 p3 p4 (if 0 ≤ v5 then v5 else 0 - v5) h) else (f_X7_spellTerm_j69 p2 p3 p4 h)) else (f_X7_spellTerm_j63 p2 p3 p4 (if 0 ≤ v5 then v5 else 0 - v5) h)
def f_X7_spellTerm (p1 : Nat) (p2 : Int32) (p3 : Int32) (p4 : Int32) (h : pq_H) : Option pq_H :=
  (f_X1_has p1 p2 p3 p4 h).bind fun r5 => if r5 = 0 then (some h) else (if 0 ≤ r5 then (if (rI h 70 0) ≤ 0 then (f_X7_spellTerm_j43 p1 p2 p3 p4 r5 h) else ((f_X7_add 43 h).bind fun h40 => f_X7_spellTerm_j43 p1 p2 p3 p4 r5 h40)) else ((f_X7_add 45 h).bind fun h24 => f_X7_spellTerm_j43 p1 p2 p3 p4 r5 h24))
set_option maxRecDepth 100000 in
set_option maxHeartbeats 4000000 in
theorem c_X7_spellTerm (g : pq_g) {A : Nat → Prop} (hA : pq_A (SC g) A) (l : Launch) (p1 : Nat) (hp1 : p1 < 12) (p2 : Int32) (p3 : Int32) (p4 : Int32) (h : pq_H) {hh : pq_H} (e : f_X7_spellTerm p1 p2 p3 p4 h = some hh) : pq_M (SC g) A l yX7_spellTerm cX7_spellTerm 7 none 2 44 [.ref ((SC g).1.2.1 70), .ref ((SC g).1.2.1 p1), .int p2, .int p3, .int p4] h none hh := by
  refine pq_met hA l (own := RX7) 2 44 _ [(0, .ref ((SC g).1.2.1 70)), (1, .ref ((SC g).1.2.1 p1)), (2, .int p2), (3, .int p3), (4, .int p4)] h _ hh (by decide +kernel) rfl (Nat.le_of_ble_eq_true rfl) rfl (fun X hXl hXA hB hK hR => ?_)
  refine V.cast (F' := f_X7_spellTerm p1 p2 p3 p4 h) (res' := hh) (fun _ => e) ?_
  have hn69 : ∀ (h : pq_H), V X (SC g) hh 7 69 [(0, .ref ((SC g).1.2.1 70)), (2, .int p2), (3, .int p3), (4, .int p4)] [] h (f_X7_spellTerm_j69 p2 p3 p4 h) := by
    intro h
    unfold f_X7_spellTerm_j69
    refine v_aload_n hB 0 dX7_spellTerm_69 rfl rfl ?_
    refine v_bipush hB 97 dX7_spellTerm_70 (by decide) ?_
    refine v_iload_n hB 1 dX7_spellTerm_72 rfl rfl ?_
    refine v_bV (fun h73 e73 => v_callV hB hK hR.rm [.int 97, .int p2] [] (oC_70 g) lb_X7_spellPower lv_X7_47 (c_X7_spellPower g hK.A X.1.2.1 97 p2 h e73) dX7_spellTerm_73 rfl rfl (Nat.le_of_ble_eq_true rfl) (by decide) (by decide)) (fun h73 => ?_)
    refine v_aload_n hB 0 dX7_spellTerm_76 rfl rfl ?_
    refine v_bipush hB 98 dX7_spellTerm_77 (by decide) ?_
    refine v_iload_n hB 2 dX7_spellTerm_79 rfl rfl ?_
    refine v_bV (fun h80 e80 => v_callV hB hK hR.rm [.int 98, .int p3] [] (oC_70 g) lb_X7_spellPower lv_X7_47 (c_X7_spellPower g hK.A X.1.2.1 98 p3 h73 e80) dX7_spellTerm_80 rfl rfl (Nat.le_of_ble_eq_true rfl) (by decide) (by decide)) (fun h80 => ?_)
    refine v_aload_n hB 0 dX7_spellTerm_83 rfl rfl ?_
    refine v_bipush hB 99 dX7_spellTerm_84 (by decide) ?_
    refine v_iload hB 3 dX7_spellTerm_86 rfl ?_
    refine v_bV (fun h88 e88 => v_callV hB hK hR.rm [.int 99, .int p4] [] (oC_70 g) lb_X7_spellPower lv_X7_47 (c_X7_spellPower g hK.A X.1.2.1 99 p4 h80 e88) dX7_spellTerm_88 rfl rfl (Nat.le_of_ble_eq_true rfl) (by decide) (by decide)) (fun h88 => ?_)
    exact v_retWv hB hK hR dX7_spellTerm_91
  have hn63 : ∀ (v6 : Int32) (h : pq_H), V X (SC g) hh 7 63 [(0, .ref ((SC g).1.2.1 70)), (2, .int p2), (3, .int p3), (4, .int p4), (6, .int v6)] [] h (f_X7_spellTerm_j63 p2 p3 p4 v6 h) := by
    intro v6 h
    unfold f_X7_spellTerm_j63
    refine v_aload_n hB 0 dX7_spellTerm_63 rfl rfl ?_
    refine v_iload hB 4 dX7_spellTerm_64 rfl ?_
    refine v_bV (fun h66 e66 => v_callV hB hK hR.rm [.int v6] [] (oC_70 g) lb_X7_spellNumber lv_X7_44 (c_X7_spellNumber g hK.A X.1.2.1 v6 h e66) dX7_spellTerm_66 rfl rfl (Nat.le_of_ble_eq_true rfl) (by decide) (by decide)) (fun h66 => ?_)
    exact V.sub [0, 1, 2, 3] rfl (hn69 h66)
  have hn43 : ∀ (v5 : Int32) (h : pq_H), V X (SC g) hh 7 43 [(0, .ref ((SC g).1.2.1 70)), (1, .ref ((SC g).1.2.1 p1)), (2, .int p2), (3, .int p3), (4, .int p4), (5, .int v5)] [] h (f_X7_spellTerm_j43 p1 p2 p3 p4 v5 h) := by
    intro v5 h
    unfold f_X7_spellTerm_j43
    refine v_iload hB 5 dX7_spellTerm_43 rfl ?_
    refine v_mabs hB hR.rm lk_X7_38 (by decide) (Nat.le_of_ble_eq_true rfl) dX7_spellTerm_45 ?_
    refine v_istore hB [(0, .ref ((SC g).1.2.1 70)), (1, .ref ((SC g).1.2.1 p1)), (2, .int p2), (3, .int p3), (4, .int p4), (5, .int v5), (6, .int (if 0 ≤ v5 then v5 else 0 - v5))] [1, 2, 3, 4, 5, 6, 0] dX7_spellTerm_48 (by decide) rfl ?_
    refine v_iload hB 6 dX7_spellTerm_50 rfl ?_
    refine v_iconst hB 1 dX7_spellTerm_52 (by decide) ?_
    refine v_icmp_ne (tgt := 63) hB dX7_spellTerm_53 rfl ?_ ?_
    · exact V.sub [0, 2, 3, 4, 6] rfl (hn63 (if 0 ≤ v5 then v5 else 0 - v5) h)
    · refine v_aload_n hB 1 dX7_spellTerm_56 rfl rfl ?_
      refine v_getI hB hK (fl_X7_21 g) (cI_Form_3 g p1 hp1) dX7_spellTerm_57 ?_
      refine v_if_ne (tgt := 69) hB dX7_spellTerm_60 rfl ?_ ?_
      · exact V.sub [0, 2, 3, 4] rfl (hn69 h)
      · exact V.sub [0, 2, 3, 4, 6] rfl (hn63 (if 0 ≤ v5 then v5 else 0 - v5) h)
  unfold f_X7_spellTerm
  refine v_aload_n hB 1 dX7_spellTerm_0 rfl rfl ?_
  refine v_iload_n hB 2 dX7_spellTerm_1 rfl rfl ?_
  refine v_iload_n hB 3 dX7_spellTerm_2 rfl rfl ?_
  refine v_iload hB 4 dX7_spellTerm_3 rfl ?_
  refine v_bRi (fun r5 e5 => v_callV hB hK hR.rm [.int p2, .int p3, .int p4] [] (o_Form g p1 hp1) lb_X1_has lv_X7_34 (c_X1_has g hK.A X.1.2.1 p1 hp1 p2 p3 p4 h e5) dX7_spellTerm_5 rfl rfl (Nat.le_of_ble_eq_true rfl) (by decide) (by decide)) (fun r5 => ?_)
  refine v_istore hB [(0, .ref ((SC g).1.2.1 70)), (1, .ref ((SC g).1.2.1 p1)), (2, .int p2), (3, .int p3), (4, .int p4), (5, .int r5)] [1, 2, 3, 4, 5, 0] dX7_spellTerm_8 (by decide) rfl ?_
  refine v_iload hB 5 dX7_spellTerm_10 rfl ?_
  refine v_if_ne (tgt := 16) hB dX7_spellTerm_12 rfl ?_ ?_
  · refine v_iload hB 5 dX7_spellTerm_16 rfl ?_
    refine v_if_ge (tgt := 30) hB dX7_spellTerm_18 rfl ?_ ?_
    · refine v_aload_n hB 0 dX7_spellTerm_30 rfl rfl ?_
      refine v_getI hB hK (fl_X7_9 g) (cCI_70_0 g) dX7_spellTerm_31 ?_
      refine v_if_le (tgt := 43) hB dX7_spellTerm_34 rfl ?_ ?_
      · exact V.sub [0, 1, 2, 3, 4, 5] rfl (hn43 r5 h)
      · refine v_aload_n hB 0 dX7_spellTerm_37 rfl rfl ?_
        refine v_bipush hB 43 dX7_spellTerm_38 (by decide) ?_
        refine v_bV (fun h40 e40 => v_callV hB hK hR.rm [.int 43] [] (oC_70 g) lb_X7_add lv_X7_30 (c_X7_add g hK.A X.1.2.1 43 h e40) dX7_spellTerm_40 rfl rfl (Nat.le_of_ble_eq_true rfl) (by decide) (by decide)) (fun h40 => ?_)
        exact V.sub [0, 1, 2, 3, 4, 5] rfl (hn43 r5 h40)
    · refine v_aload_n hB 0 dX7_spellTerm_21 rfl rfl ?_
      refine v_bipush hB 45 dX7_spellTerm_22 (by decide) ?_
      refine v_bV (fun h24 e24 => v_callV hB hK hR.rm [.int 45] [] (oC_70 g) lb_X7_add lv_X7_30 (c_X7_add g hK.A X.1.2.1 45 h e24) dX7_spellTerm_24 rfl rfl (Nat.le_of_ble_eq_true rfl) (by decide) (by decide)) (fun h24 => ?_)
      refine v_goto (tgt := 43) hB dX7_spellTerm_27 rfl ?_
      exact V.sub [0, 1, 2, 3, 4, 5] rfl (hn43 r5 h24)
  · exact v_retWv hB hK hR dX7_spellTerm_15

def f_X7_spell_j64 (h : pq_H) : Option pq_H :=
  if (rI h 70 0) = 0 then ((f_X7_add 48 h).bind fun h74 => some h74) else (some h)
def f_X7_spell_j58 (w18 : Int32 → pq_H → Option pq_H) (v3 : Int32) (h : pq_H) : Option pq_H :=
  w18 (v3 + 1) h
def f_X7_spell_l29 (p1 : Nat) (w18 : Int32 → pq_H → Option pq_H) (v3 : Int32) (w29 : Int32 → pq_H → Option pq_H) (v4 : Int32) (h : pq_H) : Option pq_H :=
  if v3 < v4 then (f_X7_spell_j58 w18 v3 h) else ((f_X7_spellTerm p1 ((rI h p1 3) - v3) (v3 - v4) v4 h).bind fun h49 => w29 (v4 + 1) h49)
def f_X7_spell_l18 (p1 : Nat) (w18 : Int32 → pq_H → Option pq_H) (v3 : Int32) (h : pq_H) : Option pq_H :=
  if (rI h p1 3) < v3 then (f_X7_spell_j64 h) else (lp (fun _ _ => none) (f_X7_spell_l29 p1 w18 v3) 1000 0 h)
def f_X7_spell (p1 : Nat) (p2 : Int32) (h : pq_H) : Option pq_H :=
  hl (wI h 70 0 0) fun h2 => hl (wI h2 70 1 (-9)) fun h8 => hl (wI h8 70 2 p2) fun h13 => lp (fun _ _ => none) (f_X7_spell_l18 p1) 1000 0 h13
set_option maxRecDepth 100000 in
set_option maxHeartbeats 4000000 in
theorem c_X7_spell (g : pq_g) {A : Nat → Prop} (hA : pq_A (SC g) A) (l : Launch) (p1 : Nat) (hp1 : p1 < 12) (p2 : Int32) (h : pq_H) {hh : pq_H} (e : f_X7_spell p1 p2 h = some hh) : pq_M (SC g) A l yX7_spell cX7_spell 5 none 3 70 [.ref ((SC g).1.2.1 70), .ref ((SC g).1.2.1 p1), .int p2] h none hh := by
  refine pq_met hA l (own := RX7) 3 70 _ [(0, .ref ((SC g).1.2.1 70)), (1, .ref ((SC g).1.2.1 p1)), (2, .int p2)] h _ hh (by decide +kernel) rfl (Nat.le_of_ble_eq_true rfl) rfl (fun X hXl hXA hB hK hR => ?_)
  refine V.cast (F' := f_X7_spell p1 p2 h) (res' := hh) (fun _ => e) ?_
  have hn64 : ∀ (h : pq_H), V X (SC g) hh 5 64 [(0, .ref ((SC g).1.2.1 70))] [] h (f_X7_spell_j64 h) := by
    intro h
    unfold f_X7_spell_j64
    refine v_aload_n hB 0 dX7_spell_64 rfl rfl ?_
    refine v_getI hB hK (fl_X7_9 g) (cCI_70_0 g) dX7_spell_65 ?_
    refine v_if_ne (tgt := 77) hB dX7_spell_68 rfl ?_ ?_
    · exact v_retWv hB hK hR dX7_spell_77
    · refine v_aload_n hB 0 dX7_spell_71 rfl rfl ?_
      refine v_bipush hB 48 dX7_spell_72 (by decide) ?_
      refine v_bV (fun h74 e74 => v_callV hB hK hR.rm [.int 48] [] (oC_70 g) lb_X7_add lv_X7_30 (c_X7_add g hK.A X.1.2.1 48 h e74) dX7_spell_74 rfl rfl (Nat.le_of_ble_eq_true rfl) (by decide) (by decide)) (fun h74 => ?_)
      exact v_retWv hB hK hR dX7_spell_77
  have hn18 : ∀ (n : Nat), ∀ (v3 : Int32) (h : pq_H), V X (SC g) hh 5 18 [(0, .ref ((SC g).1.2.1 70)), (1, .ref ((SC g).1.2.1 p1)), (3, .int v3)] [] h (lp (fun _ _ => none) (f_X7_spell_l18 p1) n v3 h) := by
    refine lp_ind (fun (w18 : Int32 → pq_H → Option pq_H) => ∀ (v3 : Int32) (h : pq_H), V X (SC g) hh 5 18 [(0, .ref ((SC g).1.2.1 70)), (1, .ref ((SC g).1.2.1 p1)), (3, .int v3)] [] h (w18 v3 h)) (fun _ _ => V.none _ _ _ _) (fun w18 ih18 => ?_)
    have hn58 : ∀ (v3 : Int32) (h : pq_H), V X (SC g) hh 5 58 [(0, .ref ((SC g).1.2.1 70)), (1, .ref ((SC g).1.2.1 p1)), (3, .int v3)] [] h (f_X7_spell_j58 w18 v3 h) := by
      intro v3 h
      unfold f_X7_spell_j58
      refine v_iinc hB (v3 + 1) [(0, .ref ((SC g).1.2.1 70)), (1, .ref ((SC g).1.2.1 p1)), (3, .int (v3 + 1))] 2 [1, 2, 0] dX7_spell_58 rfl rfl (by decide) rfl ?_
      refine v_goto (tgt := 18) hB dX7_spell_61 rfl ?_
      exact V.sub [0, 1, 2] rfl (ih18 (v3 + 1) h)
    have hn29 : ∀ (v3 : Int32) (n : Nat), ∀ (v4 : Int32) (h : pq_H), V X (SC g) hh 5 29 [(0, .ref ((SC g).1.2.1 70)), (1, .ref ((SC g).1.2.1 p1)), (3, .int v3), (4, .int v4)] [] h (lp (fun _ _ => none) (f_X7_spell_l29 p1 w18 v3) n v4 h) := by
      intro v3
      refine lp_ind (fun (w29 : Int32 → pq_H → Option pq_H) => ∀ (v4 : Int32) (h : pq_H), V X (SC g) hh 5 29 [(0, .ref ((SC g).1.2.1 70)), (1, .ref ((SC g).1.2.1 p1)), (3, .int v3), (4, .int v4)] [] h (w29 v4 h)) (fun _ _ => V.none _ _ _ _) (fun w29 ih29 => ?_)
      intro v4 h
      unfold f_X7_spell_l29
      refine v_iload hB 3 dX7_spell_29 rfl ?_
      refine v_iload_n hB 2 dX7_spell_31 rfl rfl ?_
      refine v_icmp_gt (tgt := 58) hB dX7_spell_32 rfl ?_ ?_
      · exact V.sub [0, 1, 2] rfl (hn58 v3 h)
      · refine v_aload_n hB 0 dX7_spell_35 rfl rfl ?_
        refine v_aload_n hB 1 dX7_spell_36 rfl rfl ?_
        refine v_aload_n hB 1 dX7_spell_37 rfl rfl ?_
        refine v_getI hB hK (fl_X7_21 g) (cI_Form_3 g p1 hp1) dX7_spell_38 ?_
        refine v_iload_n hB 2 dX7_spell_41 rfl rfl ?_
        refine v_isub hB dX7_spell_42 ?_
        refine v_iload_n hB 2 dX7_spell_43 rfl rfl ?_
        refine v_iload hB 3 dX7_spell_44 rfl ?_
        refine v_isub hB dX7_spell_46 ?_
        refine v_iload hB 3 dX7_spell_47 rfl ?_
        refine v_bV (fun h49 e49 => v_callV hB hK hR.rm [.ref ((SC g).1.2.1 p1), .int ((rI h p1 3) - v3), .int (v3 - v4), .int v4] [] (oC_70 g) lb_X7_spellTerm lv_X7_26 (c_X7_spellTerm g hK.A X.1.2.1 p1 hp1 ((rI h p1 3) - v3) (v3 - v4) v4 h e49) dX7_spell_49 rfl rfl (Nat.le_of_ble_eq_true rfl) (by decide) (by decide)) (fun h49 => ?_)
        refine v_iinc hB (v4 + 1) [(0, .ref ((SC g).1.2.1 70)), (1, .ref ((SC g).1.2.1 p1)), (3, .int v3), (4, .int (v4 + 1))] 3 [1, 2, 3, 0] dX7_spell_52 rfl rfl (by decide) rfl ?_
        refine v_goto (tgt := 29) hB dX7_spell_55 rfl ?_
        exact V.sub [0, 1, 2, 3] rfl (ih29 (v4 + 1) h49)
    intro v3 h
    unfold f_X7_spell_l18
    refine v_iload_n hB 2 dX7_spell_18 rfl rfl ?_
    refine v_aload_n hB 1 dX7_spell_19 rfl rfl ?_
    refine v_getI hB hK (fl_X7_21 g) (cI_Form_3 g p1 hp1) dX7_spell_20 ?_
    refine v_icmp_gt (tgt := 64) hB dX7_spell_23 rfl ?_ ?_
    · exact V.sub [0] rfl (hn64 h)
    · refine v_iconst hB 0 dX7_spell_26 (by decide) ?_
      refine v_istore hB [(0, .ref ((SC g).1.2.1 70)), (1, .ref ((SC g).1.2.1 p1)), (3, .int v3), (4, .int 0)] [1, 2, 3, 0] dX7_spell_27 (by decide) rfl ?_
      exact V.sub [0, 1, 2, 3] rfl (hn29 v3 1000 0 h)
  unfold f_X7_spell
  refine v_aload_n hB 0 dX7_spell_0 rfl rfl ?_
  refine v_iconst hB 0 dX7_spell_1 (by decide) ?_
  refine v_putI hB hK (fl_X7_9 g) (fin_X7_0 g) (cCI_70_0 g) dX7_spell_2 ?_
  refine v_hl (fun h2 => ?_)
  refine v_aload_n hB 0 dX7_spell_5 rfl rfl ?_
  refine v_bipush hB (-9) dX7_spell_6 (by decide) ?_
  refine v_putI hB hK (fl_X7_15 g) (fin_X7_1 g) (cCI_70_1 g) dX7_spell_8 ?_
  refine v_hl (fun h8 => ?_)
  refine v_aload_n hB 0 dX7_spell_11 rfl rfl ?_
  refine v_iload_n hB 2 dX7_spell_12 rfl rfl ?_
  refine v_putI hB hK (fl_X7_18 g) (fin_X7_2 g) (cCI_70_2 g) dX7_spell_13 ?_
  refine v_hl (fun h13 => ?_)
  refine v_iconst hB 0 dX7_spell_16 (by decide) ?_
  refine v_istore_n hB [(0, .ref ((SC g).1.2.1 70)), (1, .ref ((SC g).1.2.1 p1)), (2, .int p2), (3, .int 0)] [1, 2, 3, 0] dX7_spell_17 rfl (by decide) rfl ?_
  exact V.sub [0, 1, 3] rfl (hn18 1000 0 h13)

def f_X8_add (p1 : Int32) (p2 : Int32) (p3 : Int32) (p4 : Int32) (h : pq_H) : Option pq_H :=
  gd (inb (rI h 74 5) 16) (hl (wI h 75 (rI h 74 5).toNatClampNeg p1) fun h9 => gd (inb (rI h9 74 5) 16) (hl (wI h9 76 (rI h9 74 5).toNatClampNeg p2) fun h19 => gd (inb (rI h19 74 5) 16) (hl (wI h19 77 (rI h19 74 5).toNatClampNeg p3) fun h29 => gd (inb (rI h29 74 5) 16) (hl (wI h29 78 (rI h29 74 5).toNatClampNeg p4) fun h40 => hl (wI h40 74 5 (((rI h40 74 5) + 1) - ((rI h40 74 5) + 1) / 16 * 16)) fun h51 => some (wI h51 74 0 (if 16 < ((rI h51 74 0) + 1) then 16 else ((rI h51 74 0) + 1)))))))
set_option maxRecDepth 100000 in
set_option maxHeartbeats 4000000 in
theorem c_X8_add (g : pq_g) {A : Nat → Prop} (hA : pq_A (SC g) A) (l : Launch) (p1 : Int32) (p2 : Int32) (p3 : Int32) (p4 : Int32) (h : pq_H) {hh : pq_H} (e : f_X8_add p1 p2 p3 p4 h = some hh) : pq_M (SC g) A l yX8_add cX8_add 5 none 1 23 [.ref ((SC g).1.2.1 74), .int p1, .int p2, .int p3, .int p4] h none hh := by
  refine pq_met hA l (own := RX8) 1 23 _ [(0, .ref ((SC g).1.2.1 74)), (1, .int p1), (2, .int p2), (3, .int p3), (4, .int p4)] h _ hh (by decide +kernel) rfl (Nat.le_of_ble_eq_true rfl) rfl (fun X hXl hXA hB hK hR => ?_)
  refine V.cast (F' := f_X8_add p1 p2 p3 p4 h) (res' := hh) (fun _ => e) ?_
  unfold f_X8_add
  refine v_aload_n hB 0 dX8_add_0 rfl rfl ?_
  refine v_getA hB hK (fl_X8_9 g) (cCA_74_1 g) dX8_add_1 ?_
  refine v_aload_n hB 0 dX8_add_4 rfl rfl ?_
  refine v_getI hB hK (fl_X8_24 g) (cCI_74_5 g) dX8_add_5 ?_
  refine v_iload_n hB 1 dX8_add_8 rfl rfl ?_
  refine v_iast hB hK (aCI_75 g) dX8_add_9 ?_
  refine v_hl (fun h9 => ?_)
  refine v_aload_n hB 0 dX8_add_10 rfl rfl ?_
  refine v_getA hB hK (fl_X8_15 g) (cCA_74_2 g) dX8_add_11 ?_
  refine v_aload_n hB 0 dX8_add_14 rfl rfl ?_
  refine v_getI hB hK (fl_X8_24 g) (cCI_74_5 g) dX8_add_15 ?_
  refine v_iload_n hB 2 dX8_add_18 rfl rfl ?_
  refine v_iast hB hK (aCI_76 g) dX8_add_19 ?_
  refine v_hl (fun h19 => ?_)
  refine v_aload_n hB 0 dX8_add_20 rfl rfl ?_
  refine v_getA hB hK (fl_X8_18 g) (cCA_74_3 g) dX8_add_21 ?_
  refine v_aload_n hB 0 dX8_add_24 rfl rfl ?_
  refine v_getI hB hK (fl_X8_24 g) (cCI_74_5 g) dX8_add_25 ?_
  refine v_iload_n hB 3 dX8_add_28 rfl rfl ?_
  refine v_iast hB hK (aCI_77 g) dX8_add_29 ?_
  refine v_hl (fun h29 => ?_)
  refine v_aload_n hB 0 dX8_add_30 rfl rfl ?_
  refine v_getA hB hK (fl_X8_21 g) (cCA_74_4 g) dX8_add_31 ?_
  refine v_aload_n hB 0 dX8_add_34 rfl rfl ?_
  refine v_getI hB hK (fl_X8_24 g) (cCI_74_5 g) dX8_add_35 ?_
  refine v_iload hB 4 dX8_add_38 rfl ?_
  refine v_iast hB hK (aCI_78 g) dX8_add_40 ?_
  refine v_hl (fun h40 => ?_)
  refine v_aload_n hB 0 dX8_add_41 rfl rfl ?_
  refine v_aload_n hB 0 dX8_add_42 rfl rfl ?_
  refine v_getI hB hK (fl_X8_24 g) (cCI_74_5 g) dX8_add_43 ?_
  refine v_iconst hB 1 dX8_add_46 (by decide) ?_
  refine v_iadd hB dX8_add_47 ?_
  refine v_bipush hB 16 dX8_add_48 (by decide) ?_
  refine v_irem hB dX8_add_50 (by decide) ?_
  refine v_putI hB hK (fl_X8_24 g) (fin_X8_5 g) (cCI_74_5 g) dX8_add_51 ?_
  refine v_hl (fun h51 => ?_)
  refine v_aload_n hB 0 dX8_add_54 rfl rfl ?_
  refine v_aload_n hB 0 dX8_add_55 rfl rfl ?_
  refine v_getI hB hK (fl_X8_28 g) (cCI_74_0 g) dX8_add_56 ?_
  refine v_iconst hB 1 dX8_add_59 (by decide) ?_
  refine v_iadd hB dX8_add_60 ?_
  refine v_bipush hB 16 dX8_add_61 (by decide) ?_
  refine v_mmin hB hR.rm lk_X8_31 (by decide) (Nat.le_of_ble_eq_true rfl) dX8_add_63 ?_
  refine v_putI hB hK (fl_X8_28 g) (fin_X8_0 g) (cCI_74_0 g) dX8_add_66 ?_
  exact v_retWv hB hK hR dX8_add_69

