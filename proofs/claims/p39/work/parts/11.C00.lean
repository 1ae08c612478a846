def f_X1_makeNought_l17 (p0 : Nat) (w17 : Int32 → pq_H → Option pq_H) (v1 : Int32) (h : pq_H) : Option pq_H :=
  if 28 ≤ v1 then (some h) else (gd (inb v1 28) (w17 (v1 + 1) (wI h (p0 + 12) v1.toNatClampNeg 0)))
def f_X1_makeNought (p0 : Nat) (h : pq_H) : Option pq_H :=
  hl (wI h p0 1 0) fun h2 => hl (wI h2 p0 2 0) fun h7 => hl (wI h7 p0 3 0) fun h12 => lp (fun _ _ => none) (f_X1_makeNought_l17 p0) 1000 0 h12
set_option maxRecDepth 100000 in
set_option maxHeartbeats 4000000 in
theorem c_X1_makeNought (g : pq_g) {A : Nat → Prop} (hA : pq_A (SC g) A) (l : Launch) (p0 : Nat) (hp0 : p0 < 12) (h : pq_H) {hh : pq_H} (e : f_X1_makeNought p0 h = some hh) : pq_M (SC g) A l yX1_makeNought cX1_makeNought 2 none 0 0 [.ref ((SC g).1.2.1 p0)] h none hh := by
  refine pq_met hA l (own := RX1) 0 0 _ [(0, .ref ((SC g).1.2.1 p0))] h _ hh (by decide +kernel) rfl (Nat.le_of_ble_eq_true rfl) rfl (fun X hXl hXA hB hK hR => ?_)
  refine V.cast (F' := f_X1_makeNought p0 h) (res' := hh) (fun _ => e) ?_
  have hn17 : ∀ (n : Nat), ∀ (v1 : Int32) (h : pq_H), V X (SC g) hh 2 17 [(0, .ref ((SC g).1.2.1 p0)), (1, .int v1)] [] h (lp (fun _ _ => none) (f_X1_makeNought_l17 p0) n v1 h) := by
    refine lp_ind (fun (w17 : Int32 → pq_H → Option pq_H) => ∀ (v1 : Int32) (h : pq_H), V X (SC g) hh 2 17 [(0, .ref ((SC g).1.2.1 p0)), (1, .int v1)] [] h (w17 v1 h)) (fun _ _ => V.none _ _ _ _) (fun w17 ih17 => ?_)
    intro v1 h
    unfold f_X1_makeNought_l17
    refine v_iload_n hB 1 dX1_makeNought_17 rfl rfl ?_
    refine v_bipush hB 28 dX1_makeNought_18 (by decide) ?_
    refine v_icmp_ge (tgt := 36) hB dX1_makeNought_20 rfl ?_ ?_
    · exact v_retWv hB hK hR dX1_makeNought_36
    · refine v_aload_n hB 0 dX1_makeNought_23 rfl rfl ?_
      refine v_getA hB hK (fl_X1_9 g) (cA_Form_0 g p0 hp0) dX1_makeNought_24 ?_
      refine v_iload_n hB 1 dX1_makeNought_27 rfl rfl ?_
      refine v_iconst hB 0 dX1_makeNought_28 (by decide) ?_
      refine v_iast hB hK (aI_told g p0 hp0) dX1_makeNought_29 ?_
      refine v_iinc hB (v1 + 1) [(0, .ref ((SC g).1.2.1 p0)), (1, .int (v1 + 1))] 1 [1, 0] dX1_makeNought_30 rfl rfl (by decide) rfl ?_
      refine v_goto (tgt := 17) hB dX1_makeNought_33 rfl ?_
      exact V.sub [0, 1] rfl (ih17 (v1 + 1) (wI h (p0 + 12) v1.toNatClampNeg 0))
  unfold f_X1_makeNought
  refine v_aload_n hB 0 dX1_makeNought_0 rfl rfl ?_
  refine v_iconst hB 0 dX1_makeNought_1 (by decide) ?_
  refine v_putI hB hK (fl_X1_15 g) (fin_X1_1 g) (cI_Form_1 g p0 hp0) dX1_makeNought_2 ?_
  refine v_hl (fun h2 => ?_)
  refine v_aload_n hB 0 dX1_makeNought_5 rfl rfl ?_
  refine v_iconst hB 0 dX1_makeNought_6 (by decide) ?_
  refine v_putI hB hK (fl_X1_19 g) (fin_X1_2 g) (cI_Form_2 g p0 hp0) dX1_makeNought_7 ?_
  refine v_hl (fun h7 => ?_)
  refine v_aload_n hB 0 dX1_makeNought_10 rfl rfl ?_
  refine v_iconst hB 0 dX1_makeNought_11 (by decide) ?_
  refine v_putI hB hK (fl_X1_22 g) (fin_X1_3 g) (cI_Form_3 g p0 hp0) dX1_makeNought_12 ?_
  refine v_hl (fun h12 => ?_)
  refine v_iconst hB 0 dX1_makeNought_15 (by decide) ?_
  refine v_istore_n hB [(0, .ref ((SC g).1.2.1 p0)), (1, .int 0)] [1, 0] dX1_makeNought_16 rfl (by decide) rfl ?_
  exact V.sub [0, 1] rfl (hn17 1000 0 h12)

def f_X1_copyOf_l26 (p0 : Nat) (p1 : Nat) (w26 : Int32 → pq_H → Option pq_H) (v2 : Int32) (h : pq_H) : Option pq_H :=
  if 28 ≤ v2 then (some h) else (gd (inb v2 28) (gd (inb v2 28) (w26 (v2 + 1) (wI h (p0 + 12) v2.toNatClampNeg (rI h (p1 + 12) v2.toNatClampNeg)))))
def f_X1_copyOf (p0 : Nat) (p1 : Nat) (h : pq_H) : Option pq_H :=
  hl (wI h p0 1 (rI h p1 1)) fun h5 => hl (wI h5 p0 2 (rI h5 p1 2)) fun h13 => hl (wI h13 p0 3 (rI h13 p1 3)) fun h21 => lp (fun _ _ => none) (f_X1_copyOf_l26 p0 p1) 1000 0 h21
set_option maxRecDepth 100000 in
set_option maxHeartbeats 4000000 in
theorem c_X1_copyOf (g : pq_g) {A : Nat → Prop} (hA : pq_A (SC g) A) (l : Launch) (p0 : Nat) (hp0 : p0 < 12) (p1 : Nat) (hp1 : p1 < 12) (h : pq_H) {hh : pq_H} (e : f_X1_copyOf p0 p1 h = some hh) : pq_M (SC g) A l yX1_copyOf cX1_copyOf 3 none 0 0 [.ref ((SC g).1.2.1 p0), .ref ((SC g).1.2.1 p1)] h none hh := by
  refine pq_met hA l (own := RX1) 0 0 _ [(0, .ref ((SC g).1.2.1 p0)), (1, .ref ((SC g).1.2.1 p1))] h _ hh (by decide +kernel) rfl (Nat.le_of_ble_eq_true rfl) rfl (fun X hXl hXA hB hK hR => ?_)
  refine V.cast (F' := f_X1_copyOf p0 p1 h) (res' := hh) (fun _ => e) ?_
  have hn26 : ∀ (n : Nat), ∀ (v2 : Int32) (h : pq_H), V X (SC g) hh 3 26 [(0, .ref ((SC g).1.2.1 p0)), (1, .ref ((SC g).1.2.1 p1)), (2, .int v2)] [] h (lp (fun _ _ => none) (f_X1_copyOf_l26 p0 p1) n v2 h) := by
    refine lp_ind (fun (w26 : Int32 → pq_H → Option pq_H) => ∀ (v2 : Int32) (h : pq_H), V X (SC g) hh 3 26 [(0, .ref ((SC g).1.2.1 p0)), (1, .ref ((SC g).1.2.1 p1)), (2, .int v2)] [] h (w26 v2 h)) (fun _ _ => V.none _ _ _ _) (fun w26 ih26 => ?_)
    intro v2 h
    unfold f_X1_copyOf_l26
    refine v_iload_n hB 2 dX1_copyOf_26 rfl rfl ?_
    refine v_bipush hB 28 dX1_copyOf_27 (by decide) ?_
    refine v_icmp_ge (tgt := 50) hB dX1_copyOf_29 rfl ?_ ?_
    · exact v_retWv hB hK hR dX1_copyOf_50
    · refine v_aload_n hB 0 dX1_copyOf_32 rfl rfl ?_
      refine v_getA hB hK (fl_X1_9 g) (cA_Form_0 g p0 hp0) dX1_copyOf_33 ?_
      refine v_iload_n hB 2 dX1_copyOf_36 rfl rfl ?_
      refine v_aload_n hB 1 dX1_copyOf_37 rfl rfl ?_
      refine v_getA hB hK (fl_X1_9 g) (cA_Form_0 g p1 hp1) dX1_copyOf_38 ?_
      refine v_iload_n hB 2 dX1_copyOf_41 rfl rfl ?_
      refine v_iald hB hK (aI_told g p1 hp1) dX1_copyOf_42 ?_
      refine v_iast hB hK (aI_told g p0 hp0) dX1_copyOf_43 ?_
      refine v_iinc hB (v2 + 1) [(0, .ref ((SC g).1.2.1 p0)), (1, .ref ((SC g).1.2.1 p1)), (2, .int (v2 + 1))] 2 [1, 2, 0] dX1_copyOf_44 rfl rfl (by decide) rfl ?_
      refine v_goto (tgt := 26) hB dX1_copyOf_47 rfl ?_
      exact V.sub [0, 1, 2] rfl (ih26 (v2 + 1) (wI h (p0 + 12) v2.toNatClampNeg (rI h (p1 + 12) v2.toNatClampNeg)))
  unfold f_X1_copyOf
  refine v_aload_n hB 0 dX1_copyOf_0 rfl rfl ?_
  refine v_aload_n hB 1 dX1_copyOf_1 rfl rfl ?_
  refine v_getI hB hK (fl_X1_15 g) (cI_Form_1 g p1 hp1) dX1_copyOf_2 ?_
  refine v_putI hB hK (fl_X1_15 g) (fin_X1_1 g) (cI_Form_1 g p0 hp0) dX1_copyOf_5 ?_
  refine v_hl (fun h5 => ?_)
  refine v_aload_n hB 0 dX1_copyOf_8 rfl rfl ?_
  refine v_aload_n hB 1 dX1_copyOf_9 rfl rfl ?_
  refine v_getI hB hK (fl_X1_19 g) (cI_Form_2 g p1 hp1) dX1_copyOf_10 ?_
  refine v_putI hB hK (fl_X1_19 g) (fin_X1_2 g) (cI_Form_2 g p0 hp0) dX1_copyOf_13 ?_
  refine v_hl (fun h13 => ?_)
  refine v_aload_n hB 0 dX1_copyOf_16 rfl rfl ?_
  refine v_aload_n hB 1 dX1_copyOf_17 rfl rfl ?_
  refine v_getI hB hK (fl_X1_22 g) (cI_Form_3 g p1 hp1) dX1_copyOf_18 ?_
  refine v_putI hB hK (fl_X1_22 g) (fin_X1_3 g) (cI_Form_3 g p0 hp0) dX1_copyOf_21 ?_
  refine v_hl (fun h21 => ?_)
  refine v_iconst hB 0 dX1_copyOf_24 (by decide) ?_
  refine v_istore_n hB [(0, .ref ((SC g).1.2.1 p0)), (1, .ref ((SC g).1.2.1 p1)), (2, .int 0)] [1, 2, 0] dX1_copyOf_25 rfl (by decide) rfl ?_
  exact V.sub [0, 1, 2] rfl (hn26 1000 0 h21)

def f_X10_termOf (p0 : Int32) (p1 : Int32) : Int32 :=
  (((p0 + p1) * ((p0 + p1) + 1)) / 2) + p1
set_option maxRecDepth 100000 in
set_option maxHeartbeats 4000000 in
theorem c_X10_termOf (g : pq_g) {A : Nat → Prop} (hA : pq_A (SC g) A) (l : Launch) (p0 : Int32) (p1 : Int32) (h : pq_H) : pq_M (SC g) A l yX10_termOf cX10_termOf 2 (some .int) 0 0 [.int p0, .int p1] h (some (.int (f_X10_termOf p0 p1))) h := by
  refine pq_met hA l (own := RX10) 0 0 _ [(0, .int p0), (1, .int p1)] h _ h (by decide +kernel) rfl (Nat.le_of_ble_eq_true rfl) rfl (fun X hXl hXA hB hK hR => ?_)
  refine V.cast (F' := some (f_X10_termOf p0 p1)) (res' := (f_X10_termOf p0 p1)) (fun _ => rfl) ?_
  unfold f_X10_termOf
  refine v_iload_n hB 0 dX10_termOf_0 rfl rfl ?_
  refine v_iload_n hB 1 dX10_termOf_1 rfl rfl ?_
  refine v_iadd hB dX10_termOf_2 ?_
  refine v_iload_n hB 0 dX10_termOf_3 rfl rfl ?_
  refine v_iload_n hB 1 dX10_termOf_4 rfl rfl ?_
  refine v_iadd hB dX10_termOf_5 ?_
  refine v_iconst hB 1 dX10_termOf_6 (by decide) ?_
  refine v_iadd hB dX10_termOf_7 ?_
  refine v_imul hB dX10_termOf_8 ?_
  refine v_iconst hB 2 dX10_termOf_9 (by decide) ?_
  refine v_idiv hB dX10_termOf_10 (by decide) ?_
  refine v_iload_n hB 1 dX10_termOf_11 rfl rfl ?_
  refine v_iadd hB dX10_termOf_12 ?_
  exact v_retRi (x := (((p0 + p1) * ((p0 + p1) + 1)) / 2) + p1) hB hK hR dX10_termOf_13

def f_X1_has (p0 : Nat) (p1 : Int32) (p2 : Int32) (p3 : Int32) (h : pq_H) : Option Int32 :=
  if (rI h p0 1) = 1 then (gd (inb (f_X10_termOf p3 p1) 28) (some (rI h (p0 + 12) (f_X10_termOf p3 p1).toNatClampNeg))) else (if (rI h p0 1) = 2 then (if (p1 - p1 / 2 * 2) = 0 then (gd (inb (f_X10_termOf p2 p3) 28) (some (rI h (p0 + 12) (f_X10_termOf p2 p3).toNatClampNeg))) else (some 0)) else (if (rI h p0 1) = 3 then (gd (inb (f_X10_termOf p2 p3) 28) (some ((rI h (p0 + 12) (f_X10_termOf p2 p3).toNatClampNeg) - (rI h p0 2)))) else (if (rI h p0 1) = 4 then (gd (inb (f_X10_termOf p1 p2) 28) (some (rI h (p0 + 12) (f_X10_termOf p1 p2).toNatClampNeg))) else (if (rI h p0 1) = 5 then (if p3 = 0 then (if (p1 - p1 / 2 * 2) = 0 then (gd (inb (f_X10_termOf p2 p3) 28) (some (rI h (p0 + 12) (f_X10_termOf p2 p3).toNatClampNeg))) else (some 0)) else (some 0)) else (gd (inb (f_X10_termOf p2 p3) 28) (some (rI h (p0 + 12) (f_X10_termOf p2 p3).toNatClampNeg)))))))
set_option maxRecDepth 100000 in
set_option maxHeartbeats 4000000 in
theorem c_X1_has (g : pq_g) {A : Nat → Prop} (hA : pq_A (SC g) A) (l : Launch) (p0 : Nat) (hp0 : p0 < 12) (p1 : Int32) (p2 : Int32) (p3 : Int32) (h : pq_H) {rr : Int32} (e : f_X1_has p0 p1 p2 p3 h = some rr) : pq_M (SC g) A l yX1_has cX1_has 4 (some .int) 1 21 [.ref ((SC g).1.2.1 p0), .int p1, .int p2, .int p3] h (some (.int rr)) h := by
  refine pq_met hA l (own := RX1) 1 21 _ [(0, .ref ((SC g).1.2.1 p0)), (1, .int p1), (2, .int p2), (3, .int p3)] h _ h (by decide +kernel) rfl (Nat.le_of_ble_eq_true rfl) rfl (fun X hXl hXA hB hK hR => ?_)
  refine V.cast (F' := f_X1_has p0 p1 p2 p3 h) (res' := rr) (fun _ => e) ?_
  unfold f_X1_has
  refine v_aload_n hB 0 dX1_has_0 rfl rfl ?_
  refine v_getI hB hK (fl_X1_15 g) (cI_Form_1 g p0 hp0) dX1_has_1 ?_
  refine v_tcase (tgt := 40) hB 1 dX1_has_4 (by decide) (by decide) rfl rfl ?_ (fun n4_1 => ?_)
  · refine v_aload_n hB 0 dX1_has_40 rfl rfl ?_
    refine v_getA hB hK (fl_X1_9 g) (cA_Form_0 g p0 hp0) dX1_has_41 ?_
    refine v_iload_n hB 3 dX1_has_44 rfl rfl ?_
    refine v_iload_n hB 1 dX1_has_45 rfl rfl ?_
    refine v_bT (v_callSN hB hK hR.rm [.int p3, .int p1] [.ref ((SC g).1.2.1 (p0 + 12))] lb_X10_termOf (nk_X1_25 g) lv_X1_25 (c_X10_termOf g hK.A X.1.2.1 p3 p1 h) dX1_has_46 rfl rfl (Nat.le_of_ble_eq_true rfl) (by decide) (by decide)) ?_
    refine v_iald hB hK (aI_told g p0 hp0) dX1_has_49 ?_
    exact v_retRi (x := rI h (p0 + 12) (f_X10_termOf p3 p1).toNatClampNeg) hB hK hR dX1_has_50
  · refine v_tcase (tgt := 51) hB 2 dX1_has_4 (by decide) (by decide) rfl rfl ?_ (fun n4_2 => ?_)
    · refine v_iload_n hB 1 dX1_has_51 rfl rfl ?_
      refine v_iconst hB 2 dX1_has_52 (by decide) ?_
      refine v_irem hB dX1_has_53 (by decide) ?_
      refine v_if_eq (tgt := 61) hB dX1_has_54 rfl ?_ ?_
      · refine v_aload_n hB 0 dX1_has_61 rfl rfl ?_
        refine v_getA hB hK (fl_X1_9 g) (cA_Form_0 g p0 hp0) dX1_has_62 ?_
        refine v_iload_n hB 2 dX1_has_65 rfl rfl ?_
        refine v_iload_n hB 3 dX1_has_66 rfl rfl ?_
        refine v_bT (v_callSN hB hK hR.rm [.int p2, .int p3] [.ref ((SC g).1.2.1 (p0 + 12))] lb_X10_termOf (nk_X1_25 g) lv_X1_25 (c_X10_termOf g hK.A X.1.2.1 p2 p3 h) dX1_has_67 rfl rfl (Nat.le_of_ble_eq_true rfl) (by decide) (by decide)) ?_
        refine v_iald hB hK (aI_told g p0 hp0) dX1_has_70 ?_
        exact v_retRi (x := rI h (p0 + 12) (f_X10_termOf p2 p3).toNatClampNeg) hB hK hR dX1_has_71
      · refine v_iconst hB 0 dX1_has_57 (by decide) ?_
        refine v_goto (tgt := 71) hB dX1_has_58 rfl ?_
        exact v_retRi (x := 0) hB hK hR dX1_has_71
    · refine v_tcase (tgt := 72) hB 3 dX1_has_4 (by decide) (by decide) rfl rfl ?_ (fun n4_3 => ?_)
      · refine v_aload_n hB 0 dX1_has_72 rfl rfl ?_
        refine v_getA hB hK (fl_X1_9 g) (cA_Form_0 g p0 hp0) dX1_has_73 ?_
        refine v_iload_n hB 2 dX1_has_76 rfl rfl ?_
        refine v_iload_n hB 3 dX1_has_77 rfl rfl ?_
        refine v_bT (v_callSN hB hK hR.rm [.int p2, .int p3] [.ref ((SC g).1.2.1 (p0 + 12))] lb_X10_termOf (nk_X1_25 g) lv_X1_25 (c_X10_termOf g hK.A X.1.2.1 p2 p3 h) dX1_has_78 rfl rfl (Nat.le_of_ble_eq_true rfl) (by decide) (by decide)) ?_
        refine v_iald hB hK (aI_told g p0 hp0) dX1_has_81 ?_
        refine v_aload_n hB 0 dX1_has_82 rfl rfl ?_
        refine v_getI hB hK (fl_X1_19 g) (cI_Form_2 g p0 hp0) dX1_has_83 ?_
        refine v_isub hB dX1_has_86 ?_
        exact v_retRi (x := (rI h (p0 + 12) (f_X10_termOf p2 p3).toNatClampNeg) - (rI h p0 2)) hB hK hR dX1_has_87
      · refine v_tcase (tgt := 88) hB 4 dX1_has_4 (by decide) (by decide) rfl rfl ?_ (fun n4_4 => ?_)
        · refine v_aload_n hB 0 dX1_has_88 rfl rfl ?_
          refine v_getA hB hK (fl_X1_9 g) (cA_Form_0 g p0 hp0) dX1_has_89 ?_
          refine v_iload_n hB 1 dX1_has_92 rfl rfl ?_
          refine v_iload_n hB 2 dX1_has_93 rfl rfl ?_
          refine v_bT (v_callSN hB hK hR.rm [.int p1, .int p2] [.ref ((SC g).1.2.1 (p0 + 12))] lb_X10_termOf (nk_X1_25 g) lv_X1_25 (c_X10_termOf g hK.A X.1.2.1 p1 p2 h) dX1_has_94 rfl rfl (Nat.le_of_ble_eq_true rfl) (by decide) (by decide)) ?_
          refine v_iald hB hK (aI_told g p0 hp0) dX1_has_97 ?_
          exact v_retRi (x := rI h (p0 + 12) (f_X10_termOf p1 p2).toNatClampNeg) hB hK hR dX1_has_98
        · refine v_tcase (tgt := 99) hB 5 dX1_has_4 (by decide) (by decide) rfl rfl ?_ (fun n4_5 => ?_)
          · refine v_iload_n hB 3 dX1_has_99 rfl rfl ?_
            refine v_if_ne (tgt := 109) hB dX1_has_100 rfl ?_ ?_
            · refine v_iconst hB 0 dX1_has_109 (by decide) ?_
              refine v_goto (tgt := 123) hB dX1_has_110 rfl ?_
              exact v_retRi (x := 0) hB hK hR dX1_has_123
            · refine v_iload_n hB 1 dX1_has_103 rfl rfl ?_
              refine v_iconst hB 2 dX1_has_104 (by decide) ?_
              refine v_irem hB dX1_has_105 (by decide) ?_
              refine v_if_eq (tgt := 113) hB dX1_has_106 rfl ?_ ?_
              · refine v_aload_n hB 0 dX1_has_113 rfl rfl ?_
                refine v_getA hB hK (fl_X1_9 g) (cA_Form_0 g p0 hp0) dX1_has_114 ?_
                refine v_iload_n hB 2 dX1_has_117 rfl rfl ?_
                refine v_iload_n hB 3 dX1_has_118 rfl rfl ?_
                refine v_bT (v_callSN hB hK hR.rm [.int p2, .int p3] [.ref ((SC g).1.2.1 (p0 + 12))] lb_X10_termOf (nk_X1_25 g) lv_X1_25 (c_X10_termOf g hK.A X.1.2.1 p2 p3 h) dX1_has_119 rfl rfl (Nat.le_of_ble_eq_true rfl) (by decide) (by decide)) ?_
                refine v_iald hB hK (aI_told g p0 hp0) dX1_has_122 ?_
                exact v_retRi (x := rI h (p0 + 12) (f_X10_termOf p2 p3).toNatClampNeg) hB hK hR dX1_has_123
              · refine v_iconst hB 0 dX1_has_109 (by decide) ?_
                refine v_goto (tgt := 123) hB dX1_has_110 rfl ?_
                exact v_retRi (x := 0) hB hK hR dX1_has_123
          · refine v_tdef (tgt := 124) hB dX1_has_4 (by have z1 := lv_neT n4_1 (a := 1) (by decide); have z2 := lv_neT n4_2 (a := 2) (by decide); have z3 := lv_neT n4_3 (a := 3) (by decide); have z4 := lv_neT n4_4 (a := 4) (by decide); have z5 := lv_neT n4_5 (a := 5) (by decide); omega) rfl ?_
            refine v_aload_n hB 0 dX1_has_124 rfl rfl ?_
            refine v_getA hB hK (fl_X1_9 g) (cA_Form_0 g p0 hp0) dX1_has_125 ?_
            refine v_iload_n hB 2 dX1_has_128 rfl rfl ?_
            refine v_iload_n hB 3 dX1_has_129 rfl rfl ?_
            refine v_bT (v_callSN hB hK hR.rm [.int p2, .int p3] [.ref ((SC g).1.2.1 (p0 + 12))] lb_X10_termOf (nk_X1_25 g) lv_X1_25 (c_X10_termOf g hK.A X.1.2.1 p2 p3 h) dX1_has_130 rfl rfl (Nat.le_of_ble_eq_true rfl) (by decide) (by decide)) ?_
            refine v_iald hB hK (aI_told g p0 hp0) dX1_has_133 ?_
            exact v_retRi (x := rI h (p0 + 12) (f_X10_termOf p2 p3).toNatClampNeg) hB hK hR dX1_has_134

def f_X10_behindA_l2 (p0 : Int32) (w2 : Int32 → Option Int32) (v1 : Int32) : Option Int32 :=
  if 18 ≤ v1 then (some v1) else (if p0 < (f_X10_termOf (v1 + 1) 0) then (some v1) else (w2 (v1 + 1)))
def f_X10_behindA (p0 : Int32) : Option Int32 :=
  lp (fun _ => none) (f_X10_behindA_l2 p0) 1000 0
set_option maxRecDepth 100000 in
set_option maxHeartbeats 4000000 in
theorem c_X10_behindA (g : pq_g) {A : Nat → Prop} (hA : pq_A (SC g) A) (l : Launch) (p0 : Int32) (h : pq_H) {rr : Int32} (e : f_X10_behindA p0 = some rr) : pq_M (SC g) A l yX10_behindA cX10_behindA 2 (some .int) 1 21 [.int p0] h (some (.int rr)) h := by
  refine pq_met hA l (own := RX10) 1 21 _ [(0, .int p0)] h _ h (by decide +kernel) rfl (Nat.le_of_ble_eq_true rfl) rfl (fun X hXl hXA hB hK hR => ?_)
  refine V.cast (F' := f_X10_behindA p0) (res' := rr) (fun _ => e) ?_
  have hn2 : ∀ (n : Nat), ∀ (v1 : Int32), V X (SC g) rr 2 2 [(0, .int p0), (1, .int v1)] [] h (lp (fun _ => none) (f_X10_behindA_l2 p0) n v1) := by
    refine lp_ind (fun (w2 : Int32 → Option Int32) => ∀ (v1 : Int32), V X (SC g) rr 2 2 [(0, .int p0), (1, .int v1)] [] h (w2 v1)) (fun _ => V.none _ _ _ _) (fun w2 ih2 => ?_)
    intro v1
    unfold f_X10_behindA_l2
    refine v_iload_n hB 1 dX10_behindA_2 rfl rfl ?_
    refine v_bipush hB 18 dX10_behindA_3 (by decide) ?_
    refine v_icmp_ge (tgt := 25) hB dX10_behindA_5 rfl ?_ ?_
    · refine v_iload_n hB 1 dX10_behindA_25 rfl rfl ?_
      exact v_retRi (x := v1) hB hK hR dX10_behindA_26
    · refine v_iload_n hB 1 dX10_behindA_8 rfl rfl ?_
      refine v_iconst hB 1 dX10_behindA_9 (by decide) ?_
      refine v_iadd hB dX10_behindA_10 ?_
      refine v_iconst hB 0 dX10_behindA_11 (by decide) ?_
      refine v_bT (v_callS hB hK hR.rm [.int (v1 + 1), .int 0] [] lb_X10_termOf lv_X10_310 (c_X10_termOf g hK.A X.1.2.1 (v1 + 1) 0 h) dX10_behindA_12 rfl rfl (Nat.le_of_ble_eq_true rfl) (by decide) (by decide)) ?_
      refine v_iload_n hB 0 dX10_behindA_15 rfl rfl ?_
      refine v_icmp_gt (tgt := 25) hB dX10_behindA_16 rfl ?_ ?_
      · refine v_iload_n hB 1 dX10_behindA_25 rfl rfl ?_
        exact v_retRi (x := v1) hB hK hR dX10_behindA_26
      · refine v_iinc hB (v1 + 1) [(0, .int p0), (1, .int (v1 + 1))] 1 [1, 0] dX10_behindA_19 rfl rfl (by decide) rfl ?_
        refine v_goto (tgt := 2) hB dX10_behindA_22 rfl ?_
        exact V.sub [0, 1] rfl (ih2 (v1 + 1))
  unfold f_X10_behindA
  refine v_iconst hB 0 dX10_behindA_0 (by decide) ?_
  refine v_istore_n hB [(0, .int p0), (1, .int 0)] [1, 0] dX10_behindA_1 rfl (by decide) rfl ?_
  exact V.sub [0, 1] rfl (hn2 1000 0)

def f_X1_at (p0 : Nat) (p1 : Int32) (h : pq_H) : Option Int32 :=
  (f_X10_behindA p1).bind fun r1 => (f_X1_has p0 ((rI h p0 3) - r1) (r1 - (p1 - (f_X10_termOf r1 0))) (p1 - (f_X10_termOf r1 0)) h).bind fun r24 => some r24
set_option maxRecDepth 100000 in
set_option maxHeartbeats 4000000 in
theorem c_X1_at (g : pq_g) {A : Nat → Prop} (hA : pq_A (SC g) A) (l : Launch) (p0 : Nat) (hp0 : p0 < 12) (p1 : Int32) (h : pq_H) {rr : Int32} (e : f_X1_at p0 p1 h = some rr) : pq_M (SC g) A l yX1_at cX1_at 4 (some .int) 2 44 [.ref ((SC g).1.2.1 p0), .int p1] h (some (.int rr)) h := by
  refine pq_met hA l (own := RX1) 2 44 _ [(0, .ref ((SC g).1.2.1 p0)), (1, .int p1)] h _ h (by decide +kernel) rfl (Nat.le_of_ble_eq_true rfl) rfl (fun X hXl hXA hB hK hR => ?_)
  refine V.cast (F' := f_X1_at p0 p1 h) (res' := rr) (fun _ => e) ?_
  unfold f_X1_at
  refine v_iload_n hB 1 dX1_at_0 rfl rfl ?_
  refine v_bRi (fun r1 e1 => v_callSN hB hK hR.rm [.int p1] [] lb_X10_behindA (nk_X1_29 g) lv_X1_29 (c_X10_behindA g hK.A X.1.2.1 p1 h e1) dX1_at_1 rfl rfl (Nat.le_of_ble_eq_true rfl) (by decide) (by decide)) (fun r1 => ?_)
  refine v_istore_n hB [(0, .ref ((SC g).1.2.1 p0)), (1, .int p1), (2, .int r1)] [1, 2, 0] dX1_at_4 rfl (by decide) rfl ?_
  refine v_iload_n hB 1 dX1_at_5 rfl rfl ?_
  refine v_iload_n hB 2 dX1_at_6 rfl rfl ?_
  refine v_iconst hB 0 dX1_at_7 (by decide) ?_
  refine v_bT (v_callSN hB hK hR.rm [.int r1, .int 0] [.int p1] lb_X10_termOf (nk_X1_25 g) lv_X1_25 (c_X10_termOf g hK.A X.1.2.1 r1 0 h) dX1_at_8 rfl rfl (Nat.le_of_ble_eq_true rfl) (by decide) (by decide)) ?_
  refine v_isub hB dX1_at_11 ?_
  refine v_istore_n hB [(0, .ref ((SC g).1.2.1 p0)), (1, .int p1), (2, .int r1), (3, .int (p1 - (f_X10_termOf r1 0)))] [1, 2, 3, 0] dX1_at_12 rfl (by decide) rfl ?_
  refine v_aload_n hB 0 dX1_at_13 rfl rfl ?_
  refine v_aload_n hB 0 dX1_at_14 rfl rfl ?_
  refine v_getI hB hK (fl_X1_22 g) (cI_Form_3 g p0 hp0) dX1_at_15 ?_
  refine v_iload_n hB 2 dX1_at_18 rfl rfl ?_
  refine v_isub hB dX1_at_19 ?_
  refine v_iload_n hB 2 dX1_at_20 rfl rfl ?_
  refine v_iload_n hB 3 dX1_at_21 rfl rfl ?_
  refine v_isub hB dX1_at_22 ?_
  refine v_iload_n hB 3 dX1_at_23 rfl rfl ?_
  refine v_bRi (fun r24 e24 => v_callV hB hK hR.rm [.int ((rI h p0 3) - r1), .int (r1 - (p1 - (f_X10_termOf r1 0))), .int (p1 - (f_X10_termOf r1 0))] [] (o_Form g p0 hp0) lb_X1_has lv_X1_33 (c_X1_has g hK.A X.1.2.1 p0 hp0 ((rI h p0 3) - r1) (r1 - (p1 - (f_X10_termOf r1 0))) (p1 - (f_X10_termOf r1 0)) h e24) dX1_at_24 rfl rfl (Nat.le_of_ble_eq_true rfl) (by decide) (by decide)) (fun r24 => ?_)
  exact v_retRi (x := r24) hB hK hR dX1_at_27

def f_X10_termsOf (p0 : Int32) : Int32 :=
  ((p0 + 1) * (p0 + 2)) / 2
set_option maxRecDepth 100000 in
set_option maxHeartbeats 4000000 in
theorem c_X10_termsOf (g : pq_g) {A : Nat → Prop} (hA : pq_A (SC g) A) (l : Launch) (p0 : Int32) (h : pq_H) : pq_M (SC g) A l yX10_termsOf cX10_termsOf 1 (some .int) 0 0 [.int p0] h (some (.int (f_X10_termsOf p0))) h := by
  refine pq_met hA l (own := RX10) 0 0 _ [(0, .int p0)] h _ h (by decide +kernel) rfl (Nat.le_of_ble_eq_true rfl) rfl (fun X hXl hXA hB hK hR => ?_)
  refine V.cast (F' := some (f_X10_termsOf p0)) (res' := (f_X10_termsOf p0)) (fun _ => rfl) ?_
  unfold f_X10_termsOf
  refine v_iload_n hB 0 dX10_termsOf_0 rfl rfl ?_
  refine v_iconst hB 1 dX10_termsOf_1 (by decide) ?_
  refine v_iadd hB dX10_termsOf_2 ?_
  refine v_iload_n hB 0 dX10_termsOf_3 rfl rfl ?_
  refine v_iconst hB 2 dX10_termsOf_4 (by decide) ?_
  refine v_iadd hB dX10_termsOf_5 ?_
  refine v_imul hB dX10_termsOf_6 ?_
  refine v_iconst hB 2 dX10_termsOf_7 (by decide) ?_
  refine v_idiv hB dX10_termsOf_8 (by decide) ?_
  exact v_retRi (x := ((p0 + 1) * (p0 + 2)) / 2) hB hK hR dX10_termsOf_9

def f_X1_howMany_j42 (w4 : Int32 → Int32 → Option Int32) (v2 : Int32) (v3 : Int32) : Option Int32 :=
  w4 v2 (v3 + 1)
def f_X1_howMany_j39 (w4 : Int32 → Int32 → Option Int32) (v2 : Int32) (v3 : Int32) : Option Int32 :=
  f_X1_howMany_j42 w4 (v2 + 1) v3
def f_X1_howMany_l4 (p0 : Nat) (p1 : Bool) (h : pq_H) (w4 : Int32 → Int32 → Option Int32) (v2 : Int32) (v3 : Int32) : Option Int32 :=
  if (f_X10_termsOf (rI h p0 3)) ≤ v3 then (some v2) else ((f_X1_at p0 v3 h).bind fun r17 => if p1 = true then (if 0 ≤ r17 then (f_X1_howMany_j42 w4 v2 v3) else (f_X1_howMany_j39 w4 v2 v3)) else (if r17 = 0 then (f_X1_howMany_j39 w4 v2 v3) else (f_X1_howMany_j42 w4 v2 v3)))
def f_X1_howMany (p0 : Nat) (p1 : Bool) (h : pq_H) : Option Int32 :=
  lp (fun _ _ => none) (f_X1_howMany_l4 p0 p1 h) 1000 0 0
set_option maxRecDepth 100000 in
set_option maxHeartbeats 4000000 in
theorem c_X1_howMany (g : pq_g) {A : Nat → Prop} (hA : pq_A (SC g) A) (l : Launch) (p0 : Nat) (hp0 : p0 < 12) (p1 : Bool) (h : pq_H) {rr : Int32} (e : f_X1_howMany p0 p1 h = some rr) : pq_M (SC g) A l yX1_howMany cX1_howMany 5 (some .int) 3 67 [.ref ((SC g).1.2.1 p0), .int (b2i p1)] h (some (.int rr)) h := by
  refine pq_met hA l (own := RX1) 3 67 _ [(0, .ref ((SC g).1.2.1 p0)), (1, .int (b2i p1))] h _ h (by decide +kernel) rfl (Nat.le_of_ble_eq_true rfl) rfl (fun X hXl hXA hB hK hR => ?_)
  refine V.cast (F' := f_X1_howMany p0 p1 h) (res' := rr) (fun _ => e) ?_
  have hn4 : ∀ (n : Nat), ∀ (v2 : Int32) (v3 : Int32), V X (SC g) rr 5 4 [(0, .ref ((SC g).1.2.1 p0)), (1, .int (b2i p1)), (2, .int v2), (3, .int v3)] [] h (lp (fun _ _ => none) (f_X1_howMany_l4 p0 p1 h) n v2 v3) := by
    refine lp_ind (fun (w4 : Int32 → Int32 → Option Int32) => ∀ (v2 : Int32) (v3 : Int32), V X (SC g) rr 5 4 [(0, .ref ((SC g).1.2.1 p0)), (1, .int (b2i p1)), (2, .int v2), (3, .int v3)] [] h (w4 v2 v3)) (fun _ _ => V.none _ _ _ _) (fun w4 ih4 => ?_)
    have hn42 : ∀ (v2 : Int32) (v3 : Int32), V X (SC g) rr 5 42 [(0, .ref ((SC g).1.2.1 p0)), (1, .int (b2i p1)), (2, .int v2), (3, .int v3)] [] h (f_X1_howMany_j42 w4 v2 v3) := by
      intro v2 v3
      unfold f_X1_howMany_j42
      refine v_iinc hB (v3 + 1) [(0, .ref ((SC g).1.2.1 p0)), (1, .int (b2i p1)), (2, .int v2), (3, .int (v3 + 1))] 3 [1, 2, 3, 0] dX1_howMany_42 rfl rfl (by decide) rfl ?_
      refine v_goto (tgt := 4) hB dX1_howMany_45 rfl ?_
      exact V.sub [0, 1, 2, 3] rfl (ih4 v2 (v3 + 1))
    have hn39 : ∀ (v2 : Int32) (v3 : Int32), V X (SC g) rr 5 39 [(0, .ref ((SC g).1.2.1 p0)), (1, .int (b2i p1)), (2, .int v2), (3, .int v3)] [] h (f_X1_howMany_j39 w4 v2 v3) := by
      intro v2 v3
      unfold f_X1_howMany_j39
      refine v_iinc hB (v2 + 1) [(0, .ref ((SC g).1.2.1 p0)), (1, .int (b2i p1)), (2, .int (v2 + 1)), (3, .int v3)] 2 [1, 2, 0, 3] dX1_howMany_39 rfl rfl (by decide) rfl ?_
      exact V.sub [0, 1, 2, 3] rfl (hn42 (v2 + 1) v3)
    intro v2 v3
    unfold f_X1_howMany_l4
    refine v_iload_n hB 3 dX1_howMany_4 rfl rfl ?_
    refine v_aload_n hB 0 dX1_howMany_5 rfl rfl ?_
    refine v_getI hB hK (fl_X1_22 g) (cI_Form_3 g p0 hp0) dX1_howMany_6 ?_
    refine v_bT (v_callSN hB hK hR.rm [.int (rI h p0 3)] [.int v3] lb_X10_termsOf (nk_X1_37 g) lv_X1_37 (c_X10_termsOf g hK.A X.1.2.1 (rI h p0 3) h) dX1_howMany_9 rfl rfl (Nat.le_of_ble_eq_true rfl) (by decide) (by decide)) ?_
    refine v_icmp_ge (tgt := 48) hB dX1_howMany_12 rfl ?_ ?_
    · refine v_iload_n hB 2 dX1_howMany_48 rfl rfl ?_
      exact v_retRi (x := v2) hB hK hR dX1_howMany_49
    · refine v_aload_n hB 0 dX1_howMany_15 rfl rfl ?_
      refine v_iload_n hB 3 dX1_howMany_16 rfl rfl ?_
      refine v_bRi (fun r17 e17 => v_callV hB hK hR.rm [.int v3] [] (o_Form g p0 hp0) lb_X1_at lv_X1_40 (c_X1_at g hK.A X.1.2.1 p0 hp0 v3 h e17) dX1_howMany_17 rfl rfl (Nat.le_of_ble_eq_true rfl) (by decide) (by decide)) (fun r17 => ?_)
      refine v_istore hB [(0, .ref ((SC g).1.2.1 p0)), (1, .int (b2i p1)), (2, .int v2), (3, .int v3), (4, .int r17)] [1, 2, 3, 4, 0] dX1_howMany_20 (by decide) rfl ?_
      refine v_iload_n hB 1 dX1_howMany_22 rfl rfl ?_
      refine v_ifz_eq (r := p1) (tgt := 34) hB dX1_howMany_23 rfl ?_ ?_
      · refine v_iload hB 4 dX1_howMany_34 rfl ?_
        refine v_if_ne (tgt := 42) hB dX1_howMany_36 rfl ?_ ?_
        · exact V.sub [0, 1, 2, 3] rfl (hn42 v2 v3)
        · exact V.sub [0, 1, 2, 3] rfl (hn39 v2 v3)
      · refine v_iload hB 4 dX1_howMany_26 rfl ?_
        refine v_if_ge (tgt := 42) hB dX1_howMany_28 rfl ?_ ?_
        · exact V.sub [0, 1, 2, 3] rfl (hn42 v2 v3)
        · refine v_goto (tgt := 39) hB dX1_howMany_31 rfl ?_
          exact V.sub [0, 1, 2, 3] rfl (hn39 v2 v3)
  unfold f_X1_howMany
  refine v_iconst hB 0 dX1_howMany_0 (by decide) ?_
  refine v_istore_n hB [(0, .ref ((SC g).1.2.1 p0)), (1, .int (b2i p1)), (2, .int 0)] [1, 2, 0] dX1_howMany_1 rfl (by decide) rfl ?_
  refine v_iconst hB 0 dX1_howMany_2 (by decide) ?_
  refine v_istore_n hB [(0, .ref ((SC g).1.2.1 p0)), (1, .int (b2i p1)), (2, .int 0), (3, .int 0)] [1, 2, 3, 0] dX1_howMany_3 rfl (by decide) rfl ?_
  exact V.sub [0, 1, 2, 3] rfl (hn4 1000 0 0)

def f_X10_notBelow (p0 : Int32) (p1 : Int32) : Bool :=
  if p0 < 0 then (true) else (if p0 < p1 then (false) else (true))
set_option maxRecDepth 100000 in
set_option maxHeartbeats 4000000 in
theorem c_X10_notBelow (g : pq_g) {A : Nat → Prop} (hA : pq_A (SC g) A) (l : Launch) (p0 : Int32) (p1 : Int32) (h : pq_H) : pq_M (SC g) A l yX10_notBelow cX10_notBelow 2 (some .boolean) 0 0 [.int p0, .int p1] h (some (.int (b2i (f_X10_notBelow p0 p1)))) h := by
  refine pq_met hA l (own := RX10) 0 0 _ [(0, .int p0), (1, .int p1)] h _ h (by decide +kernel) rfl (Nat.le_of_ble_eq_true rfl) rfl (fun X hXl hXA hB hK hR => ?_)
  refine V.cast (F' := some (f_X10_notBelow p0 p1)) (res' := (f_X10_notBelow p0 p1)) (fun _ => rfl) ?_
  unfold f_X10_notBelow
  refine v_iload_n hB 0 dX10_notBelow_0 rfl rfl ?_
  refine v_if_ltT (tgt := 9) hB dX10_notBelow_1 rfl ?_ ?_
  · refine v_iconst hB 1 dX10_notBelow_9 (by decide) ?_
    refine v_goto (tgt := 14) hB dX10_notBelow_10 rfl ?_
    exact v_retRz (x := true) hB hK hR dX10_notBelow_14
  · refine v_iload_n hB 0 dX10_notBelow_4 rfl rfl ?_
    refine v_iload_n hB 1 dX10_notBelow_5 rfl rfl ?_
    refine v_icmp_ltT (tgt := 13) hB dX10_notBelow_6 rfl ?_ ?_
    · refine v_iconst hB 0 dX10_notBelow_13 (by decide) ?_
      exact v_retRz (x := false) hB hK hR dX10_notBelow_14
    · refine v_iconst hB 1 dX10_notBelow_9 (by decide) ?_
      refine v_goto (tgt := 14) hB dX10_notBelow_10 rfl ?_
      exact v_retRz (x := true) hB hK hR dX10_notBelow_14

def f_X3_at (p1 : Int32) (h : pq_H) : Option Int32 :=
  if (f_X10_notBelow p1 (rI h 61 1)) = true then (some (-1)) else (gd (inb p1 72) (some (rI h 62 p1.toNatClampNeg)))
set_option maxRecDepth 100000 in
set_option maxHeartbeats 4000000 in
theorem c_X3_at (g : pq_g) {A : Nat → Prop} (hA : pq_A (SC g) A) (l : Launch) (p1 : Int32) (h : pq_H) {rr : Int32} (e : f_X3_at p1 h = some rr) : pq_M (SC g) A l yX3_at cX3_at 2 (some .int) 1 21 [.ref ((SC g).1.2.1 61), .int p1] h (some (.int rr)) h := by
  refine pq_met hA l (own := RX3) 1 21 _ [(0, .ref ((SC g).1.2.1 61)), (1, .int p1)] h _ h (by decide +kernel) rfl (Nat.le_of_ble_eq_true rfl) rfl (fun X hXl hXA hB hK hR => ?_)
  refine V.cast (F' := f_X3_at p1 h) (res' := rr) (fun _ => e) ?_
  unfold f_X3_at
  refine v_iload_n hB 1 dX3_at_0 rfl rfl ?_
  refine v_aload_n hB 0 dX3_at_1 rfl rfl ?_
  refine v_getI hB hK (fl_X3_15 g) (cCI_61_1 g) dX3_at_2 ?_
  refine v_bT (v_callSN hB hK hR.rm [.int p1, .int (rI h 61 1)] [] lb_X10_notBelow (nk_X3_19 g) lv_X3_19 (c_X10_notBelow g hK.A X.1.2.1 p1 (rI h 61 1) h) dX3_at_5 rfl rfl (Nat.le_of_ble_eq_true rfl) (by decide) (by decide)) ?_
  refine v_ifz_eq (r := f_X10_notBelow p1 (rI h 61 1)) (tgt := 15) hB dX3_at_8 rfl ?_ ?_
  · refine v_aload_n hB 0 dX3_at_15 rfl rfl ?_
    refine v_getA hB hK (fl_X3_9 g) (cCA_61_0 g) dX3_at_16 ?_
    refine v_iload_n hB 1 dX3_at_19 rfl rfl ?_
    refine v_iald hB hK (aCI_62 g) dX3_at_20 ?_
    exact v_retRi (x := rI h 62 p1.toNatClampNeg) hB hK hR dX3_at_21
  · refine v_iconst hB (-1) dX3_at_11 (by decide) ?_
    refine v_goto (tgt := 21) hB dX3_at_12 rfl ?_
    exact v_retRi (x := (-1)) hB hK hR dX3_at_21

def f_X3_hasDigit (p1 : Int32) (h : pq_H) : Option Bool :=
  (f_X3_at p1 h).bind fun r2 => if r2 < 48 then (some false) else ((f_X3_at p1 h).bind fun r12 => if 57 < r12 then (some false) else (some true))
set_option maxRecDepth 100000 in
set_option maxHeartbeats 4000000 in
theorem c_X3_hasDigit (g : pq_g) {A : Nat → Prop} (hA : pq_A (SC g) A) (l : Launch) (p1 : Int32) (h : pq_H) {rr : Bool} (e : f_X3_hasDigit p1 h = some rr) : pq_M (SC g) A l yX3_hasDigit cX3_hasDigit 2 (some .boolean) 2 42 [.ref ((SC g).1.2.1 61), .int p1] h (some (.int (b2i rr))) h := by
  refine pq_met hA l (own := RX3) 2 42 _ [(0, .ref ((SC g).1.2.1 61)), (1, .int p1)] h _ h (by decide +kernel) rfl (Nat.le_of_ble_eq_true rfl) rfl (fun X hXl hXA hB hK hR => ?_)
  refine V.cast (F' := f_X3_hasDigit p1 h) (res' := rr) (fun _ => e) ?_
  unfold f_X3_hasDigit
  refine v_aload_n hB 0 dX3_hasDigit_0 rfl rfl ?_
  refine v_iload_n hB 1 dX3_hasDigit_1 rfl rfl ?_
  refine v_bRi (fun r2 e2 => v_callV hB hK hR.rm [.int p1] [] (oC_61 g) lb_X3_at lv_X3_23 (c_X3_at g hK.A X.1.2.1 p1 h e2) dX3_hasDigit_2 rfl rfl (Nat.le_of_ble_eq_true rfl) (by decide) (by decide)) (fun r2 => ?_)
  refine v_bipush hB 48 dX3_hasDigit_5 (by decide) ?_
  refine v_icmp_lt (tgt := 24) hB dX3_hasDigit_7 rfl ?_ ?_
  · refine v_iconst hB 0 dX3_hasDigit_24 (by decide) ?_
    exact v_retRz (x := false) hB hK hR dX3_hasDigit_25
  · refine v_aload_n hB 0 dX3_hasDigit_10 rfl rfl ?_
    refine v_iload_n hB 1 dX3_hasDigit_11 rfl rfl ?_
    refine v_bRi (fun r12 e12 => v_callV hB hK hR.rm [.int p1] [] (oC_61 g) lb_X3_at lv_X3_23 (c_X3_at g hK.A X.1.2.1 p1 h e12) dX3_hasDigit_12 rfl rfl (Nat.le_of_ble_eq_true rfl) (by decide) (by decide)) (fun r12 => ?_)
    refine v_bipush hB 57 dX3_hasDigit_15 (by decide) ?_
    refine v_icmp_gt (tgt := 24) hB dX3_hasDigit_17 rfl ?_ ?_
    · refine v_iconst hB 0 dX3_hasDigit_24 (by decide) ?_
      exact v_retRz (x := false) hB hK hR dX3_hasDigit_25
    · refine v_iconst hB 1 dX3_hasDigit_20 (by decide) ?_
      refine v_goto (tgt := 25) hB dX3_hasDigit_21 rfl ?_
      exact v_retRz (x := true) hB hK hR dX3_hasDigit_25

def f_X2_readNumber_l20 (w20 : Int32 → Int32 → pq_H → Option (Int32 × pq_H)) (v1 : Int32) (v2 : Int32) (h : pq_H) : Option (Int32 × pq_H) :=
  if 3 ≤ v2 then (some (v1, h)) else (gd (rR h 63 1 == some 61) ((f_X3_hasDigit (rI h 63 2) h).bind fun r33 => if r33 = true then (gd (rR h 63 1 == some 61) ((f_X3_at (rI h 63 2) h).bind fun r51 => w20 (((v1 * 10) + r51) - 48) (v2 + 1) (wI h 63 2 ((rI h 63 2) + 1)))) else (some (v1, h))))
def f_X2_readNumber (h : pq_H) : Option (Int32 × pq_H) :=
  gd (rR h 63 1 == some 61) ((f_X3_hasDigit (rI h 63 2) h).bind fun r8 => if r8 = true then (lp (fun _ _ _ => none) (f_X2_readNumber_l20) 1000 0 0 h) else (some (1, h)))
set_option maxRecDepth 100000 in
set_option maxHeartbeats 4000000 in
theorem c_X2_readNumber (g : pq_g) {A : Nat → Prop} (hA : pq_A (SC g) A) (l : Launch) (h : pq_H) {rr : Int32} {hh : pq_H} (e : f_X2_readNumber h = some (rr, hh)) : pq_M (SC g) A l yX2_readNumber cX2_readNumber 3 (some .int) 3 63 [.ref ((SC g).1.2.1 63)] h (some (.int rr)) hh := by
  refine pq_met hA l (own := RX2) 3 63 _ [(0, .ref ((SC g).1.2.1 63))] h _ hh (by decide +kernel) rfl (Nat.le_of_ble_eq_true rfl) rfl (fun X hXl hXA hB hK hR => ?_)
  refine V.cast (F' := f_X2_readNumber h) (res' := (rr, hh)) (fun _ => e) ?_
  have hn20 : ∀ (n : Nat), ∀ (v1 : Int32) (v2 : Int32) (h : pq_H), V X (SC g) (rr, hh) 3 20 [(0, .ref ((SC g).1.2.1 63)), (1, .int v1), (2, .int v2)] [] h (lp (fun _ _ _ => none) (f_X2_readNumber_l20) n v1 v2 h) := by
    refine lp_ind (fun (w20 : Int32 → Int32 → pq_H → Option (Int32 × pq_H)) => ∀ (v1 : Int32) (v2 : Int32) (h : pq_H), V X (SC g) (rr, hh) 3 20 [(0, .ref ((SC g).1.2.1 63)), (1, .int v1), (2, .int v2)] [] h (w20 v1 v2 h)) (fun _ _ _ => V.none _ _ _ _) (fun w20 ih20 => ?_)
    intro v1 v2 h
    unfold f_X2_readNumber_l20
    refine v_iload_n hB 2 dX2_readNumber_20 rfl rfl ?_
    refine v_iconst hB 3 dX2_readNumber_21 (by decide) ?_
    refine v_icmp_ge (tgt := 75) hB dX2_readNumber_22 rfl ?_ ?_
    · refine v_iload_n hB 1 dX2_readNumber_75 rfl rfl ?_
      exact v_retWi (x := v1) hB hK hR dX2_readNumber_76
    · refine v_aload_n hB 0 dX2_readNumber_25 rfl rfl ?_
      refine v_getR hB hK 61 (fl_X2_15 g) (cCR_63_1 g) dX2_readNumber_26 ?_
      refine v_aload_n hB 0 dX2_readNumber_29 rfl rfl ?_
      refine v_getI hB hK (fl_X2_19 g) (cCI_63_2 g) dX2_readNumber_30 ?_
      refine v_bRz (fun r33 e33 => v_callV hB hK hR.rm [.int (rI h 63 2)] [] (oC_61 g) lb_X3_hasDigit lv_X2_63 (c_X3_hasDigit g hK.A X.1.2.1 (rI h 63 2) h e33) dX2_readNumber_33 rfl rfl (Nat.le_of_ble_eq_true rfl) (by decide) (by decide)) (fun r33 => ?_)
      refine v_ifz_eq (r := r33) (tgt := 75) hB dX2_readNumber_36 rfl ?_ ?_
      · refine v_iload_n hB 1 dX2_readNumber_75 rfl rfl ?_
        exact v_retWi (x := v1) hB hK hR dX2_readNumber_76
      · refine v_iload_n hB 1 dX2_readNumber_39 rfl rfl ?_
        refine v_bipush hB 10 dX2_readNumber_40 (by decide) ?_
        refine v_imul hB dX2_readNumber_42 ?_
        refine v_aload_n hB 0 dX2_readNumber_43 rfl rfl ?_
        refine v_getR hB hK 61 (fl_X2_15 g) (cCR_63_1 g) dX2_readNumber_44 ?_
        refine v_aload_n hB 0 dX2_readNumber_47 rfl rfl ?_
        refine v_getI hB hK (fl_X2_19 g) (cCI_63_2 g) dX2_readNumber_48 ?_
        refine v_bRi (fun r51 e51 => v_callV hB hK hR.rm [.int (rI h 63 2)] [.int (v1 * 10)] (oC_61 g) lb_X3_at lv_X2_31 (c_X3_at g hK.A X.1.2.1 (rI h 63 2) h e51) dX2_readNumber_51 rfl rfl (Nat.le_of_ble_eq_true rfl) (by decide) (by decide)) (fun r51 => ?_)
        refine v_iadd hB dX2_readNumber_54 ?_
        refine v_bipush hB 48 dX2_readNumber_55 (by decide) ?_
        refine v_isub hB dX2_readNumber_57 ?_
        refine v_istore_n hB [(0, .ref ((SC g).1.2.1 63)), (1, .int (((v1 * 10) + r51) - 48)), (2, .int v2)] [1, 0, 2] dX2_readNumber_58 rfl (by decide) rfl ?_
        refine v_aload_n hB 0 dX2_readNumber_59 rfl rfl ?_
        refine v_dup hB dX2_readNumber_60 rfl ?_
        refine v_getI hB hK (fl_X2_19 g) (cCI_63_2 g) dX2_readNumber_61 ?_
        refine v_iconst hB 1 dX2_readNumber_64 (by decide) ?_
        refine v_iadd hB dX2_readNumber_65 ?_
        refine v_putI hB hK (fl_X2_19 g) (fin_X2_2 g) (cCI_63_2 g) dX2_readNumber_66 ?_
        refine v_iinc hB (v2 + 1) [(0, .ref ((SC g).1.2.1 63)), (1, .int (((v1 * 10) + r51) - 48)), (2, .int (v2 + 1))] 2 [1, 2, 0] dX2_readNumber_69 rfl rfl (by decide) rfl ?_
        refine v_goto (tgt := 20) hB dX2_readNumber_72 rfl ?_
        exact V.sub [0, 1, 2] rfl (ih20 (((v1 * 10) + r51) - 48) (v2 + 1) (wI h 63 2 ((rI h 63 2) + 1)))
  unfold f_X2_readNumber
  refine v_aload_n hB 0 dX2_readNumber_0 rfl rfl ?_
  refine v_getR hB hK 61 (fl_X2_15 g) (cCR_63_1 g) dX2_readNumber_1 ?_
  refine v_aload_n hB 0 dX2_readNumber_4 rfl rfl ?_
  refine v_getI hB hK (fl_X2_19 g) (cCI_63_2 g) dX2_readNumber_5 ?_
  refine v_bRz (fun r8 e8 => v_callV hB hK hR.rm [.int (rI h 63 2)] [] (oC_61 g) lb_X3_hasDigit lv_X2_63 (c_X3_hasDigit g hK.A X.1.2.1 (rI h 63 2) h e8) dX2_readNumber_8 rfl rfl (Nat.le_of_ble_eq_true rfl) (by decide) (by decide)) (fun r8 => ?_)
  refine v_ifz_ne (r := r8) (tgt := 16) hB dX2_readNumber_11 rfl ?_ ?_
  · refine v_iconst hB 0 dX2_readNumber_16 (by decide) ?_
    refine v_istore_n hB [(0, .ref ((SC g).1.2.1 63)), (1, .int 0)] [1, 0] dX2_readNumber_17 rfl (by decide) rfl ?_
    refine v_iconst hB 0 dX2_readNumber_18 (by decide) ?_
    refine v_istore_n hB [(0, .ref ((SC g).1.2.1 63)), (1, .int 0), (2, .int 0)] [1, 2, 0] dX2_readNumber_19 rfl (by decide) rfl ?_
    exact V.sub [0, 1, 2] rfl (hn20 1000 0 0 h)
  · refine v_iconst hB 1 dX2_readNumber_14 (by decide) ?_
    exact v_retWi (x := 1) hB hK hR dX2_readNumber_15

def f_X2_fits_j23 (s0 : Int32) (s1 : Int32) : Bool :=
  if s1 < s0 then (false) else (true)
def f_X2_fits (p1 : Int32) (h : pq_H) : Bool :=
  if (rI h 63 4) = (-1) then (f_X2_fits_j23 ((rI h 63 3) + p1) 6) else (f_X2_fits_j23 ((rI h 63 3) + p1) (rI h 63 4))
set_option maxRecDepth 100000 in
set_option maxHeartbeats 4000000 in
theorem c_X2_fits (g : pq_g) {A : Nat → Prop} (hA : pq_A (SC g) A) (l : Launch) (p1 : Int32) (h : pq_H) : pq_M (SC g) A l yX2_fits cX2_fits 2 (some .boolean) 0 0 [.ref ((SC g).1.2.1 63), .int p1] h (some (.int (b2i (f_X2_fits p1 h)))) h := by
  refine pq_met hA l (own := RX2) 0 0 _ [(0, .ref ((SC g).1.2.1 63)), (1, .int p1)] h _ h (by decide +kernel) rfl (Nat.le_of_ble_eq_true rfl) rfl (fun X hXl hXA hB hK hR => ?_)
  refine V.cast (F' := some (f_X2_fits p1 h)) (res' := (f_X2_fits p1 h)) (fun _ => rfl) ?_
  have hn23 : ∀ (s0 : Int32) (s1 : Int32), V X (SC g) (f_X2_fits p1 h) 2 23 [] [.int s1, .int s0] h (some (f_X2_fits_j23 s0 s1)) := by
    intro s0 s1
    unfold f_X2_fits_j23
    refine v_icmp_gtT (tgt := 30) hB dX2_fits_23 rfl ?_ ?_
    · refine v_iconst hB 0 dX2_fits_30 (by decide) ?_
      exact v_retRz (x := false) hB hK hR dX2_fits_31
    · refine v_iconst hB 1 dX2_fits_26 (by decide) ?_
      refine v_goto (tgt := 31) hB dX2_fits_27 rfl ?_
      exact v_retRz (x := true) hB hK hR dX2_fits_31
  unfold f_X2_fits
  refine v_aload_n hB 0 dX2_fits_0 rfl rfl ?_
  refine v_getI hB hK (fl_X2_51 g) (cCI_63_3 g) dX2_fits_1 ?_
  refine v_iload_n hB 1 dX2_fits_4 rfl rfl ?_
  refine v_iadd hB dX2_fits_5 ?_
  refine v_aload_n hB 0 dX2_fits_6 rfl rfl ?_
  refine v_getI hB hK (fl_X2_23 g) (cCI_63_4 g) dX2_fits_7 ?_
  refine v_iconst hB (-1) dX2_fits_10 (by decide) ?_
  refine v_icmp_neT (tgt := 19) hB dX2_fits_11 rfl ?_ ?_
  · refine v_aload_n hB 0 dX2_fits_19 rfl rfl ?_
    refine v_getI hB hK (fl_X2_23 g) (cCI_63_4 g) dX2_fits_20 ?_
    exact V.sub [] rfl (hn23 ((rI h 63 3) + p1) (rI h 63 4))
  · refine v_bipush hB 6 dX2_fits_14 (by decide) ?_
    refine v_goto (tgt := 23) hB dX2_fits_16 rfl ?_
    exact V.sub [] rfl (hn23 ((rI h 63 3) + p1) 6)

def f_X2_readPower_j133 (p1 : Int32) (h : pq_H) : Option (Bool × pq_H) :=
  gd (inb p1 3) (some (true, wI h 63 3 ((rI h 63 3) + (rI h 64 p1.toNatClampNeg))))
def f_X2_readPower (p1 : Int32) (h : pq_H) : Option (Bool × pq_H) :=
  gd (inb p1 3) (hl (wI h 64 p1.toNatClampNeg 0) fun h6 => gd (rR h6 63 1 == some 61) ((f_X3_at (rI h6 63 2) h6).bind fun r15 => if r15 = (97 + p1) then (if (f_X2_fits 1 h6) = true then (hl (wI h6 63 2 ((rI h6 63 2) + 1)) fun h44 => gd (inb p1 3) (hl (wI h44 64 p1.toNatClampNeg 1) fun h53 => gd (rR h53 63 1 == some 61) ((f_X3_at (rI h53 63 2) h53).bind fun r62 => if r62 = 94 then (hl (wI h53 63 2 ((rI h53 63 2) + 1)) fun h77 => gd (rR h77 63 1 == some 61) ((f_X3_at (rI h77 63 2) h77).bind fun r88 => if (r88 - 48) < 1 then (some (false, h77)) else (if 6 < (r88 - 48) then (some (false, h77)) else (if (f_X2_fits (r88 - 48) h77) = true then (hl (wI h77 63 2 ((rI h77 63 2) + 1)) fun h123 => gd (inb p1 3) (f_X2_readPower_j133 p1 (wI h123 64 p1.toNatClampNeg (r88 - 48)))) else (some (false, h77)))))) else (f_X2_readPower_j133 p1 h53)))) else (some (false, h6))) else (some (true, h6))))
set_option maxRecDepth 100000 in
set_option maxHeartbeats 4000000 in
theorem c_X2_readPower (g : pq_g) {A : Nat → Prop} (hA : pq_A (SC g) A) (l : Launch) (p1 : Int32) (h : pq_H) {rr : Bool} {hh : pq_H} (e : f_X2_readPower p1 h = some (rr, hh)) : pq_M (SC g) A l yX2_readPower cX2_readPower 3 (some .boolean) 2 42 [.ref ((SC g).1.2.1 63), .int p1] h (some (.int (b2i rr))) hh := by
  refine pq_met hA l (own := RX2) 2 42 _ [(0, .ref ((SC g).1.2.1 63)), (1, .int p1)] h _ hh (by decide +kernel) rfl (Nat.le_of_ble_eq_true rfl) rfl (fun X hXl hXA hB hK hR => ?_)
  refine V.cast (F' := f_X2_readPower p1 h) (res' := (rr, hh)) (fun _ => e) ?_
  have hn133 : ∀ (h : pq_H), V X (SC g) (rr, hh) 3 133 [(0, .ref ((SC g).1.2.1 63)), (1, .int p1)] [] h (f_X2_readPower_j133 p1 h) := by
    intro h
    unfold f_X2_readPower_j133
    refine v_aload_n hB 0 dX2_readPower_133 rfl rfl ?_
    refine v_dup hB dX2_readPower_134 rfl ?_
    refine v_getI hB hK (fl_X2_51 g) (cCI_63_3 g) dX2_readPower_135 ?_
    refine v_aload_n hB 0 dX2_readPower_138 rfl rfl ?_
    refine v_getA hB hK (fl_X2_9 g) (cCA_63_0 g) dX2_readPower_139 ?_
    refine v_iload_n hB 1 dX2_readPower_142 rfl rfl ?_
    refine v_iald hB hK (aCI_64 g) dX2_readPower_143 ?_
    refine v_iadd hB dX2_readPower_144 ?_
    refine v_putI hB hK (fl_X2_51 g) (fin_X2_3 g) (cCI_63_3 g) dX2_readPower_145 ?_
    refine v_iconst hB 1 dX2_readPower_148 (by decide) ?_
    exact v_retWz (x := true) hB hK hR dX2_readPower_149
  unfold f_X2_readPower
  refine v_aload_n hB 0 dX2_readPower_0 rfl rfl ?_
  refine v_getA hB hK (fl_X2_9 g) (cCA_63_0 g) dX2_readPower_1 ?_
  refine v_iload_n hB 1 dX2_readPower_4 rfl rfl ?_
  refine v_iconst hB 0 dX2_readPower_5 (by decide) ?_
  refine v_iast hB hK (aCI_64 g) dX2_readPower_6 ?_
  refine v_hl (fun h6 => ?_)
  refine v_aload_n hB 0 dX2_readPower_7 rfl rfl ?_
  refine v_getR hB hK 61 (fl_X2_15 g) (cCR_63_1 g) dX2_readPower_8 ?_
  refine v_aload_n hB 0 dX2_readPower_11 rfl rfl ?_
  refine v_getI hB hK (fl_X2_19 g) (cCI_63_2 g) dX2_readPower_12 ?_
  refine v_bRi (fun r15 e15 => v_callV hB hK hR.rm [.int (rI h6 63 2)] [] (oC_61 g) lb_X3_at lv_X2_31 (c_X3_at g hK.A X.1.2.1 (rI h6 63 2) h6 e15) dX2_readPower_15 rfl rfl (Nat.le_of_ble_eq_true rfl) (by decide) (by decide)) (fun r15 => ?_)
  refine v_bipush hB 97 dX2_readPower_18 (by decide) ?_
  refine v_iload_n hB 1 dX2_readPower_20 rfl rfl ?_
  refine v_iadd hB dX2_readPower_21 ?_
  refine v_icmp_eq (tgt := 27) hB dX2_readPower_22 rfl ?_ ?_
  · refine v_aload_n hB 0 dX2_readPower_27 rfl rfl ?_
    refine v_iconst hB 1 dX2_readPower_28 (by decide) ?_
    refine v_bT (v_callV hB hK hR.rm [.int 1] [] (oC_63 g) lb_X2_fits lv_X2_66 (c_X2_fits g hK.A X.1.2.1 1 h6) dX2_readPower_29 rfl rfl (Nat.le_of_ble_eq_true rfl) (by decide) (by decide)) ?_
    refine v_ifz_ne (r := f_X2_fits 1 h6) (tgt := 37) hB dX2_readPower_32 rfl ?_ ?_
    · refine v_aload_n hB 0 dX2_readPower_37 rfl rfl ?_
      refine v_dup hB dX2_readPower_38 rfl ?_
      refine v_getI hB hK (fl_X2_19 g) (cCI_63_2 g) dX2_readPower_39 ?_
      refine v_iconst hB 1 dX2_readPower_42 (by decide) ?_
      refine v_iadd hB dX2_readPower_43 ?_
      refine v_putI hB hK (fl_X2_19 g) (fin_X2_2 g) (cCI_63_2 g) dX2_readPower_44 ?_
      refine v_hl (fun h44 => ?_)
      refine v_aload_n hB 0 dX2_readPower_47 rfl rfl ?_
      refine v_getA hB hK (fl_X2_9 g) (cCA_63_0 g) dX2_readPower_48 ?_
      refine v_iload_n hB 1 dX2_readPower_51 rfl rfl ?_
      refine v_iconst hB 1 dX2_readPower_52 (by decide) ?_
      refine v_iast hB hK (aCI_64 g) dX2_readPower_53 ?_
      refine v_hl (fun h53 => ?_)
      refine v_aload_n hB 0 dX2_readPower_54 rfl rfl ?_
      refine v_getR hB hK 61 (fl_X2_15 g) (cCR_63_1 g) dX2_readPower_55 ?_
      refine v_aload_n hB 0 dX2_readPower_58 rfl rfl ?_
      refine v_getI hB hK (fl_X2_19 g) (cCI_63_2 g) dX2_readPower_59 ?_
      refine v_bRi (fun r62 e62 => v_callV hB hK hR.rm [.int (rI h53 63 2)] [] (oC_61 g) lb_X3_at lv_X2_31 (c_X3_at g hK.A X.1.2.1 (rI h53 63 2) h53 e62) dX2_readPower_62 rfl rfl (Nat.le_of_ble_eq_true rfl) (by decide) (by decide)) (fun r62 => ?_)
      refine v_bipush hB 94 dX2_readPower_65 (by decide) ?_
      refine v_icmp_ne (tgt := 133) hB dX2_readPower_67 rfl ?_ ?_
      · exact V.sub [0, 1] rfl (hn133 h53)
      · refine v_aload_n hB 0 dX2_readPower_70 rfl rfl ?_
        refine v_dup hB dX2_readPower_71 rfl ?_
        refine v_getI hB hK (fl_X2_19 g) (cCI_63_2 g) dX2_readPower_72 ?_
        refine v_iconst hB 1 dX2_readPower_75 (by decide) ?_
        refine v_iadd hB dX2_readPower_76 ?_
        refine v_putI hB hK (fl_X2_19 g) (fin_X2_2 g) (cCI_63_2 g) dX2_readPower_77 ?_
        refine v_hl (fun h77 => ?_)
        refine v_aload_n hB 0 dX2_readPower_80 rfl rfl ?_
        refine v_getR hB hK 61 (fl_X2_15 g) (cCR_63_1 g) dX2_readPower_81 ?_
        refine v_aload_n hB 0 dX2_readPower_84 rfl rfl ?_
        refine v_getI hB hK (fl_X2_19 g) (cCI_63_2 g) dX2_readPower_85 ?_
        refine v_bRi (fun r88 e88 => v_callV hB hK hR.rm [.int (rI h77 63 2)] [] (oC_61 g) lb_X3_at lv_X2_31 (c_X3_at g hK.A X.1.2.1 (rI h77 63 2) h77 e88) dX2_readPower_88 rfl rfl (Nat.le_of_ble_eq_true rfl) (by decide) (by decide)) (fun r88 => ?_)
        refine v_bipush hB 48 dX2_readPower_91 (by decide) ?_
        refine v_isub hB dX2_readPower_93 ?_
        refine v_istore_n hB [(0, .ref ((SC g).1.2.1 63)), (1, .int p1), (2, .int (r88 - 48))] [1, 2, 0] dX2_readPower_94 rfl (by decide) rfl ?_
        refine v_iload_n hB 2 dX2_readPower_95 rfl rfl ?_
        refine v_iconst hB 1 dX2_readPower_96 (by decide) ?_
        refine v_icmp_lt (tgt := 114) hB dX2_readPower_97 rfl ?_ ?_
        · refine v_iconst hB 0 dX2_readPower_114 (by decide) ?_
          exact v_retWz (x := false) hB hK hR dX2_readPower_115
        · refine v_iload_n hB 2 dX2_readPower_100 rfl rfl ?_
          refine v_bipush hB 6 dX2_readPower_101 (by decide) ?_
          refine v_icmp_gt (tgt := 114) hB dX2_readPower_103 rfl ?_ ?_
          · refine v_iconst hB 0 dX2_readPower_114 (by decide) ?_
            exact v_retWz (x := false) hB hK hR dX2_readPower_115
          · refine v_aload_n hB 0 dX2_readPower_106 rfl rfl ?_
            refine v_iload_n hB 2 dX2_readPower_107 rfl rfl ?_
            refine v_bT (v_callV hB hK hR.rm [.int (r88 - 48)] [] (oC_63 g) lb_X2_fits lv_X2_66 (c_X2_fits g hK.A X.1.2.1 (r88 - 48) h77) dX2_readPower_108 rfl rfl (Nat.le_of_ble_eq_true rfl) (by decide) (by decide)) ?_
            refine v_ifz_ne (r := f_X2_fits (r88 - 48) h77) (tgt := 116) hB dX2_readPower_111 rfl ?_ ?_
            · refine v_aload_n hB 0 dX2_readPower_116 rfl rfl ?_
              refine v_dup hB dX2_readPower_117 rfl ?_
              refine v_getI hB hK (fl_X2_19 g) (cCI_63_2 g) dX2_readPower_118 ?_
              refine v_iconst hB 1 dX2_readPower_121 (by decide) ?_
              refine v_iadd hB dX2_readPower_122 ?_
              refine v_putI hB hK (fl_X2_19 g) (fin_X2_2 g) (cCI_63_2 g) dX2_readPower_123 ?_
              refine v_hl (fun h123 => ?_)
              refine v_aload_n hB 0 dX2_readPower_126 rfl rfl ?_
              refine v_getA hB hK (fl_X2_9 g) (cCA_63_0 g) dX2_readPower_127 ?_
              refine v_iload_n hB 1 dX2_readPower_130 rfl rfl ?_
              refine v_iload_n hB 2 dX2_readPower_131 rfl rfl ?_
              refine v_iast hB hK (aCI_64 g) dX2_readPower_132 ?_
              exact V.sub [0, 1] rfl (hn133 (wI h123 64 p1.toNatClampNeg (r88 - 48)))
            · refine v_iconst hB 0 dX2_readPower_114 (by decide) ?_
              exact v_retWz (x := false) hB hK hR dX2_readPower_115
    · refine v_iconst hB 0 dX2_readPower_35 (by decide) ?_
      exact v_retWz (x := false) hB hK hR dX2_readPower_36
  · refine v_iconst hB 1 dX2_readPower_25 (by decide) ?_
    exact v_retWz (x := true) hB hK hR dX2_readPower_26

def f_X2_readMember_j114 (p1 : Nat) (s1 : Int32) (s2 : Int32) (s3 : Int32) (h : pq_H) : Option (Bool × pq_H) :=
  gd (inb s1 28) (some (true, wI h (p1 + 12) s1.toNatClampNeg (s2 + s3)))
def f_X2_readMember_j68 (p1 : Nat) (p2 : Bool) (v4 : Int32) (h : pq_H) : Option (Bool × pq_H) :=
  if (rI h 63 4) ≤ (rI h 63 3) then (gd (inb 1 3) (gd (inb 2 3) (gd (inb (f_X10_termOf (rI h 64 (1 : Int32).toNatClampNeg) (rI h 64 (2 : Int32).toNatClampNeg)) 28) (if p2 = true then (f_X2_readMember_j114 p1 (f_X10_termOf (rI h 64 (1 : Int32).toNatClampNeg) (rI h 64 (2 : Int32).toNatClampNeg)) (rI h (p1 + 12) (f_X10_termOf (rI h 64 (1 : Int32).toNatClampNeg) (rI h 64 (2 : Int32).toNatClampNeg)).toNatClampNeg) (-v4) h) else (f_X2_readMember_j114 p1 (f_X10_termOf (rI h 64 (1 : Int32).toNatClampNeg) (rI h 64 (2 : Int32).toNatClampNeg)) (rI h (p1 + 12) (f_X10_termOf (rI h 64 (1 : Int32).toNatClampNeg) (rI h 64 (2 : Int32).toNatClampNeg)).toNatClampNeg) v4 h))))) else (some (false, h))
def f_X2_readMember_j42 (p1 : Nat) (p2 : Bool) (v3 : Int32) (v4 : Int32) (h : pq_H) : Option (Bool × pq_H) :=
  if (rI h 63 2) = v3 then (some (false, h)) else (if (rI h 63 4) = (-1) then (f_X2_readMember_j68 p1 p2 v4 (wI h 63 4 (rI h 63 3))) else (f_X2_readMember_j68 p1 p2 v4 h))
def f_X2_readMember_l19 (p1 : Nat) (p2 : Bool) (v3 : Int32) (v4 : Int32) (w19 : Int32 → pq_H → Option (Bool × pq_H)) (v5 : Int32) (h : pq_H) : Option (Bool × pq_H) :=
  if 3 ≤ v5 then (f_X2_readMember_j42 p1 p2 v3 v4 h) else (bd2 (f_X2_readPower v5 h) fun r28 h28 => if r28 = true then (w19 (v5 + 1) h28) else (some (false, h28)))
def f_X2_readMember (p1 : Nat) (p2 : Bool) (h : pq_H) : Option (Bool × pq_H) :=
  bd2 (f_X2_readNumber h) fun r6 h6 => hl (wI h6 63 3 0) fun h13 => lp (fun _ _ => none) (f_X2_readMember_l19 p1 p2 (rI h 63 2) r6) 1000 0 h13
set_option maxRecDepth 100000 in
set_option maxHeartbeats 4000000 in
theorem c_X2_readMember (g : pq_g) {A : Nat → Prop} (hA : pq_A (SC g) A) (l : Launch) (p1 : Nat) (hp1 : p1 < 12) (p2 : Bool) (h : pq_H) {rr : Bool} {hh : pq_H} (e : f_X2_readMember p1 p2 h = some (rr, hh)) : pq_M (SC g) A l yX2_readMember cX2_readMember 6 (some .boolean) 4 85 [.ref ((SC g).1.2.1 63), .ref ((SC g).1.2.1 p1), .int (b2i p2)] h (some (.int (b2i rr))) hh := by
  refine pq_met hA l (own := RX2) 4 85 _ [(0, .ref ((SC g).1.2.1 63)), (1, .ref ((SC g).1.2.1 p1)), (2, .int (b2i p2))] h _ hh (by decide +kernel) rfl (Nat.le_of_ble_eq_true rfl) rfl (fun X hXl hXA hB hK hR => ?_)
  refine V.cast (F' := f_X2_readMember p1 p2 h) (res' := (rr, hh)) (fun _ => e) ?_
  have hn114 : ∀ (s1 : Int32) (s2 : Int32) (s3 : Int32) (h : pq_H), V X (SC g) (rr, hh) 6 114 [] [.int s3, .int s2, .int s1, .ref ((SC g).1.2.1 (p1 + 12))] h (f_X2_readMember_j114 p1 s1 s2 s3 h) := by
    intro s1 s2 s3 h
    unfold f_X2_readMember_j114
    refine v_iadd hB dX2_readMember_114 ?_
    refine v_iast hB hK (aI_told g p1 hp1) dX2_readMember_115 ?_
    refine v_iconst hB 1 dX2_readMember_116 (by decide) ?_
    exact v_retWz (x := true) hB hK hR dX2_readMember_117
  have hn68 : ∀ (v4 : Int32) (h : pq_H), V X (SC g) (rr, hh) 6 68 [(0, .ref ((SC g).1.2.1 63)), (1, .ref ((SC g).1.2.1 p1)), (2, .int (b2i p2)), (4, .int v4)] [] h (f_X2_readMember_j68 p1 p2 v4 h) := by
    intro v4 h
    unfold f_X2_readMember_j68
    refine v_aload_n hB 0 dX2_readMember_68 rfl rfl ?_
    refine v_getI hB hK (fl_X2_51 g) (cCI_63_3 g) dX2_readMember_69 ?_
    refine v_aload_n hB 0 dX2_readMember_72 rfl rfl ?_
    refine v_getI hB hK (fl_X2_23 g) (cCI_63_4 g) dX2_readMember_73 ?_
    refine v_icmp_ge (tgt := 81) hB dX2_readMember_76 rfl ?_ ?_
    · refine v_aload_n hB 1 dX2_readMember_81 rfl rfl ?_
      refine v_getA hB hK (fl_X2_56 g) (cA_Form_0 g p1 hp1) dX2_readMember_82 ?_
      refine v_aload_n hB 0 dX2_readMember_85 rfl rfl ?_
      refine v_getA hB hK (fl_X2_9 g) (cCA_63_0 g) dX2_readMember_86 ?_
      refine v_iconst hB 1 dX2_readMember_89 (by decide) ?_
      refine v_iald hB hK (aCI_64 g) dX2_readMember_90 ?_
      refine v_aload_n hB 0 dX2_readMember_91 rfl rfl ?_
      refine v_getA hB hK (fl_X2_9 g) (cCA_63_0 g) dX2_readMember_92 ?_
      refine v_iconst hB 2 dX2_readMember_95 (by decide) ?_
      refine v_iald hB hK (aCI_64 g) dX2_readMember_96 ?_
      refine v_bT (v_callSN hB hK hR.rm [.int (rI h 64 (1 : Int32).toNatClampNeg), .int (rI h 64 (2 : Int32).toNatClampNeg)] [.ref ((SC g).1.2.1 (p1 + 12))] lb_X10_termOf (nk_X2_59 g) lv_X2_59 (c_X10_termOf g hK.A X.1.2.1 (rI h 64 (1 : Int32).toNatClampNeg) (rI h 64 (2 : Int32).toNatClampNeg) h) dX2_readMember_97 rfl rfl (Nat.le_of_ble_eq_true rfl) (by decide) (by decide)) ?_
      refine v_dup2 hB dX2_readMember_100 rfl rfl ?_
      refine v_iald hB hK (aI_told g p1 hp1) dX2_readMember_101 ?_
      refine v_iload_n hB 2 dX2_readMember_102 rfl rfl ?_
      refine v_ifz_eq (r := p2) (tgt := 112) hB dX2_readMember_103 rfl ?_ ?_
      · refine v_iload hB 3 dX2_readMember_112 rfl ?_
        exact V.sub [] rfl (hn114 (f_X10_termOf (rI h 64 (1 : Int32).toNatClampNeg) (rI h 64 (2 : Int32).toNatClampNeg)) (rI h (p1 + 12) (f_X10_termOf (rI h 64 (1 : Int32).toNatClampNeg) (rI h 64 (2 : Int32).toNatClampNeg)).toNatClampNeg) v4 h)
      · refine v_iload hB 3 dX2_readMember_106 rfl ?_
        refine v_ineg hB dX2_readMember_108 ?_
        refine v_goto (tgt := 114) hB dX2_readMember_109 rfl ?_
        exact V.sub [] rfl (hn114 (f_X10_termOf (rI h 64 (1 : Int32).toNatClampNeg) (rI h 64 (2 : Int32).toNatClampNeg)) (rI h (p1 + 12) (f_X10_termOf (rI h 64 (1 : Int32).toNatClampNeg) (rI h 64 (2 : Int32).toNatClampNeg)).toNatClampNeg) (-v4) h)
    · refine v_iconst hB 0 dX2_readMember_79 (by decide) ?_
      exact v_retWz (x := false) hB hK hR dX2_readMember_80
  have hn42 : ∀ (v3 : Int32) (v4 : Int32) (h : pq_H), V X (SC g) (rr, hh) 6 42 [(0, .ref ((SC g).1.2.1 63)), (1, .ref ((SC g).1.2.1 p1)), (2, .int (b2i p2)), (3, .int v3), (4, .int v4)] [] h (f_X2_readMember_j42 p1 p2 v3 v4 h) := by
    intro v3 v4 h
    unfold f_X2_readMember_j42
    refine v_aload_n hB 0 dX2_readMember_42 rfl rfl ?_
    refine v_getI hB hK (fl_X2_19 g) (cCI_63_2 g) dX2_readMember_43 ?_
    refine v_iload_n hB 3 dX2_readMember_46 rfl rfl ?_
    refine v_icmp_ne (tgt := 52) hB dX2_readMember_47 rfl ?_ ?_
    · refine v_aload_n hB 0 dX2_readMember_52 rfl rfl ?_
      refine v_getI hB hK (fl_X2_23 g) (cCI_63_4 g) dX2_readMember_53 ?_
      refine v_iconst hB (-1) dX2_readMember_56 (by decide) ?_
      refine v_icmp_ne (tgt := 68) hB dX2_readMember_57 rfl ?_ ?_
      · exact V.sub [0, 1, 2, 4] rfl (hn68 v4 h)
      · refine v_aload_n hB 0 dX2_readMember_60 rfl rfl ?_
        refine v_aload_n hB 0 dX2_readMember_61 rfl rfl ?_
        refine v_getI hB hK (fl_X2_51 g) (cCI_63_3 g) dX2_readMember_62 ?_
        refine v_putI hB hK (fl_X2_23 g) (fin_X2_4 g) (cCI_63_4 g) dX2_readMember_65 ?_
        exact V.sub [0, 1, 2, 4] rfl (hn68 v4 (wI h 63 4 (rI h 63 3)))
    · refine v_iconst hB 0 dX2_readMember_50 (by decide) ?_
      exact v_retWz (x := false) hB hK hR dX2_readMember_51
  have hn19 : ∀ (v3 : Int32) (v4 : Int32) (n : Nat), ∀ (v5 : Int32) (h : pq_H), V X (SC g) (rr, hh) 6 19 [(0, .ref ((SC g).1.2.1 63)), (1, .ref ((SC g).1.2.1 p1)), (2, .int (b2i p2)), (3, .int v3), (4, .int v4), (5, .int v5)] [] h (lp (fun _ _ => none) (f_X2_readMember_l19 p1 p2 v3 v4) n v5 h) := by
    intro v3 v4
    refine lp_ind (fun (w19 : Int32 → pq_H → Option (Bool × pq_H)) => ∀ (v5 : Int32) (h : pq_H), V X (SC g) (rr, hh) 6 19 [(0, .ref ((SC g).1.2.1 63)), (1, .ref ((SC g).1.2.1 p1)), (2, .int (b2i p2)), (3, .int v3), (4, .int v4), (5, .int v5)] [] h (w19 v5 h)) (fun _ _ => V.none _ _ _ _) (fun w19 ih19 => ?_)
    intro v5 h
    unfold f_X2_readMember_l19
    refine v_iload hB 5 dX2_readMember_19 rfl ?_
    refine v_iconst hB 3 dX2_readMember_21 (by decide) ?_
    refine v_icmp_ge (tgt := 42) hB dX2_readMember_22 rfl ?_ ?_
    · exact V.sub [0, 1, 2, 3, 4] rfl (hn42 v3 v4 h)
    · refine v_aload_n hB 0 dX2_readMember_25 rfl rfl ?_
      refine v_iload hB 5 dX2_readMember_26 rfl ?_
      refine v_bWz (fun r28 h28 e28 => v_callV hB hK hR.rm [.int v5] [] (oC_63 g) lb_X2_readPower lv_X2_52 (c_X2_readPower g hK.A X.1.2.1 v5 h e28) dX2_readMember_28 rfl rfl (Nat.le_of_ble_eq_true rfl) (by decide) (by decide)) (fun r28 h28 => ?_)
      refine v_ifz_ne (r := r28) (tgt := 36) hB dX2_readMember_31 rfl ?_ ?_
      · refine v_iinc hB (v5 + 1) [(0, .ref ((SC g).1.2.1 63)), (1, .ref ((SC g).1.2.1 p1)), (2, .int (b2i p2)), (3, .int v3), (4, .int v4), (5, .int (v5 + 1))] 5 [1, 2, 3, 4, 5, 0] dX2_readMember_36 rfl rfl (by decide) rfl ?_
        refine v_goto (tgt := 19) hB dX2_readMember_39 rfl ?_
        exact V.sub [0, 1, 2, 3, 4, 5] rfl (ih19 (v5 + 1) h28)
      · refine v_iconst hB 0 dX2_readMember_34 (by decide) ?_
        exact v_retWz (x := false) hB hK hR dX2_readMember_35
  unfold f_X2_readMember
  refine v_aload_n hB 0 dX2_readMember_0 rfl rfl ?_
  refine v_getI hB hK (fl_X2_19 g) (cCI_63_2 g) dX2_readMember_1 ?_
  refine v_istore_n hB [(0, .ref ((SC g).1.2.1 63)), (1, .ref ((SC g).1.2.1 p1)), (2, .int (b2i p2)), (3, .int (rI h 63 2))] [1, 2, 3, 0] dX2_readMember_4 rfl (by decide) rfl ?_
  refine v_aload_n hB 0 dX2_readMember_5 rfl rfl ?_
  refine v_bWi (fun r6 h6 e6 => v_callV hB hK hR.rm [] [] (oC_63 g) lb_X2_readNumber lv_X2_47 (c_X2_readNumber g hK.A X.1.2.1 h e6) dX2_readMember_6 rfl rfl (Nat.le_of_ble_eq_true rfl) (by decide) (by decide)) (fun r6 h6 => ?_)
  refine v_istore hB [(0, .ref ((SC g).1.2.1 63)), (1, .ref ((SC g).1.2.1 p1)), (2, .int (b2i p2)), (3, .int (rI h 63 2)), (4, .int r6)] [1, 2, 3, 4, 0] dX2_readMember_9 (by decide) rfl ?_
  refine v_aload_n hB 0 dX2_readMember_11 rfl rfl ?_
  refine v_iconst hB 0 dX2_readMember_12 (by decide) ?_
  refine v_putI hB hK (fl_X2_51 g) (fin_X2_3 g) (cCI_63_3 g) dX2_readMember_13 ?_
  refine v_hl (fun h13 => ?_)
  refine v_iconst hB 0 dX2_readMember_16 (by decide) ?_
  refine v_istore hB [(0, .ref ((SC g).1.2.1 63)), (1, .ref ((SC g).1.2.1 p1)), (2, .int (b2i p2)), (3, .int (rI h 63 2)), (4, .int r6), (5, .int 0)] [1, 2, 3, 4, 5, 0] dX2_readMember_17 (by decide) rfl ?_
  exact V.sub [0, 1, 2, 3, 4, 5] rfl (hn19 (rI h 63 2) r6 1000 0 h13)

def f_X2_read_j154 (p2 : Nat) (h : pq_H) : Option (Int32 × pq_H) :=
  some ((-1), wI h p2 3 (rI h 63 4))
def f_X2_read_j137 (w55 : Bool → Int32 → pq_H → Option (Int32 × pq_H)) (v4 : Int32) (s0 : Bool) (h : pq_H) : Option (Int32 × pq_H) :=
  w55 s0 (v4 + 1) (wI h 63 2 ((rI h 63 2) + 1))
def f_X2_read_j125 (w55 : Bool → Int32 → pq_H → Option (Int32 × pq_H)) (v4 : Int32) (v5 : Int32) (h : pq_H) : Option (Int32 × pq_H) :=
  if v5 = 45 then (f_X2_read_j137 w55 v4 true h) else (f_X2_read_j137 w55 v4 false h)
def f_X2_read_j120 (h : pq_H) : Option (Int32 × pq_H) :=
  some (rI h 63 2, h)
def f_X2_read_j90 (p2 : Nat) (h : pq_H) : Option (Int32 × pq_H) :=
  f_X2_read_j154 p2 h
def f_X2_read_j71 (h : pq_H) : Option (Int32 × pq_H) :=
  some (rI h 63 2, h)
def f_X2_read_l55 (p2 : Nat) (w55 : Bool → Int32 → pq_H → Option (Int32 × pq_H)) (v3 : Bool) (v4 : Int32) (h : pq_H) : Option (Int32 × pq_H) :=
  if 72 ≤ v4 then (f_X2_read_j154 p2 h) else (bd2 (f_X2_readMember p2 v3 h) fun r65 h65 => if r65 = true then (gd (rR h65 63 1 == some 61) (if (rI h65 63 2) < (rI h65 61 1) then (gd (rR h65 63 1 == some 61) ((f_X3_at (rI h65 63 2) h65).bind fun r101 => if r101 = 43 then (f_X2_read_j125 w55 v4 r101 h65) else (if r101 = 45 then (f_X2_read_j125 w55 v4 r101 h65) else (f_X2_read_j120 h65)))) else (f_X2_read_j90 p2 h65))) else (f_X2_read_j71 h65))
def f_X2_read_j52 (p2 : Nat) (v3 : Bool) (h : pq_H) : Option (Int32 × pq_H) :=
  lp (fun _ _ _ => none) (f_X2_read_l55 p2) 1000 v3 0 h
def f_X2_read_j37 (p2 : Nat) (s0 : Bool) (h : pq_H) : Option (Int32 × pq_H) :=
  if s0 = true then (f_X2_read_j52 p2 s0 (wI h 63 2 ((rI h 63 2) + 1))) else (f_X2_read_j52 p2 s0 h)
def f_X2_read (p2 : Nat) (h : pq_H) : Option (Int32 × pq_H) :=
  hl (wR h 63 1 (some 61)) fun h2 => hl (wI h2 63 2 0) fun h7 => hl (wI h7 63 4 (-1)) fun h12 => (f_X1_makeNought p2 h12).bind fun h16 => gd (rR h16 63 1 == some 61) ((f_X3_at 0 h16).bind fun r24 => if r24 = 45 then (f_X2_read_j37 p2 true h16) else (f_X2_read_j37 p2 false h16))
set_option maxRecDepth 100000 in
set_option maxHeartbeats 4000000 in
theorem c_X2_read (g : pq_g) {A : Nat → Prop} (hA : pq_A (SC g) A) (l : Launch) (p2 : Nat) (hp2 : p2 < 12) (h : pq_H) {rr : Int32} {hh : pq_H} (e : f_X2_read p2 h = some (rr, hh)) : pq_M (SC g) A l yX2_read cX2_read 6 (some .int) 5 110 [.ref ((SC g).1.2.1 63), .ref ((SC g).1.2.1 61), .ref ((SC g).1.2.1 p2)] h (some (.int rr)) hh := by
  refine pq_met hA l (own := RX2) 5 110 _ [(0, .ref ((SC g).1.2.1 63)), (1, .ref ((SC g).1.2.1 61)), (2, .ref ((SC g).1.2.1 p2))] h _ hh (by decide +kernel) rfl (Nat.le_of_ble_eq_true rfl) rfl (fun X hXl hXA hB hK hR => ?_)
  refine V.cast (F' := f_X2_read p2 h) (res' := (rr, hh)) (fun _ => e) ?_
  have hn154 : ∀ (h : pq_H), V X (SC g) (rr, hh) 6 154 [(0, .ref ((SC g).1.2.1 63)), (2, .ref ((SC g).1.2.1 p2))] [] h (f_X2_read_j154 p2 h) := by
    intro h
    unfold f_X2_read_j154
    refine v_aload_n hB 1 dX2_read_154 rfl rfl ?_
    refine v_aload_n hB 0 dX2_read_155 rfl rfl ?_
    refine v_getI hB hK (fl_X2_23 g) (cCI_63_4 g) dX2_read_156 ?_
    refine v_putI hB hK (fl_X2_44 g) (fin_X1_3 g) (cI_Form_3 g p2 hp2) dX2_read_159 ?_
    refine v_iconst hB (-1) dX2_read_162 (by decide) ?_
    exact v_retWi (x := (-1)) hB hK hR dX2_read_163
  have hn120 : ∀ (h : pq_H), V X (SC g) (rr, hh) 6 120 [(0, .ref ((SC g).1.2.1 63))] [] h (f_X2_read_j120 h) := by
    intro h
    unfold f_X2_read_j120
    refine v_aload_n hB 0 dX2_read_120 rfl rfl ?_
    refine v_getI hB hK (fl_X2_19 g) (cCI_63_2 g) dX2_read_121 ?_
    exact v_retWi (x := rI h 63 2) hB hK hR dX2_read_124
  have hn90 : ∀ (h : pq_H), V X (SC g) (rr, hh) 6 90 [(0, .ref ((SC g).1.2.1 63)), (2, .ref ((SC g).1.2.1 p2))] [] h (f_X2_read_j90 p2 h) := by
    intro h
    unfold f_X2_read_j90
    refine v_goto (tgt := 154) hB dX2_read_90 rfl ?_
    exact V.sub [0, 1] rfl (hn154 h)
  have hn71 : ∀ (h : pq_H), V X (SC g) (rr, hh) 6 71 [(0, .ref ((SC g).1.2.1 63))] [] h (f_X2_read_j71 h) := by
    intro h
    unfold f_X2_read_j71
    refine v_aload_n hB 0 dX2_read_71 rfl rfl ?_
    refine v_getI hB hK (fl_X2_19 g) (cCI_63_2 g) dX2_read_72 ?_
    exact v_retWi (x := rI h 63 2) hB hK hR dX2_read_75
  have hn55 : ∀ (n : Nat), ∀ (v3 : Bool) (v4 : Int32) (h : pq_H), V X (SC g) (rr, hh) 6 55 [(0, .ref ((SC g).1.2.1 63)), (2, .ref ((SC g).1.2.1 p2)), (3, .int (b2i v3)), (4, .int v4)] [] h (lp (fun _ _ _ => none) (f_X2_read_l55 p2) n v3 v4 h) := by
    refine lp_ind (fun (w55 : Bool → Int32 → pq_H → Option (Int32 × pq_H)) => ∀ (v3 : Bool) (v4 : Int32) (h : pq_H), V X (SC g) (rr, hh) 6 55 [(0, .ref ((SC g).1.2.1 63)), (2, .ref ((SC g).1.2.1 p2)), (3, .int (b2i v3)), (4, .int v4)] [] h (w55 v3 v4 h)) (fun _ _ _ => V.none _ _ _ _) (fun w55 ih55 => ?_)
    have hn137 : ∀ (v4 : Int32) (s0 : Bool) (h : pq_H), V X (SC g) (rr, hh) 6 137 [(0, .ref ((SC g).1.2.1 63)), (2, .ref ((SC g).1.2.1 p2)), (4, .int v4)] [.int (b2i s0)] h (f_X2_read_j137 w55 v4 s0 h) := by
      intro v4 s0 h
      unfold f_X2_read_j137
      refine v_istore_n hB [(0, .ref ((SC g).1.2.1 63)), (2, .ref ((SC g).1.2.1 p2)), (3, .int (b2i s0)), (4, .int v4)] [1, 2, 0, 3] dX2_read_137 rfl (by decide) rfl ?_
      refine v_aload_n hB 0 dX2_read_138 rfl rfl ?_
      refine v_dup hB dX2_read_139 rfl ?_
      refine v_getI hB hK (fl_X2_19 g) (cCI_63_2 g) dX2_read_140 ?_
      refine v_iconst hB 1 dX2_read_143 (by decide) ?_
      refine v_iadd hB dX2_read_144 ?_
      refine v_putI hB hK (fl_X2_19 g) (fin_X2_2 g) (cCI_63_2 g) dX2_read_145 ?_
      refine v_iinc hB (v4 + 1) [(0, .ref ((SC g).1.2.1 63)), (2, .ref ((SC g).1.2.1 p2)), (3, .int (b2i s0)), (4, .int (v4 + 1))] 3 [1, 2, 3, 0] dX2_read_148 rfl rfl (by decide) rfl ?_
      refine v_goto (tgt := 55) hB dX2_read_151 rfl ?_
      exact V.sub [0, 1, 2, 3] rfl (ih55 s0 (v4 + 1) (wI h 63 2 ((rI h 63 2) + 1)))
    have hn125 : ∀ (v4 : Int32) (v5 : Int32) (h : pq_H), V X (SC g) (rr, hh) 6 125 [(0, .ref ((SC g).1.2.1 63)), (2, .ref ((SC g).1.2.1 p2)), (4, .int v4), (5, .int v5)] [] h (f_X2_read_j125 w55 v4 v5 h) := by
      intro v4 v5 h
      unfold f_X2_read_j125
      refine v_iload hB 3 dX2_read_125 rfl ?_
      refine v_bipush hB 45 dX2_read_127 (by decide) ?_
      refine v_icmp_ne (tgt := 136) hB dX2_read_129 rfl ?_ ?_
      · refine v_iconst hB 0 dX2_read_136 (by decide) ?_
        exact V.sub [0, 1, 2] rfl (hn137 v4 false h)
      · refine v_iconst hB 1 dX2_read_132 (by decide) ?_
        refine v_goto (tgt := 137) hB dX2_read_133 rfl ?_
        exact V.sub [0, 1, 2] rfl (hn137 v4 true h)
    intro v3 v4 h
    unfold f_X2_read_l55
    refine v_iload hB 3 dX2_read_55 rfl ?_
    refine v_bipush hB 72 dX2_read_57 (by decide) ?_
    refine v_icmp_ge (tgt := 154) hB dX2_read_59 rfl ?_ ?_
    · exact V.sub [0, 1] rfl (hn154 h)
    · refine v_aload_n hB 0 dX2_read_62 rfl rfl ?_
      refine v_aload_n hB 1 dX2_read_63 rfl rfl ?_
      refine v_iload_n hB 2 dX2_read_64 rfl rfl ?_
      refine v_bWz (fun r65 h65 e65 => v_callV hB hK hR.rm [.ref ((SC g).1.2.1 p2), .int (b2i v3)] [] (oC_63 g) lb_X2_readMember lv_X2_37 (c_X2_readMember g hK.A X.1.2.1 p2 hp2 v3 h e65) dX2_read_65 rfl rfl (Nat.le_of_ble_eq_true rfl) (by decide) (by decide)) (fun r65 h65 => ?_)
      refine v_ifz_ne (r := r65) (tgt := 76) hB dX2_read_68 rfl ?_ ?_
      · refine v_aload_n hB 0 dX2_read_76 rfl rfl ?_
        refine v_getI hB hK (fl_X2_19 g) (cCI_63_2 g) dX2_read_77 ?_
        refine v_aload_n hB 0 dX2_read_80 rfl rfl ?_
        refine v_getR hB hK 61 (fl_X2_15 g) (cCR_63_1 g) dX2_read_81 ?_
        refine v_getI hB hK (fl_X2_41 g) (cCI_61_1 g) dX2_read_84 ?_
        refine v_icmp_lt (tgt := 93) hB dX2_read_87 rfl ?_ ?_
        · refine v_aload_n hB 0 dX2_read_93 rfl rfl ?_
          refine v_getR hB hK 61 (fl_X2_15 g) (cCR_63_1 g) dX2_read_94 ?_
          refine v_aload_n hB 0 dX2_read_97 rfl rfl ?_
          refine v_getI hB hK (fl_X2_19 g) (cCI_63_2 g) dX2_read_98 ?_
          refine v_bRi (fun r101 e101 => v_callV hB hK hR.rm [.int (rI h65 63 2)] [] (oC_61 g) lb_X3_at lv_X2_31 (c_X3_at g hK.A X.1.2.1 (rI h65 63 2) h65 e101) dX2_read_101 rfl rfl (Nat.le_of_ble_eq_true rfl) (by decide) (by decide)) (fun r101 => ?_)
          refine v_istore hB [(0, .ref ((SC g).1.2.1 63)), (2, .ref ((SC g).1.2.1 p2)), (3, .int (b2i v3)), (4, .int v4), (5, .int r101)] [1, 2, 3, 4, 0] dX2_read_104 (by decide) rfl ?_
          refine v_iload hB 4 dX2_read_106 rfl ?_
          refine v_bipush hB 43 dX2_read_108 (by decide) ?_
          refine v_icmp_eq (tgt := 125) hB dX2_read_110 rfl ?_ ?_
          · exact V.sub [0, 1, 3, 4] rfl (hn125 v4 r101 h65)
          · refine v_iload hB 4 dX2_read_113 rfl ?_
            refine v_bipush hB 45 dX2_read_115 (by decide) ?_
            refine v_icmp_eq (tgt := 125) hB dX2_read_117 rfl ?_ ?_
            · exact V.sub [0, 1, 3, 4] rfl (hn125 v4 r101 h65)
            · exact V.sub [0] rfl (hn120 h65)
        · exact V.sub [0, 1] rfl (hn90 h65)
      · exact V.sub [0] rfl (hn71 h65)
  have hn52 : ∀ (v3 : Bool) (h : pq_H), V X (SC g) (rr, hh) 6 52 [(0, .ref ((SC g).1.2.1 63)), (2, .ref ((SC g).1.2.1 p2)), (3, .int (b2i v3))] [] h (f_X2_read_j52 p2 v3 h) := by
    intro v3 h
    unfold f_X2_read_j52
    refine v_iconst hB 0 dX2_read_52 (by decide) ?_
    refine v_istore hB [(0, .ref ((SC g).1.2.1 63)), (2, .ref ((SC g).1.2.1 p2)), (3, .int (b2i v3)), (4, .int 0)] [1, 2, 3, 0] dX2_read_53 (by decide) rfl ?_
    exact V.sub [0, 1, 2, 3] rfl (hn55 1000 v3 0 h)
  have hn37 : ∀ (s0 : Bool) (h : pq_H), V X (SC g) (rr, hh) 6 37 [(0, .ref ((SC g).1.2.1 63)), (2, .ref ((SC g).1.2.1 p2))] [.int (b2i s0)] h (f_X2_read_j37 p2 s0 h) := by
    intro s0 h
    unfold f_X2_read_j37
    refine v_istore_n hB [(0, .ref ((SC g).1.2.1 63)), (2, .ref ((SC g).1.2.1 p2)), (3, .int (b2i s0))] [1, 2, 0] dX2_read_37 rfl (by decide) rfl ?_
    refine v_iload_n hB 2 dX2_read_38 rfl rfl ?_
    refine v_ifz_eq (r := s0) (tgt := 52) hB dX2_read_39 rfl ?_ ?_
    · exact V.sub [0, 1, 2] rfl (hn52 s0 h)
    · refine v_aload_n hB 0 dX2_read_42 rfl rfl ?_
      refine v_dup hB dX2_read_43 rfl ?_
      refine v_getI hB hK (fl_X2_19 g) (cCI_63_2 g) dX2_read_44 ?_
      refine v_iconst hB 1 dX2_read_47 (by decide) ?_
      refine v_iadd hB dX2_read_48 ?_
      refine v_putI hB hK (fl_X2_19 g) (fin_X2_2 g) (cCI_63_2 g) dX2_read_49 ?_
      exact V.sub [0, 1, 2] rfl (hn52 s0 (wI h 63 2 ((rI h 63 2) + 1)))
  unfold f_X2_read
  refine v_aload_n hB 0 dX2_read_0 rfl rfl ?_
  refine v_aload_n hB 1 dX2_read_1 rfl rfl ?_
  refine v_putR hB hK (fl_X2_15 g) (fin_X2_1 g) (cCR_63_1 g) dX2_read_2 ?_
  refine v_hl (fun h2 => ?_)
  refine v_aload_n hB 0 dX2_read_5 rfl rfl ?_
  refine v_iconst hB 0 dX2_read_6 (by decide) ?_
  refine v_putI hB hK (fl_X2_19 g) (fin_X2_2 g) (cCI_63_2 g) dX2_read_7 ?_
  refine v_hl (fun h7 => ?_)
  refine v_aload_n hB 0 dX2_read_10 rfl rfl ?_
  refine v_iconst hB (-1) dX2_read_11 (by decide) ?_
  refine v_putI hB hK (fl_X2_23 g) (fin_X2_4 g) (cCI_63_4 g) dX2_read_12 ?_
  refine v_hl (fun h12 => ?_)
  refine v_aload_n hB 2 dX2_read_15 rfl rfl ?_
  refine v_bV (fun h16 e16 => v_callV hB hK hR.rm [] [] (o_Form g p2 hp2) lb_X1_makeNought lv_X2_26 (c_X1_makeNought g hK.A X.1.2.1 p2 hp2 h12 e16) dX2_read_16 rfl rfl (Nat.le_of_ble_eq_true rfl) (by decide) (by decide)) (fun h16 => ?_)
  refine v_aload_n hB 0 dX2_read_19 rfl rfl ?_
  refine v_getR hB hK 61 (fl_X2_15 g) (cCR_63_1 g) dX2_read_20 ?_
  refine v_iconst hB 0 dX2_read_23 (by decide) ?_
  refine v_bRi (fun r24 e24 => v_callV hB hK hR.rm [.int 0] [] (oC_61 g) lb_X3_at lv_X2_31 (c_X3_at g hK.A X.1.2.1 0 h16 e24) dX2_read_24 rfl rfl (Nat.le_of_ble_eq_true rfl) (by decide) (by decide)) (fun r24 => ?_)
  refine v_bipush hB 45 dX2_read_27 (by decide) ?_
  refine v_icmp_ne (tgt := 36) hB dX2_read_29 rfl ?_ ?_
  · refine v_iconst hB 0 dX2_read_36 (by decide) ?_
    exact V.sub [0, 2] rfl (hn37 false h16)
  · refine v_iconst hB 1 dX2_read_32 (by decide) ?_
    refine v_goto (tgt := 37) hB dX2_read_33 rfl ?_
    exact V.sub [0, 2] rfl (hn37 true h16)

def f_X3_add (p1 : Int32) (h : pq_H) : Option pq_H :=
  if (rI h 61 1) < 72 then (gd (inb (rI h 61 1) 72) (hl (wI h 62 (rI h 61 1).toNatClampNeg p1) fun h19 => some (wI h19 61 1 ((rI h19 61 1) + 1)))) else (some h)
set_option maxRecDepth 100000 in
set_option maxHeartbeats 4000000 in
theorem c_X3_add (g : pq_g) {A : Nat → Prop} (hA : pq_A (SC g) A) (l : Launch) (p1 : Int32) (h : pq_H) {hh : pq_H} (e : f_X3_add p1 h = some hh) : pq_M (SC g) A l yX3_add cX3_add 2 none 0 0 [.ref ((SC g).1.2.1 61), .int p1] h none hh := by
  refine pq_met hA l (own := RX3) 0 0 _ [(0, .ref ((SC g).1.2.1 61)), (1, .int p1)] h _ hh (by decide +kernel) rfl (Nat.le_of_ble_eq_true rfl) rfl (fun X hXl hXA hB hK hR => ?_)
  refine V.cast (F' := f_X3_add p1 h) (res' := hh) (fun _ => e) ?_
  unfold f_X3_add
  refine v_aload_n hB 0 dX3_add_0 rfl rfl ?_
  refine v_getI hB hK (fl_X3_15 g) (cCI_61_1 g) dX3_add_1 ?_
  refine v_bipush hB 72 dX3_add_4 (by decide) ?_
  refine v_icmp_lt (tgt := 10) hB dX3_add_6 rfl ?_ ?_
  · refine v_aload_n hB 0 dX3_add_10 rfl rfl ?_
    refine v_getA hB hK (fl_X3_9 g) (cCA_61_0 g) dX3_add_11 ?_
    refine v_aload_n hB 0 dX3_add_14 rfl rfl ?_
    refine v_getI hB hK (fl_X3_15 g) (cCI_61_1 g) dX3_add_15 ?_
    refine v_iload_n hB 1 dX3_add_18 rfl rfl ?_
    refine v_iast hB hK (aCI_62 g) dX3_add_19 ?_
    refine v_hl (fun h19 => ?_)
    refine v_aload_n hB 0 dX3_add_20 rfl rfl ?_
    refine v_dup hB dX3_add_21 rfl ?_
    refine v_getI hB hK (fl_X3_15 g) (cCI_61_1 g) dX3_add_22 ?_
    refine v_iconst hB 1 dX3_add_25 (by decide) ?_
    refine v_iadd hB dX3_add_26 ?_
    refine v_putI hB hK (fl_X3_15 g) (fin_X3_1 g) (cCI_61_1 g) dX3_add_27 ?_
    exact v_retWv hB hK hR dX3_add_30
  · exact v_retWv hB hK hR dX3_add_9

def f_X4_misses (p1 : Int32) (h : pq_H) : Option Bool :=
  gd (inb p1 3) (if 0 ≤ (rI h 81 p1.toNatClampNeg) then (some false) else (some true))
set_option maxRecDepth 100000 in
set_option maxHeartbeats 4000000 in
theorem c_X4_misses (g : pq_g) {A : Nat → Prop} (hA : pq_A (SC g) A) (l : Launch) (p1 : Int32) (h : pq_H) {rr : Bool} (e : f_X4_misses p1 h = some rr) : pq_M (SC g) A l yX4_misses cX4_misses 2 (some .boolean) 0 0 [.ref ((SC g).1.2.1 79), .int p1] h (some (.int (b2i rr))) h := by
  refine pq_met hA l (own := RX4) 0 0 _ [(0, .ref ((SC g).1.2.1 79)), (1, .int p1)] h _ h (by decide +kernel) rfl (Nat.le_of_ble_eq_true rfl) rfl (fun X hXl hXA hB hK hR => ?_)
  refine V.cast (F' := f_X4_misses p1 h) (res' := rr) (fun _ => e) ?_
  unfold f_X4_misses
  refine v_aload_n hB 0 dX4_misses_0 rfl rfl ?_
  refine v_getA hB hK (fl_X4_16 g) (cCA_79_1 g) dX4_misses_1 ?_
  refine v_iload_n hB 1 dX4_misses_4 rfl rfl ?_
  refine v_iald hB hK (aCI_81 g) dX4_misses_5 ?_
  refine v_if_ge (tgt := 13) hB dX4_misses_6 rfl ?_ ?_
  · refine v_iconst hB 0 dX4_misses_13 (by decide) ?_
    exact v_retRz (x := false) hB hK hR dX4_misses_14
  · refine v_iconst hB 1 dX4_misses_9 (by decide) ?_
    refine v_goto (tgt := 14) hB dX4_misses_10 rfl ?_
    exact v_retRz (x := true) hB hK hR dX4_misses_14

def f_X4_renew_l9 (p1 : Int32) (p2 : Int32) (w9 : Int32 → pq_H → Option pq_H) (v3 : Int32) (h : pq_H) : Option pq_H :=
  if p2 ≤ v3 then (some h) else (gd (inb p1 3) (gd (inb v3 40) (w9 (v3 + 1) (wI h (52 + p1.toNatClampNeg) v3.toNatClampNeg 0))))
def f_X4_renew (p1 : Int32) (p2 : Int32) (h : pq_H) : Option pq_H :=
  gd (inb p1 3) (hl (wI h 81 p1.toNatClampNeg p2) fun h6 => lp (fun _ _ => none) (f_X4_renew_l9 p1 p2) 1000 0 h6)
set_option maxRecDepth 100000 in
set_option maxHeartbeats 4000000 in
theorem c_X4_renew (g : pq_g) {A : Nat → Prop} (hA : pq_A (SC g) A) (l : Launch) (p1 : Int32) (p2 : Int32) (h : pq_H) {hh : pq_H} (e : f_X4_renew p1 p2 h = some hh) : pq_M (SC g) A l yX4_renew cX4_renew 4 none 0 0 [.ref ((SC g).1.2.1 79), .int p1, .int p2] h none hh := by
  refine pq_met hA l (own := RX4) 0 0 _ [(0, .ref ((SC g).1.2.1 79)), (1, .int p1), (2, .int p2)] h _ hh (by decide +kernel) rfl (Nat.le_of_ble_eq_true rfl) rfl (fun X hXl hXA hB hK hR => ?_)
  refine V.cast (F' := f_X4_renew p1 p2 h) (res' := hh) (fun _ => e) ?_
  have hn9 : ∀ (n : Nat), ∀ (v3 : Int32) (h : pq_H), V X (SC g) hh 4 9 [(0, .ref ((SC g).1.2.1 79)), (1, .int p1), (2, .int p2), (3, .int v3)] [] h (lp (fun _ _ => none) (f_X4_renew_l9 p1 p2) n v3 h) := by
    refine lp_ind (fun (w9 : Int32 → pq_H → Option pq_H) => ∀ (v3 : Int32) (h : pq_H), V X (SC g) hh 4 9 [(0, .ref ((SC g).1.2.1 79)), (1, .int p1), (2, .int p2), (3, .int v3)] [] h (w9 v3 h)) (fun _ _ => V.none _ _ _ _) (fun w9 ih9 => ?_)
    intro v3 h
    unfold f_X4_renew_l9
    refine v_iload_n hB 3 dX4_renew_9 rfl rfl ?_
    refine v_iload_n hB 2 dX4_renew_10 rfl rfl ?_
    refine v_icmp_ge (tgt := 29) hB dX4_renew_11 rfl ?_ ?_
    · exact v_retWv hB hK hR dX4_renew_29
    · refine v_aload_n hB 0 dX4_renew_14 rfl rfl ?_
      refine v_getA hB hK (fl_X4_11 g) (cCA_79_0 g) dX4_renew_15 ?_
      refine v_iload_n hB 1 dX4_renew_18 rfl rfl ?_
      refine v_aa80 hB hK dX4_renew_19 (fun q19 => ?_)
      refine v_iload_n hB 3 dX4_renew_20 rfl rfl ?_
      refine v_iconst hB 0 dX4_renew_21 (by decide) ?_
      refine v_iast hB hK (aI_lrow g p1.toNatClampNeg q19) dX4_renew_22 ?_
      refine v_iinc hB (v3 + 1) [(0, .ref ((SC g).1.2.1 79)), (1, .int p1), (2, .int p2), (3, .int (v3 + 1))] 3 [1, 2, 3, 0] dX4_renew_23 rfl rfl (by decide) rfl ?_
      refine v_goto (tgt := 9) hB dX4_renew_26 rfl ?_
      exact V.sub [0, 1, 2, 3] rfl (ih9 (v3 + 1) (wI h (52 + p1.toNatClampNeg) v3.toNatClampNeg 0))
  unfold f_X4_renew
  refine v_aload_n hB 0 dX4_renew_0 rfl rfl ?_
  refine v_getA hB hK (fl_X4_16 g) (cCA_79_1 g) dX4_renew_1 ?_
  refine v_iload_n hB 1 dX4_renew_4 rfl rfl ?_
  refine v_iload_n hB 2 dX4_renew_5 rfl rfl ?_
  refine v_iast hB hK (aCI_81 g) dX4_renew_6 ?_
  refine v_hl (fun h6 => ?_)
  refine v_iconst hB 0 dX4_renew_7 (by decide) ?_
  refine v_istore_n hB [(0, .ref ((SC g).1.2.1 79)), (1, .int p1), (2, .int p2), (3, .int 0)] [1, 2, 3, 0] dX4_renew_8 rfl (by decide) rfl ?_
  exact V.sub [0, 1, 2, 3] rfl (hn9 1000 0 h6)

def f_X4_isPolynomial_l15 (p1 : Int32) (h : pq_H) (w15 : Int32 → Option Bool) (v2 : Int32) : Option Bool :=
  gd (inb p1 3) (if (rI h 81 p1.toNatClampNeg) ≤ v2 then (some true) else (gd (inb p1 3) (gd (inb v2 40) (if (rI h (52 + p1.toNatClampNeg) v2.toNatClampNeg) < (-1000000) then (some false) else (gd (inb p1 3) (gd (inb v2 40) (if (rI h (52 + p1.toNatClampNeg) v2.toNatClampNeg) ≤ 1000000 then (w15 (v2 + 1)) else (some false))))))))
def f_X4_isPolynomial (p1 : Int32) (h : pq_H) : Option Bool :=
  gd (inb p1 3) (if (rI h 81 p1.toNatClampNeg) ≤ 9 then (lp (fun _ => none) (f_X4_isPolynomial_l15 p1 h) 1000 0) else (some false))
set_option maxRecDepth 100000 in
set_option maxHeartbeats 4000000 in
theorem c_X4_isPolynomial (g : pq_g) {A : Nat → Prop} (hA : pq_A (SC g) A) (l : Launch) (p1 : Int32) (h : pq_H) {rr : Bool} (e : f_X4_isPolynomial p1 h = some rr) : pq_M (SC g) A l yX4_isPolynomial cX4_isPolynomial 3 (some .boolean) 0 0 [.ref ((SC g).1.2.1 79), .int p1] h (some (.int (b2i rr))) h := by
  refine pq_met hA l (own := RX4) 0 0 _ [(0, .ref ((SC g).1.2.1 79)), (1, .int p1)] h _ h (by decide +kernel) rfl (Nat.le_of_ble_eq_true rfl) rfl (fun X hXl hXA hB hK hR => ?_)
  refine V.cast (F' := f_X4_isPolynomial p1 h) (res' := rr) (fun _ => e) ?_
  have hn15 : ∀ (n : Nat), ∀ (v2 : Int32), V X (SC g) rr 3 15 [(0, .ref ((SC g).1.2.1 79)), (1, .int p1), (2, .int v2)] [] h (lp (fun _ => none) (f_X4_isPolynomial_l15 p1 h) n v2) := by
    refine lp_ind (fun (w15 : Int32 → Option Bool) => ∀ (v2 : Int32), V X (SC g) rr 3 15 [(0, .ref ((SC g).1.2.1 79)), (1, .int p1), (2, .int v2)] [] h (w15 v2)) (fun _ => V.none _ _ _ _) (fun w15 ih15 => ?_)
    intro v2
    unfold f_X4_isPolynomial_l15
    refine v_iload_n hB 2 dX4_isPolynomial_15 rfl rfl ?_
    refine v_aload_n hB 0 dX4_isPolynomial_16 rfl rfl ?_
    refine v_getA hB hK (fl_X4_16 g) (cCA_79_1 g) dX4_isPolynomial_17 ?_
    refine v_iload_n hB 1 dX4_isPolynomial_20 rfl rfl ?_
    refine v_iald hB hK (aCI_81 g) dX4_isPolynomial_21 ?_
    refine v_icmp_ge (tgt := 59) hB dX4_isPolynomial_22 rfl ?_ ?_
    · refine v_iconst hB 1 dX4_isPolynomial_59 (by decide) ?_
      exact v_retRz (x := true) hB hK hR dX4_isPolynomial_60
    · refine v_aload_n hB 0 dX4_isPolynomial_25 rfl rfl ?_
      refine v_getA hB hK (fl_X4_11 g) (cCA_79_0 g) dX4_isPolynomial_26 ?_
      refine v_iload_n hB 1 dX4_isPolynomial_29 rfl rfl ?_
      refine v_aa80 hB hK dX4_isPolynomial_30 (fun q30 => ?_)
      refine v_iload_n hB 2 dX4_isPolynomial_31 rfl rfl ?_
      refine v_iald hB hK (aI_lrow g p1.toNatClampNeg q30) dX4_isPolynomial_32 ?_
      refine v_ldc hB (-1000000) k_X4_20 dX4_isPolynomial_33 ?_
      refine v_icmp_lt (tgt := 51) hB dX4_isPolynomial_35 rfl ?_ ?_
      · refine v_iconst hB 0 dX4_isPolynomial_51 (by decide) ?_
        exact v_retRz (x := false) hB hK hR dX4_isPolynomial_52
      · refine v_aload_n hB 0 dX4_isPolynomial_38 rfl rfl ?_
        refine v_getA hB hK (fl_X4_11 g) (cCA_79_0 g) dX4_isPolynomial_39 ?_
        refine v_iload_n hB 1 dX4_isPolynomial_42 rfl rfl ?_
        refine v_aa80 hB hK dX4_isPolynomial_43 (fun q43 => ?_)
        refine v_iload_n hB 2 dX4_isPolynomial_44 rfl rfl ?_
        refine v_iald hB hK (aI_lrow g p1.toNatClampNeg q43) dX4_isPolynomial_45 ?_
        refine v_ldc hB 1000000 k_X4_21 dX4_isPolynomial_46 ?_
        refine v_icmp_le (tgt := 53) hB dX4_isPolynomial_48 rfl ?_ ?_
        · refine v_iinc hB (v2 + 1) [(0, .ref ((SC g).1.2.1 79)), (1, .int p1), (2, .int (v2 + 1))] 2 [1, 2, 0] dX4_isPolynomial_53 rfl rfl (by decide) rfl ?_
          refine v_goto (tgt := 15) hB dX4_isPolynomial_56 rfl ?_
          exact V.sub [0, 1, 2] rfl (ih15 (v2 + 1))
        · refine v_iconst hB 0 dX4_isPolynomial_51 (by decide) ?_
          exact v_retRz (x := false) hB hK hR dX4_isPolynomial_52
  unfold f_X4_isPolynomial
  refine v_aload_n hB 0 dX4_isPolynomial_0 rfl rfl ?_
  refine v_getA hB hK (fl_X4_16 g) (cCA_79_1 g) dX4_isPolynomial_1 ?_
  refine v_iload_n hB 1 dX4_isPolynomial_4 rfl rfl ?_
  refine v_iald hB hK (aCI_81 g) dX4_isPolynomial_5 ?_
  refine v_bipush hB 9 dX4_isPolynomial_6 (by decide) ?_
  refine v_icmp_le (tgt := 13) hB dX4_isPolynomial_8 rfl ?_ ?_
  · refine v_iconst hB 0 dX4_isPolynomial_13 (by decide) ?_
    refine v_istore_n hB [(0, .ref ((SC g).1.2.1 79)), (1, .int p1), (2, .int 0)] [1, 2, 0] dX4_isPolynomial_14 rfl (by decide) rfl ?_
    exact V.sub [0, 1, 2] rfl (hn15 1000 0)
  · refine v_iconst hB 0 dX4_isPolynomial_11 (by decide) ?_
    exact v_retRz (x := false) hB hK hR dX4_isPolynomial_12

def f_X4_ways_l5 (p0 : Int32) (p1 : Int32) (w5 : Int64 → Int32 → Option Int64) (v2 : Int64) (v4 : Int32) : Option Int64 :=
  if p1 < v4 then (some v2) else (gd (v4.toInt64 != 0) (w5 ((v2 * (((p0 - p1) + v4).toInt64)) / v4.toInt64) (v4 + 1)))
def f_X4_ways (p0 : Int32) (p1 : Int32) : Option Int64 :=
  lp (fun _ _ => none) (f_X4_ways_l5 p0 p1) 1000 1 1
set_option maxRecDepth 100000 in
set_option maxHeartbeats 4000000 in
theorem c_X4_ways (g : pq_g) {A : Nat → Prop} (hA : pq_A (SC g) A) (l : Launch) (p0 : Int32) (p1 : Int32) (h : pq_H) {rr : Int64} (e : f_X4_ways p0 p1 = some rr) : pq_M (SC g) A l yX4_ways cX4_ways 5 (some .long) 0 0 [.int p0, .int p1] h (some (.long rr)) h := by
  refine pq_met hA l (own := RX4) 0 0 _ [(0, .int p0), (1, .int p1)] h _ h (by decide +kernel) rfl (Nat.le_of_ble_eq_true rfl) rfl (fun X hXl hXA hB hK hR => ?_)
  refine V.cast (F' := f_X4_ways p0 p1) (res' := rr) (fun _ => e) ?_
  have hn5 : ∀ (n : Nat), ∀ (v2 : Int64) (v4 : Int32), V X (SC g) rr 5 5 [(0, .int p0), (1, .int p1), (2, .long v2), (4, .int v4)] [] h (lp (fun _ _ => none) (f_X4_ways_l5 p0 p1) n v2 v4) := by
    refine lp_ind (fun (w5 : Int64 → Int32 → Option Int64) => ∀ (v2 : Int64) (v4 : Int32), V X (SC g) rr 5 5 [(0, .int p0), (1, .int p1), (2, .long v2), (4, .int v4)] [] h (w5 v2 v4)) (fun _ _ => V.none _ _ _ _) (fun w5 ih5 => ?_)
    intro v2 v4
    unfold f_X4_ways_l5
    refine v_iload hB 3 dX4_ways_5 rfl ?_
    refine v_iload_n hB 1 dX4_ways_7 rfl rfl ?_
    refine v_icmp_gt (tgt := 31) hB dX4_ways_8 rfl ?_ ?_
    · refine v_lload_n hB 2 dX4_ways_31 rfl rfl ?_
      exact v_retRj (x := v2) hB hK hR dX4_ways_32
    · refine v_lload_n hB 2 dX4_ways_11 rfl rfl ?_
      refine v_iload_n hB 0 dX4_ways_12 rfl rfl ?_
      refine v_iload_n hB 1 dX4_ways_13 rfl rfl ?_
      refine v_isub hB dX4_ways_14 ?_
      refine v_iload hB 3 dX4_ways_15 rfl ?_
      refine v_iadd hB dX4_ways_17 ?_
      refine v_i2l hB dX4_ways_18 ?_
      refine v_lmul hB dX4_ways_19 ?_
      refine v_iload hB 3 dX4_ways_20 rfl ?_
      refine v_i2l hB dX4_ways_22 ?_
      refine v_ldivG hB dX4_ways_23 ?_
      refine v_lstore_n hB [(0, .int p0), (1, .int p1), (2, .long ((v2 * (((p0 - p1) + v4).toInt64)) / v4.toInt64)), (4, .int v4)] [1, 2, 0, 3] dX4_ways_24 rfl (by decide) rfl ?_
      refine v_iinc hB (v4 + 1) [(0, .int p0), (1, .int p1), (2, .long ((v2 * (((p0 - p1) + v4).toInt64)) / v4.toInt64)), (4, .int (v4 + 1))] 3 [1, 2, 3, 0] dX4_ways_25 rfl rfl (by decide) rfl ?_
      refine v_goto (tgt := 5) hB dX4_ways_28 rfl ?_
      exact V.sub [0, 1, 2, 3] rfl (ih5 ((v2 * (((p0 - p1) + v4).toInt64)) / v4.toInt64) (v4 + 1))
  unfold f_X4_ways
  refine v_lconst hB 1 dX4_ways_0 (by decide) ?_
  refine v_lstore_n hB [(0, .int p0), (1, .int p1), (2, .long 1)] [1, 2, 0] dX4_ways_1 rfl (by decide) rfl ?_
  refine v_iconst hB 1 dX4_ways_2 (by decide) ?_
  refine v_istore hB [(0, .int p0), (1, .int p1), (2, .long 1), (4, .int 1)] [1, 2, 3, 0] dX4_ways_3 (by decide) rfl ?_
  exact V.sub [0, 1, 2, 3] rfl (hn5 1000 1 1)

def f_X4_wall_l6 (p1 : Int32) (p2 : Int32) (p3 : Int32) (h : pq_H) (w6 : Int64 → Int32 → Option Int64) (v4 : Int64) (v6 : Int32) : Option Int64 :=
  gd (inb p1 3) (if (rI h 81 p1.toNatClampNeg) ≤ v6 then (some v4) else (if p3 < v6 then (some v4) else (gd (inb p1 3) (gd (inb v6 40) ((f_X4_ways (p2 - v6) (p3 - v6)).bind fun r43 => w6 (v4 + (((rI h (52 + p1.toNatClampNeg) v6.toNatClampNeg).toInt64) * r43)) (v6 + 1))))))
def f_X4_wall (p1 : Int32) (p2 : Int32) (p3 : Int32) (h : pq_H) : Option Int64 :=
  lp (fun _ _ => none) (f_X4_wall_l6 p1 p2 p3 h) 1000 0 0
set_option maxRecDepth 100000 in
set_option maxHeartbeats 4000000 in
theorem c_X4_wall (g : pq_g) {A : Nat → Prop} (hA : pq_A (SC g) A) (l : Launch) (p1 : Int32) (p2 : Int32) (p3 : Int32) (h : pq_H) {rr : Int64} (e : f_X4_wall p1 p2 p3 h = some rr) : pq_M (SC g) A l yX4_wall cX4_wall 7 (some .long) 1 24 [.ref ((SC g).1.2.1 79), .int p1, .int p2, .int p3] h (some (.long rr)) h := by
  refine pq_met hA l (own := RX4) 1 24 _ [(0, .ref ((SC g).1.2.1 79)), (1, .int p1), (2, .int p2), (3, .int p3)] h _ h (by decide +kernel) rfl (Nat.le_of_ble_eq_true rfl) rfl (fun X hXl hXA hB hK hR => ?_)
  refine V.cast (F' := f_X4_wall p1 p2 p3 h) (res' := rr) (fun _ => e) ?_
  have hn6 : ∀ (n : Nat), ∀ (v4 : Int64) (v6 : Int32), V X (SC g) rr 7 6 [(0, .ref ((SC g).1.2.1 79)), (1, .int p1), (2, .int p2), (3, .int p3), (4, .long v4), (6, .int v6)] [] h (lp (fun _ _ => none) (f_X4_wall_l6 p1 p2 p3 h) n v4 v6) := by
    refine lp_ind (fun (w6 : Int64 → Int32 → Option Int64) => ∀ (v4 : Int64) (v6 : Int32), V X (SC g) rr 7 6 [(0, .ref ((SC g).1.2.1 79)), (1, .int p1), (2, .int p2), (3, .int p3), (4, .long v4), (6, .int v6)] [] h (w6 v4 v6)) (fun _ _ => V.none _ _ _ _) (fun w6 ih6 => ?_)
    intro v4 v6
    unfold f_X4_wall_l6
    refine v_iload hB 5 dX4_wall_6 rfl ?_
    refine v_aload_n hB 0 dX4_wall_8 rfl rfl ?_
    refine v_getA hB hK (fl_X4_16 g) (cCA_79_1 g) dX4_wall_9 ?_
    refine v_iload_n hB 1 dX4_wall_12 rfl rfl ?_
    refine v_iald hB hK (aCI_81 g) dX4_wall_13 ?_
    refine v_icmp_ge (tgt := 56) hB dX4_wall_14 rfl ?_ ?_
    · refine v_lload hB 4 dX4_wall_56 rfl ?_
      exact v_retRj (x := v4) hB hK hR dX4_wall_58
    · refine v_iload hB 5 dX4_wall_17 rfl ?_
      refine v_iload_n hB 3 dX4_wall_19 rfl rfl ?_
      refine v_icmp_gt (tgt := 56) hB dX4_wall_20 rfl ?_ ?_
      · refine v_lload hB 4 dX4_wall_56 rfl ?_
        exact v_retRj (x := v4) hB hK hR dX4_wall_58
      · refine v_lload hB 4 dX4_wall_23 rfl ?_
        refine v_aload_n hB 0 dX4_wall_25 rfl rfl ?_
        refine v_getA hB hK (fl_X4_11 g) (cCA_79_0 g) dX4_wall_26 ?_
        refine v_iload_n hB 1 dX4_wall_29 rfl rfl ?_
        refine v_aa80 hB hK dX4_wall_30 (fun q30 => ?_)
        refine v_iload hB 5 dX4_wall_31 rfl ?_
        refine v_iald hB hK (aI_lrow g p1.toNatClampNeg q30) dX4_wall_33 ?_
        refine v_i2l hB dX4_wall_34 ?_
        refine v_iload_n hB 2 dX4_wall_35 rfl rfl ?_
        refine v_iload hB 5 dX4_wall_36 rfl ?_
        refine v_isub hB dX4_wall_38 ?_
        refine v_iload_n hB 3 dX4_wall_39 rfl rfl ?_
        refine v_iload hB 5 dX4_wall_40 rfl ?_
        refine v_isub hB dX4_wall_42 ?_
        refine v_bRj (fun r43 e43 => v_callS hB hK hR.rm [.int (p2 - v6), .int (p3 - v6)] [.long ((rI h (52 + p1.toNatClampNeg) v6.toNatClampNeg).toInt64), .long v4] lb_X4_ways lv_X4_22 (c_X4_ways g hK.A X.1.2.1 (p2 - v6) (p3 - v6) h e43) dX4_wall_43 rfl rfl (Nat.le_of_ble_eq_true rfl) (by decide) (by decide)) (fun r43 => ?_)
        refine v_lmul hB dX4_wall_46 ?_
        refine v_ladd hB dX4_wall_47 ?_
        refine v_lstore hB [(0, .ref ((SC g).1.2.1 79)), (1, .int p1), (2, .int p2), (3, .int p3), (4, .long (v4 + (((rI h (52 + p1.toNatClampNeg) v6.toNatClampNeg).toInt64) * r43))), (6, .int v6)] [1, 2, 3, 4, 0, 5] dX4_wall_48 (by decide) rfl ?_
        refine v_iinc hB (v6 + 1) [(0, .ref ((SC g).1.2.1 79)), (1, .int p1), (2, .int p2), (3, .int p3), (4, .long (v4 + (((rI h (52 + p1.toNatClampNeg) v6.toNatClampNeg).toInt64) * r43))), (6, .int (v6 + 1))] 5 [1, 2, 3, 4, 5, 0] dX4_wall_50 rfl rfl (by decide) rfl ?_
        refine v_goto (tgt := 6) hB dX4_wall_53 rfl ?_
        exact V.sub [0, 1, 2, 3, 4, 5] rfl (ih6 (v4 + (((rI h (52 + p1.toNatClampNeg) v6.toNatClampNeg).toInt64) * r43)) (v6 + 1))
  unfold f_X4_wall
  refine v_lconst hB 0 dX4_wall_0 (by decide) ?_
  refine v_lstore hB [(0, .ref ((SC g).1.2.1 79)), (1, .int p1), (2, .int p2), (3, .int p3), (4, .long 0)] [1, 2, 3, 4, 0] dX4_wall_1 (by decide) rfl ?_
  refine v_iconst hB 0 dX4_wall_3 (by decide) ?_
  refine v_istore hB [(0, .ref ((SC g).1.2.1 79)), (1, .int p1), (2, .int p2), (3, .int p3), (4, .long 0), (6, .int 0)] [1, 2, 3, 4, 5, 0] dX4_wall_4 (by decide) rfl ?_
  exact V.sub [0, 1, 2, 3, 4, 5] rfl (hn6 1000 0 0)

def f_X10_fails (p0 : Int64) (p2 : Int32) : Bool :=
  if p2 = 0 then (if 0 ≤ p0 then (false) else (true)) else (if 0 < p0 then (false) else (true))
set_option maxRecDepth 100000 in
set_option maxHeartbeats 4000000 in
theorem c_X10_fails (g : pq_g) {A : Nat → Prop} (hA : pq_A (SC g) A) (l : Launch) (p0 : Int64) (p2 : Int32) (h : pq_H) : pq_M (SC g) A l yX10_fails cX10_fails 3 (some .boolean) 0 0 [.long p0, .int p2] h (some (.int (b2i (f_X10_fails p0 p2)))) h := by
  refine pq_met hA l (own := RX10) 0 0 _ [(0, .long p0), (2, .int p2)] h _ h (by decide +kernel) rfl (Nat.le_of_ble_eq_true rfl) rfl (fun X hXl hXA hB hK hR => ?_)
  refine V.cast (F' := some (f_X10_fails p0 p2)) (res' := (f_X10_fails p0 p2)) (fun _ => rfl) ?_
  unfold f_X10_fails
  refine v_iload_n hB 1 dX10_fails_0 rfl rfl ?_
  refine v_if_neT (tgt := 18) hB dX10_fails_1 rfl ?_ ?_
  · refine v_lload_n hB 0 dX10_fails_18 rfl rfl ?_
    refine v_lconst hB 0 dX10_fails_19 (by decide) ?_
    refine v_lcmp_gtT (tgt := 28) hB dX10_fails_20 dX10_fails_21 rfl ?_ ?_
    · refine v_iconst hB 0 dX10_fails_28 (by decide) ?_
      exact v_retRz (x := false) hB hK hR dX10_fails_29
    · refine v_iconst hB 1 dX10_fails_24 (by decide) ?_
      refine v_goto (tgt := 29) hB dX10_fails_25 rfl ?_
      exact v_retRz (x := true) hB hK hR dX10_fails_29
  · refine v_lload_n hB 0 dX10_fails_4 rfl rfl ?_
    refine v_lconst hB 0 dX10_fails_5 (by decide) ?_
    refine v_lcmp_geT (tgt := 14) hB dX10_fails_6 dX10_fails_7 rfl ?_ ?_
    · refine v_iconst hB 0 dX10_fails_14 (by decide) ?_
      refine v_goto (tgt := 29) hB dX10_fails_15 rfl ?_
      exact v_retRz (x := false) hB hK hR dX10_fails_29
    · refine v_iconst hB 1 dX10_fails_10 (by decide) ?_
      refine v_goto (tgt := 29) hB dX10_fails_11 rfl ?_
      exact v_retRz (x := true) hB hK hR dX10_fails_29

def f_X4_wallsClear_l3 (p1 : Int32) (p2 : Int32) (p3 : Int32) (h : pq_H) (w3 : Int32 → Option Bool) (v4 : Int32) : Option Bool :=
  if p2 < v4 then (some true) else ((f_X4_wall p1 p2 v4 h).bind fun r14 => if (f_X10_fails r14 p3) = true then (some false) else (w3 (v4 + 1)))
def f_X4_wallsClear (p1 : Int32) (p2 : Int32) (p3 : Int32) (h : pq_H) : Option Bool :=
  lp (fun _ => none) (f_X4_wallsClear_l3 p1 p2 p3 h) 1000 0
set_option maxRecDepth 100000 in
set_option maxHeartbeats 4000000 in
theorem c_X4_wallsClear (g : pq_g) {A : Nat → Prop} (hA : pq_A (SC g) A) (l : Launch) (p1 : Int32) (p2 : Int32) (p3 : Int32) (h : pq_H) {rr : Bool} (e : f_X4_wallsClear p1 p2 p3 h = some rr) : pq_M (SC g) A l yX4_wallsClear cX4_wallsClear 5 (some .boolean) 2 50 [.ref ((SC g).1.2.1 79), .int p1, .int p2, .int p3] h (some (.int (b2i rr))) h := by
  refine pq_met hA l (own := RX4) 2 50 _ [(0, .ref ((SC g).1.2.1 79)), (1, .int p1), (2, .int p2), (3, .int p3)] h _ h (by decide +kernel) rfl (Nat.le_of_ble_eq_true rfl) rfl (fun X hXl hXA hB hK hR => ?_)
  refine V.cast (F' := f_X4_wallsClear p1 p2 p3 h) (res' := rr) (fun _ => e) ?_
  have hn3 : ∀ (n : Nat), ∀ (v4 : Int32), V X (SC g) rr 5 3 [(0, .ref ((SC g).1.2.1 79)), (1, .int p1), (2, .int p2), (3, .int p3), (4, .int v4)] [] h (lp (fun _ => none) (f_X4_wallsClear_l3 p1 p2 p3 h) n v4) := by
    refine lp_ind (fun (w3 : Int32 → Option Bool) => ∀ (v4 : Int32), V X (SC g) rr 5 3 [(0, .ref ((SC g).1.2.1 79)), (1, .int p1), (2, .int p2), (3, .int p3), (4, .int v4)] [] h (w3 v4)) (fun _ => V.none _ _ _ _) (fun w3 ih3 => ?_)
    intro v4
    unfold f_X4_wallsClear_l3
    refine v_iload hB 4 dX4_wallsClear_3 rfl ?_
    refine v_iload_n hB 2 dX4_wallsClear_5 rfl rfl ?_
    refine v_icmp_gt (tgt := 32) hB dX4_wallsClear_6 rfl ?_ ?_
    · refine v_iconst hB 1 dX4_wallsClear_32 (by decide) ?_
      exact v_retRz (x := true) hB hK hR dX4_wallsClear_33
    · refine v_aload_n hB 0 dX4_wallsClear_9 rfl rfl ?_
      refine v_iload_n hB 1 dX4_wallsClear_10 rfl rfl ?_
      refine v_iload_n hB 2 dX4_wallsClear_11 rfl rfl ?_
      refine v_iload hB 4 dX4_wallsClear_12 rfl ?_
      refine v_bRj (fun r14 e14 => v_callV hB hK hR.rm [.int p1, .int p2, .int v4] [] (oC_79 g) lb_X4_wall lv_X4_26 (c_X4_wall g hK.A X.1.2.1 p1 p2 v4 h e14) dX4_wallsClear_14 rfl rfl (Nat.le_of_ble_eq_true rfl) (by decide) (by decide)) (fun r14 => ?_)
      refine v_iload_n hB 3 dX4_wallsClear_17 rfl rfl ?_
      refine v_bT (v_callSN hB hK hR.rm [.long r14, .int p3] [] lb_X10_fails (nk_X4_30 g) lv_X4_30 (c_X10_fails g hK.A X.1.2.1 r14 p3 h) dX4_wallsClear_18 rfl rfl (Nat.le_of_ble_eq_true rfl) (by decide) (by decide)) ?_
      refine v_ifz_eq (r := f_X10_fails r14 p3) (tgt := 26) hB dX4_wallsClear_21 rfl ?_ ?_
      · refine v_iinc hB (v4 + 1) [(0, .ref ((SC g).1.2.1 79)), (1, .int p1), (2, .int p2), (3, .int p3), (4, .int (v4 + 1))] 4 [1, 2, 3, 4, 0] dX4_wallsClear_26 rfl rfl (by decide) rfl ?_
        refine v_goto (tgt := 3) hB dX4_wallsClear_29 rfl ?_
        exact V.sub [0, 1, 2, 3, 4] rfl (ih3 (v4 + 1))
      · refine v_iconst hB 0 dX4_wallsClear_24 (by decide) ?_
        exact v_retRz (x := false) hB hK hR dX4_wallsClear_25
  unfold f_X4_wallsClear
  refine v_iconst hB 0 dX4_wallsClear_0 (by decide) ?_
  refine v_istore hB [(0, .ref ((SC g).1.2.1 79)), (1, .int p1), (2, .int p2), (3, .int p3), (4, .int 0)] [1, 2, 3, 4, 0] dX4_wallsClear_1 (by decide) rfl ?_
  exact V.sub [0, 1, 2, 3, 4] rfl (hn3 1000 0)

def f_X6_isFull (h : pq_H) : Bool :=
  if (rI h 56 3) < 6 then (false) else (true)
set_option maxRecDepth 100000 in
set_option maxHeartbeats 4000000 in
theorem c_X6_isFull (g : pq_g) {A : Nat → Prop} (hA : pq_A (SC g) A) (l : Launch) (h : pq_H) : pq_M (SC g) A l yX6_isFull cX6_isFull 1 (some .boolean) 0 0 [.ref ((SC g).1.2.1 56)] h (some (.int (b2i (f_X6_isFull h)))) h := by
  refine pq_met hA l (own := RX6) 0 0 _ [(0, .ref ((SC g).1.2.1 56))] h _ h (by decide +kernel) rfl (Nat.le_of_ble_eq_true rfl) rfl (fun X hXl hXA hB hK hR => ?_)
  refine V.cast (F' := some (f_X6_isFull h)) (res' := (f_X6_isFull h)) (fun _ => rfl) ?_
  unfold f_X6_isFull
  refine v_aload_n hB 0 dX6_isFull_0 rfl rfl ?_
  refine v_getI hB hK (fl_X6_32 g) (cCI_56_3 g) dX6_isFull_1 ?_
  refine v_bipush hB 6 dX6_isFull_4 (by decide) ?_
  refine v_icmp_ltT (tgt := 13) hB dX6_isFull_6 rfl ?_ ?_
  · refine v_iconst hB 0 dX6_isFull_13 (by decide) ?_
    exact v_retRz (x := false) hB hK hR dX6_isFull_14
  · refine v_iconst hB 1 dX6_isFull_9 (by decide) ?_
    refine v_goto (tgt := 14) hB dX6_isFull_10 rfl ?_
    exact v_retRz (x := true) hB hK hR dX6_isFull_14

def f_X6_lacks (p1 : Int32) (h : pq_H) : Bool :=
  f_X10_notBelow p1 (rI h 56 3)
set_option maxRecDepth 100000 in
set_option maxHeartbeats 4000000 in
theorem c_X6_lacks (g : pq_g) {A : Nat → Prop} (hA : pq_A (SC g) A) (l : Launch) (p1 : Int32) (h : pq_H) : pq_M (SC g) A l yX6_lacks cX6_lacks 2 (some .boolean) 1 21 [.ref ((SC g).1.2.1 56), .int p1] h (some (.int (b2i (f_X6_lacks p1 h)))) h := by
  refine pq_met hA l (own := RX6) 1 21 _ [(0, .ref ((SC g).1.2.1 56)), (1, .int p1)] h _ h (by decide +kernel) rfl (Nat.le_of_ble_eq_true rfl) rfl (fun X hXl hXA hB hK hR => ?_)
  refine V.cast (F' := some (f_X6_lacks p1 h)) (res' := (f_X6_lacks p1 h)) (fun _ => rfl) ?_
  unfold f_X6_lacks
  refine v_iload_n hB 1 dX6_lacks_0 rfl rfl ?_
  refine v_aload_n hB 0 dX6_lacks_1 rfl rfl ?_
  refine v_getI hB hK (fl_X6_32 g) (cCI_56_3 g) dX6_lacks_2 ?_
  refine v_bT (v_callSN hB hK hR.rm [.int p1, .int (rI h 56 3)] [] lb_X10_notBelow (nk_X6_35 g) lv_X6_35 (c_X10_notBelow g hK.A X.1.2.1 p1 (rI h 56 3) h) dX6_lacks_5 rfl rfl (Nat.le_of_ble_eq_true rfl) (by decide) (by decide)) ?_
  exact v_retRz (x := f_X10_notBelow p1 (rI h 56 3)) hB hK hR dX6_lacks_8

def f_X6_keepImage_j31 (h : pq_H) : Option pq_H :=
  some (wI h 56 4 (rI h 56 3))
def f_X6_keepImage_l2 (w2 : Int32 → pq_H → Option pq_H) (v1 : Int32) (h : pq_H) : Option pq_H :=
  if (rI h 56 3) ≤ v1 then (f_X6_keepImage_j31 h) else (gd (inb v1 6) (gd (inb v1 6) ((f_X1_copyOf (6 + v1.toNatClampNeg) v1.toNatClampNeg h).bind fun h22 => w2 (v1 + 1) h22)))
def f_X6_keepImage (h : pq_H) : Option pq_H :=
  lp (fun _ _ => none) (f_X6_keepImage_l2) 1000 0 h
set_option maxRecDepth 100000 in
set_option maxHeartbeats 4000000 in
theorem c_X6_keepImage (g : pq_g) {A : Nat → Prop} (hA : pq_A (SC g) A) (l : Launch) (h : pq_H) {hh : pq_H} (e : f_X6_keepImage h = some hh) : pq_M (SC g) A l yX6_keepImage cX6_keepImage 2 none 1 22 [.ref ((SC g).1.2.1 56)] h none hh := by
  refine pq_met hA l (own := RX6) 1 22 _ [(0, .ref ((SC g).1.2.1 56))] h _ hh (by decide +kernel) rfl (Nat.le_of_ble_eq_true rfl) rfl (fun X hXl hXA hB hK hR => ?_)
  refine V.cast (F' := f_X6_keepImage h) (res' := hh) (fun _ => e) ?_
  have hn31 : ∀ (h : pq_H), V X (SC g) hh 2 31 [(0, .ref ((SC g).1.2.1 56))] [] h (f_X6_keepImage_j31 h) := by
    intro h
    unfold f_X6_keepImage_j31
    refine v_aload_n hB 0 dX6_keepImage_31 rfl rfl ?_
    refine v_aload_n hB 0 dX6_keepImage_32 rfl rfl ?_
    refine v_getI hB hK (fl_X6_32 g) (cCI_56_3 g) dX6_keepImage_33 ?_
    refine v_putI hB hK (fl_X6_27 g) (fin_X6_4 g) (cCI_56_4 g) dX6_keepImage_36 ?_
    exact v_retWv hB hK hR dX6_keepImage_39
  have hn2 : ∀ (n : Nat), ∀ (v1 : Int32) (h : pq_H), V X (SC g) hh 2 2 [(0, .ref ((SC g).1.2.1 56)), (1, .int v1)] [] h (lp (fun _ _ => none) (f_X6_keepImage_l2) n v1 h) := by
    refine lp_ind (fun (w2 : Int32 → pq_H → Option pq_H) => ∀ (v1 : Int32) (h : pq_H), V X (SC g) hh 2 2 [(0, .ref ((SC g).1.2.1 56)), (1, .int v1)] [] h (w2 v1 h)) (fun _ _ => V.none _ _ _ _) (fun w2 ih2 => ?_)
    intro v1 h
    unfold f_X6_keepImage_l2
    refine v_iload_n hB 1 dX6_keepImage_2 rfl rfl ?_
    refine v_aload_n hB 0 dX6_keepImage_3 rfl rfl ?_
    refine v_getI hB hK (fl_X6_32 g) (cCI_56_3 g) dX6_keepImage_4 ?_
    refine v_icmp_ge (tgt := 31) hB dX6_keepImage_7 rfl ?_ ?_
    · exact V.sub [0] rfl (hn31 h)
    · refine v_aload_n hB 0 dX6_keepImage_10 rfl rfl ?_
      refine v_getA hB hK (fl_X6_17 g) (cCA_56_1 g) dX6_keepImage_11 ?_
      refine v_iload_n hB 1 dX6_keepImage_14 rfl rfl ?_
      refine v_aa58 hB hK dX6_keepImage_15 (fun q15 => ?_)
      refine v_aload_n hB 0 dX6_keepImage_16 rfl rfl ?_
      refine v_getA hB hK (fl_X6_11 g) (cCA_56_0 g) dX6_keepImage_17 ?_
      refine v_iload_n hB 1 dX6_keepImage_20 rfl rfl ?_
      refine v_aa57 hB hK dX6_keepImage_21 (fun q21 => ?_)
      refine v_bV (fun h22 e22 => v_callV hB hK hR.rm [.ref ((SC g).1.2.1 v1.toNatClampNeg)] [] (o_Form g (6 + v1.toNatClampNeg) (lt6_k q15)) lb_X1_copyOf lv_X6_39 (c_X1_copyOf g hK.A X.1.2.1 (6 + v1.toNatClampNeg) (lt6_k q15) v1.toNatClampNeg (lt6_12 q21) h e22) dX6_keepImage_22 rfl rfl (Nat.le_of_ble_eq_true rfl) (by decide) (by decide)) (fun h22 => ?_)
      refine v_iinc hB (v1 + 1) [(0, .ref ((SC g).1.2.1 56)), (1, .int (v1 + 1))] 1 [1, 0] dX6_keepImage_25 rfl rfl (by decide) rfl ?_
      refine v_goto (tgt := 2) hB dX6_keepImage_28 rfl ?_
      exact V.sub [0, 1] rfl (ih2 (v1 + 1) h22)
  unfold f_X6_keepImage
  refine v_iconst hB 0 dX6_keepImage_0 (by decide) ?_
  refine v_istore_n hB [(0, .ref ((SC g).1.2.1 56)), (1, .int 0)] [1, 0] dX6_keepImage_1 rfl (by decide) rfl ?_
  exact V.sub [0, 1] rfl (hn2 1000 0 h)

def f_X6_restoreImage_j31 (h : pq_H) : Option pq_H :=
  some (wI h 56 3 (rI h 56 4))
def f_X6_restoreImage_l2 (w2 : Int32 → pq_H → Option pq_H) (v1 : Int32) (h : pq_H) : Option pq_H :=
  if (rI h 56 4) ≤ v1 then (f_X6_restoreImage_j31 h) else (gd (inb v1 6) (gd (inb v1 6) ((f_X1_copyOf v1.toNatClampNeg (6 + v1.toNatClampNeg) h).bind fun h22 => w2 (v1 + 1) h22)))
def f_X6_restoreImage (h : pq_H) : Option pq_H :=
  lp (fun _ _ => none) (f_X6_restoreImage_l2) 1000 0 h
set_option maxRecDepth 100000 in
set_option maxHeartbeats 4000000 in
theorem c_X6_restoreImage (g : pq_g) {A : Nat → Prop} (hA : pq_A (SC g) A) (l : Launch) (h : pq_H) {hh : pq_H} (e : f_X6_restoreImage h = some hh) : pq_M (SC g) A l yX6_restoreImage cX6_restoreImage 2 none 1 22 [.ref ((SC g).1.2.1 56)] h none hh := by
  refine pq_met hA l (own := RX6) 1 22 _ [(0, .ref ((SC g).1.2.1 56))] h _ hh (by decide +kernel) rfl (Nat.le_of_ble_eq_true rfl) rfl (fun X hXl hXA hB hK hR => ?_)
  refine V.cast (F' := f_X6_restoreImage h) (res' := hh) (fun _ => e) ?_
  have hn31 : ∀ (h : pq_H), V X (SC g) hh 2 31 [(0, .ref ((SC g).1.2.1 56))] [] h (f_X6_restoreImage_j31 h) := by
    intro h
    unfold f_X6_restoreImage_j31
    refine v_aload_n hB 0 dX6_restoreImage_31 rfl rfl ?_
    refine v_aload_n hB 0 dX6_restoreImage_32 rfl rfl ?_
    refine v_getI hB hK (fl_X6_27 g) (cCI_56_4 g) dX6_restoreImage_33 ?_
    refine v_putI hB hK (fl_X6_32 g) (fin_X6_3 g) (cCI_56_3 g) dX6_restoreImage_36 ?_
    exact v_retWv hB hK hR dX6_restoreImage_39
  have hn2 : ∀ (n : Nat), ∀ (v1 : Int32) (h : pq_H), V X (SC g) hh 2 2 [(0, .ref ((SC g).1.2.1 56)), (1, .int v1)] [] h (lp (fun _ _ => none) (f_X6_restoreImage_l2) n v1 h) := by
    refine lp_ind (fun (w2 : Int32 → pq_H → Option pq_H) => ∀ (v1 : Int32) (h : pq_H), V X (SC g) hh 2 2 [(0, .ref ((SC g).1.2.1 56)), (1, .int v1)] [] h (w2 v1 h)) (fun _ _ => V.none _ _ _ _) (fun w2 ih2 => ?_)
    intro v1 h
    unfold f_X6_restoreImage_l2
    refine v_iload_n hB 1 dX6_restoreImage_2 rfl rfl ?_
    refine v_aload_n hB 0 dX6_restoreImage_3 rfl rfl ?_
    refine v_getI hB hK (fl_X6_27 g) (cCI_56_4 g) dX6_restoreImage_4 ?_
    refine v_icmp_ge (tgt := 31) hB dX6_restoreImage_7 rfl ?_ ?_
    · exact V.sub [0] rfl (hn31 h)
    · refine v_aload_n hB 0 dX6_restoreImage_10 rfl rfl ?_
      refine v_getA hB hK (fl_X6_11 g) (cCA_56_0 g) dX6_restoreImage_11 ?_
      refine v_iload_n hB 1 dX6_restoreImage_14 rfl rfl ?_
      refine v_aa57 hB hK dX6_restoreImage_15 (fun q15 => ?_)
      refine v_aload_n hB 0 dX6_restoreImage_16 rfl rfl ?_
      refine v_getA hB hK (fl_X6_17 g) (cCA_56_1 g) dX6_restoreImage_17 ?_
      refine v_iload_n hB 1 dX6_restoreImage_20 rfl rfl ?_
      refine v_aa58 hB hK dX6_restoreImage_21 (fun q21 => ?_)
      refine v_bV (fun h22 e22 => v_callV hB hK hR.rm [.ref ((SC g).1.2.1 (6 + v1.toNatClampNeg))] [] (o_Form g v1.toNatClampNeg (lt6_12 q15)) lb_X1_copyOf lv_X6_39 (c_X1_copyOf g hK.A X.1.2.1 v1.toNatClampNeg (lt6_12 q15) (6 + v1.toNatClampNeg) (lt6_k q21) h e22) dX6_restoreImage_22 rfl rfl (Nat.le_of_ble_eq_true rfl) (by decide) (by decide)) (fun h22 => ?_)
      refine v_iinc hB (v1 + 1) [(0, .ref ((SC g).1.2.1 56)), (1, .int (v1 + 1))] 1 [1, 0] dX6_restoreImage_25 rfl rfl (by decide) rfl ?_
      refine v_goto (tgt := 2) hB dX6_restoreImage_28 rfl ?_
      exact V.sub [0, 1] rfl (ih2 (v1 + 1) h22)
  unfold f_X6_restoreImage
  refine v_iconst hB 0 dX6_restoreImage_0 (by decide) ?_
  refine v_istore_n hB [(0, .ref ((SC g).1.2.1 56)), (1, .int 0)] [1, 0] dX6_restoreImage_1 rfl (by decide) rfl ?_
  exact V.sub [0, 1] rfl (hn2 1000 0 h)

def f_X6_termsOfAll_l4 (h : pq_H) (w4 : Int32 → Int32 → Option Int32) (v1 : Int32) (v2 : Int32) : Option Int32 :=
  if (rI h 56 3) ≤ v2 then (some v1) else (gd (inb v2 6) (w4 (v1 + (f_X10_termsOf (rI h v2.toNatClampNeg 3))) (v2 + 1)))
def f_X6_termsOfAll (h : pq_H) : Option Int32 :=
  lp (fun _ _ => none) (f_X6_termsOfAll_l4 h) 1000 0 0
set_option maxRecDepth 100000 in
set_option maxHeartbeats 4000000 in
theorem c_X6_termsOfAll (g : pq_g) {A : Nat → Prop} (hA : pq_A (SC g) A) (l : Launch) (h : pq_H) {rr : Int32} (e : f_X6_termsOfAll h = some rr) : pq_M (SC g) A l yX6_termsOfAll cX6_termsOfAll 3 (some .int) 1 20 [.ref ((SC g).1.2.1 56)] h (some (.int rr)) h := by
  refine pq_met hA l (own := RX6) 1 20 _ [(0, .ref ((SC g).1.2.1 56))] h _ h (by decide +kernel) rfl (Nat.le_of_ble_eq_true rfl) rfl (fun X hXl hXA hB hK hR => ?_)
  refine V.cast (F' := f_X6_termsOfAll h) (res' := rr) (fun _ => e) ?_
  have hn4 : ∀ (n : Nat), ∀ (v1 : Int32) (v2 : Int32), V X (SC g) rr 3 4 [(0, .ref ((SC g).1.2.1 56)), (1, .int v1), (2, .int v2)] [] h (lp (fun _ _ => none) (f_X6_termsOfAll_l4 h) n v1 v2) := by
    refine lp_ind (fun (w4 : Int32 → Int32 → Option Int32) => ∀ (v1 : Int32) (v2 : Int32), V X (SC g) rr 3 4 [(0, .ref ((SC g).1.2.1 56)), (1, .int v1), (2, .int v2)] [] h (w4 v1 v2)) (fun _ _ => V.none _ _ _ _) (fun w4 ih4 => ?_)
    intro v1 v2
    unfold f_X6_termsOfAll_l4
    refine v_iload_n hB 2 dX6_termsOfAll_4 rfl rfl ?_
    refine v_aload_n hB 0 dX6_termsOfAll_5 rfl rfl ?_
    refine v_getI hB hK (fl_X6_32 g) (cCI_56_3 g) dX6_termsOfAll_6 ?_
    refine v_icmp_ge (tgt := 33) hB dX6_termsOfAll_9 rfl ?_ ?_
    · refine v_iload_n hB 1 dX6_termsOfAll_33 rfl rfl ?_
      exact v_retRi (x := v1) hB hK hR dX6_termsOfAll_34
    · refine v_iload_n hB 1 dX6_termsOfAll_12 rfl rfl ?_
      refine v_aload_n hB 0 dX6_termsOfAll_13 rfl rfl ?_
      refine v_getA hB hK (fl_X6_11 g) (cCA_56_0 g) dX6_termsOfAll_14 ?_
      refine v_iload_n hB 2 dX6_termsOfAll_17 rfl rfl ?_
      refine v_aa57 hB hK dX6_termsOfAll_18 (fun q18 => ?_)
      refine v_getI hB hK (fl_X6_43 g) (cI_Form_3 g v2.toNatClampNeg (lt6_12 q18)) dX6_termsOfAll_19 ?_
      refine v_bT (v_callSN hB hK hR.rm [.int (rI h v2.toNatClampNeg 3)] [.int v1] lb_X10_termsOf (nk_X6_46 g) lv_X6_46 (c_X10_termsOf g hK.A X.1.2.1 (rI h v2.toNatClampNeg 3) h) dX6_termsOfAll_22 rfl rfl (Nat.le_of_ble_eq_true rfl) (by decide) (by decide)) ?_
      refine v_iadd hB dX6_termsOfAll_25 ?_
      refine v_istore_n hB [(0, .ref ((SC g).1.2.1 56)), (1, .int (v1 + (f_X10_termsOf (rI h v2.toNatClampNeg 3)))), (2, .int v2)] [1, 0, 2] dX6_termsOfAll_26 rfl (by decide) rfl ?_
      refine v_iinc hB (v2 + 1) [(0, .ref ((SC g).1.2.1 56)), (1, .int (v1 + (f_X10_termsOf (rI h v2.toNatClampNeg 3)))), (2, .int (v2 + 1))] 2 [1, 2, 0] dX6_termsOfAll_27 rfl rfl (by decide) rfl ?_
      refine v_goto (tgt := 4) hB dX6_termsOfAll_30 rfl ?_
      exact V.sub [0, 1, 2] rfl (ih4 (v1 + (f_X10_termsOf (rI h v2.toNatClampNeg 3))) (v2 + 1))
  unfold f_X6_termsOfAll
  refine v_iconst hB 0 dX6_termsOfAll_0 (by decide) ?_
  refine v_istore_n hB [(0, .ref ((SC g).1.2.1 56)), (1, .int 0)] [1, 0] dX6_termsOfAll_1 rfl (by decide) rfl ?_
  refine v_iconst hB 0 dX6_termsOfAll_2 (by decide) ?_
  refine v_istore_n hB [(0, .ref ((SC g).1.2.1 56)), (1, .int 0), (2, .int 0)] [1, 2, 0] dX6_termsOfAll_3 rfl (by decide) rfl ?_
  exact V.sub [0, 1, 2] rfl (hn4 1000 0 0)

