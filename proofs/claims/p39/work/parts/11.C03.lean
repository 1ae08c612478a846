def f_X10_value_j30 (h : pq_H) : Option (Int64 × pq_H) :=
  bd2 (f_X10_refuseFar (-4) h) fun r33 h33 => some (r33, h33)
def f_X10_value_j56 (h : pq_H) : Option (Int64 × pq_H) :=
  bd2 (f_X10_refuseFar (-6) h) fun r59 h59 => some (r59, h59)
def f_X10_value (p1 : Int32) (p2 : Int32) (p3 : Int32) (p4 : Int32) (h : pq_H) : Option (Int64 × pq_H) :=
  if (f_X6_lacks p1 h) = true then (bd2 (f_X10_refuseFar (-1) h) fun r13 h13 => some (r13, h13)) else (if p2 < 0 then (f_X10_value_j30 h) else (if p3 < 0 then (f_X10_value_j30 h) else (if 0 ≤ p4 then (if 12 < p2 then (f_X10_value_j56 h) else (if 12 < p3 then (f_X10_value_j56 h) else (if p4 ≤ 12 then ((f_X10_workOn p1 7 h).bind fun h67 => (f_X9_worth p2 p3 p4 h67).bind fun r74 => some (r74, h67)) else (f_X10_value_j56 h)))) else (f_X10_value_j30 h))))
set_option maxRecDepth 100000 in
set_option maxHeartbeats 4000000 in
theorem c_X10_value (g : pq_g) {A : Nat → Prop} (hA : pq_A (SC g) A) (l : Launch) (p1 : Int32) (p2 : Int32) (p3 : Int32) (p4 : Int32) (h : pq_H) {rr : Int64} {hh : pq_H} (e : f_X10_value p1 p2 p3 p4 h = some (rr, hh)) : pq_M (SC g) A l yX10_value cX10_value 5 (some .long) 4 92 [.ref ((SC g).1.2.1 55), .int p1, .int p2, .int p3, .int p4] h (some (.long rr)) hh := by
  refine pq_met hA l (own := RX10) 4 92 _ [(0, .ref ((SC g).1.2.1 55)), (1, .int p1), (2, .int p2), (3, .int p3), (4, .int p4)] h _ hh (by decide +kernel) rfl (Nat.le_of_ble_eq_true rfl) rfl (fun X hXl hXA hB hK hR => ?_)
  refine V.cast (F' := f_X10_value p1 p2 p3 p4 h) (res' := (rr, hh)) (fun _ => e) ?_
  have hn30 : ∀ (h : pq_H), V X (SC g) (rr, hh) 5 30 [(0, .ref ((SC g).1.2.1 55))] [] h (f_X10_value_j30 h) := by
    intro h
    unfold f_X10_value_j30
    refine v_aload_n hB 0 dX10_value_30 rfl rfl ?_
    refine v_bipush hB (-4) dX10_value_31 (by decide) ?_
    refine v_bWj (fun r33 h33 e33 => v_callV hB hK hR.rm [.int (-4)] [] (oC_55 g) lb_X10_refuseFar lv_X10_152 (c_X10_refuseFar g hK.A X.1.2.1 (-4) h e33) dX10_value_33 rfl rfl (Nat.le_of_ble_eq_true rfl) (by decide) (by decide)) (fun r33 h33 => ?_)
    exact v_retWj (x := r33) hB hK hR dX10_value_36
  have hn56 : ∀ (h : pq_H), V X (SC g) (rr, hh) 5 56 [(0, .ref ((SC g).1.2.1 55))] [] h (f_X10_value_j56 h) := by
    intro h
    unfold f_X10_value_j56
    refine v_aload_n hB 0 dX10_value_56 rfl rfl ?_
    refine v_bipush hB (-6) dX10_value_57 (by decide) ?_
    refine v_bWj (fun r59 h59 e59 => v_callV hB hK hR.rm [.int (-6)] [] (oC_55 g) lb_X10_refuseFar lv_X10_152 (c_X10_refuseFar g hK.A X.1.2.1 (-6) h e59) dX10_value_59 rfl rfl (Nat.le_of_ble_eq_true rfl) (by decide) (by decide)) (fun r59 h59 => ?_)
    exact v_retWj (x := r59) hB hK hR dX10_value_62
  unfold f_X10_value
  refine v_aload_n hB 0 dX10_value_0 rfl rfl ?_
  refine v_getA hB hK (fl_X10_10 g) (cCA_55_0 g) dX10_value_1 ?_
  refine v_iload_n hB 1 dX10_value_4 rfl rfl ?_
  refine v_bT (v_callV hB hK hR.rm [.int p1] [] (oC_56 g) lb_X6_lacks lv_X10_107 (c_X6_lacks g hK.A X.1.2.1 p1 h) dX10_value_5 rfl rfl (Nat.le_of_ble_eq_true rfl) (by decide) (by decide)) ?_
  refine v_ifz_eq (r := f_X6_lacks p1 h) (tgt := 17) hB dX10_value_8 rfl ?_ ?_
  · refine v_iload_n hB 2 dX10_value_17 rfl rfl ?_
    refine v_if_lt (tgt := 30) hB dX10_value_18 rfl ?_ ?_
    · exact V.sub [0] rfl (hn30 h)
    · refine v_iload_n hB 3 dX10_value_21 rfl rfl ?_
      refine v_if_lt (tgt := 30) hB dX10_value_22 rfl ?_ ?_
      · exact V.sub [0] rfl (hn30 h)
      · refine v_iload hB 4 dX10_value_25 rfl ?_
        refine v_if_ge (tgt := 37) hB dX10_value_27 rfl ?_ ?_
        · refine v_iload_n hB 2 dX10_value_37 rfl rfl ?_
          refine v_bipush hB 12 dX10_value_38 (by decide) ?_
          refine v_icmp_gt (tgt := 56) hB dX10_value_40 rfl ?_ ?_
          · exact V.sub [0] rfl (hn56 h)
          · refine v_iload_n hB 3 dX10_value_43 rfl rfl ?_
            refine v_bipush hB 12 dX10_value_44 (by decide) ?_
            refine v_icmp_gt (tgt := 56) hB dX10_value_46 rfl ?_ ?_
            · exact V.sub [0] rfl (hn56 h)
            · refine v_iload hB 4 dX10_value_49 rfl ?_
              refine v_bipush hB 12 dX10_value_51 (by decide) ?_
              refine v_icmp_le (tgt := 63) hB dX10_value_53 rfl ?_ ?_
              · refine v_aload_n hB 0 dX10_value_63 rfl rfl ?_
                refine v_iload_n hB 1 dX10_value_64 rfl rfl ?_
                refine v_bipush hB 7 dX10_value_65 (by decide) ?_
                refine v_bVr (fun h67 e67 => v_callV hB hK hR.rm [.int p1, .int 7] [] (oC_55 g) lb_X10_workOn lv_X10_156 (c_X10_workOn g hK.A X.1.2.1 p1 7 h e67) dX10_value_67 rfl rfl (Nat.le_of_ble_eq_true rfl) (by decide) (by decide)) (fun h67 => ?_)
                refine v_iload_n hB 2 dX10_value_70 rfl rfl ?_
                refine v_iload_n hB 3 dX10_value_71 rfl rfl ?_
                refine v_iload hB 4 dX10_value_72 rfl ?_
                refine v_bRj (fun r74 e74 => v_callV hB hK hR.rm [.int p2, .int p3, .int p4] [] (oC_59 g) lb_X9_worth lv_X10_160 (c_X9_worth g hK.A X.1.2.1 p2 p3 p4 h67 e74) dX10_value_74 rfl rfl (Nat.le_of_ble_eq_true rfl) (by decide) (by decide)) (fun r74 => ?_)
                exact v_retWj (x := r74) hB hK hR dX10_value_77
              · exact V.sub [0] rfl (hn56 h)
        · exact V.sub [0] rfl (hn30 h)
  · refine v_aload_n hB 0 dX10_value_11 rfl rfl ?_
    refine v_iconst hB (-1) dX10_value_12 (by decide) ?_
    refine v_bWj (fun r13 h13 e13 => v_callV hB hK hR.rm [.int (-1)] [] (oC_55 g) lb_X10_refuseFar lv_X10_152 (c_X10_refuseFar g hK.A X.1.2.1 (-1) h e13) dX10_value_13 rfl rfl (Nat.le_of_ble_eq_true rfl) (by decide) (by decide)) (fun r13 h13 => ?_)
    exact v_retWj (x := r13) hB hK hR dX10_value_16

def f_X10_isSide (p0 : Int32) : Bool :=
  if p0 < 1 then (false) else (if 7 < p0 then (false) else (true))
set_option maxRecDepth 100000 in
set_option maxHeartbeats 4000000 in
theorem c_X10_isSide (g : pq_g) {A : Nat → Prop} (hA : pq_A (SC g) A) (l : Launch) (p0 : Int32) (h : pq_H) : pq_M (SC g) A l yX10_isSide cX10_isSide 1 (some .boolean) 0 0 [.int p0] h (some (.int (b2i (f_X10_isSide p0)))) h := by
  refine pq_met hA l (own := RX10) 0 0 _ [(0, .int p0)] h _ h (by decide +kernel) rfl (Nat.le_of_ble_eq_true rfl) rfl (fun X hXl hXA hB hK hR => ?_)
  refine V.cast (F' := some (f_X10_isSide p0)) (res' := (f_X10_isSide p0)) (fun _ => rfl) ?_
  unfold f_X10_isSide
  refine v_iload_n hB 0 dX10_isSide_0 rfl rfl ?_
  refine v_iconst hB 1 dX10_isSide_1 (by decide) ?_
  refine v_icmp_ltT (tgt := 15) hB dX10_isSide_2 rfl ?_ ?_
  · refine v_iconst hB 0 dX10_isSide_15 (by decide) ?_
    exact v_retRz (x := false) hB hK hR dX10_isSide_16
  · refine v_iload_n hB 0 dX10_isSide_5 rfl rfl ?_
    refine v_bipush hB 7 dX10_isSide_6 (by decide) ?_
    refine v_icmp_gtT (tgt := 15) hB dX10_isSide_8 rfl ?_ ?_
    · refine v_iconst hB 0 dX10_isSide_15 (by decide) ?_
      exact v_retRz (x := false) hB hK hR dX10_isSide_16
    · refine v_iconst hB 1 dX10_isSide_11 (by decide) ?_
      refine v_goto (tgt := 16) hB dX10_isSide_12 rfl ?_
      exact v_retRz (x := true) hB hK hR dX10_isSide_16

def f_X10_lifted_j18 (h : pq_H) : Option (Int64 × pq_H) :=
  bd2 (f_X10_refuseFar (-1) h) fun r20 h20 => some (r20, h20)
def f_X10_lifted (p1 : Int32) (p2 : Int32) (p3 : Int32) (p4 : Int32) (h : pq_H) : Option (Int64 × pq_H) :=
  if (f_X6_lacks p1 h) = true then (f_X10_lifted_j18 h) else (if (f_X10_isSide p2) = true then (if 0 ≤ p3 then (if p3 ≤ 12 then (gd (inb p1 6) (if (f_X10_notBelow p4 (f_X10_placesOn p2 ((rI h p1.toNatClampNeg 3) + p3))) = true then (bd2 (f_X10_refuseFar (-1) h) fun r76 h76 => some (r76, h76)) else ((f_X10_workOn p1 p2 h).bind fun h83 => (f_X9_raise p2 p3 h83).bind fun h92 => (f_X9_among p2 p4 h92).bind fun r100 => some (r100, h92)))) else (bd2 (f_X10_refuseFar (-6) h) fun r44 h44 => some (r44, h44))) else (bd2 (f_X10_refuseFar (-4) h) fun r31 h31 => some (r31, h31))) else (f_X10_lifted_j18 h))
set_option maxRecDepth 100000 in
set_option maxHeartbeats 4000000 in
theorem c_X10_lifted (g : pq_g) {A : Nat → Prop} (hA : pq_A (SC g) A) (l : Launch) (p1 : Int32) (p2 : Int32) (p3 : Int32) (p4 : Int32) (h : pq_H) {rr : Int64} {hh : pq_H} (e : f_X10_lifted p1 p2 p3 p4 h = some (rr, hh)) : pq_M (SC g) A l yX10_lifted cX10_lifted 6 (some .long) 4 92 [.ref ((SC g).1.2.1 55), .int p1, .int p2, .int p3, .int p4] h (some (.long rr)) hh := by
  refine pq_met hA l (own := RX10) 4 92 _ [(0, .ref ((SC g).1.2.1 55)), (1, .int p1), (2, .int p2), (3, .int p3), (4, .int p4)] h _ hh (by decide +kernel) rfl (Nat.le_of_ble_eq_true rfl) rfl (fun X hXl hXA hB hK hR => ?_)
  refine V.cast (F' := f_X10_lifted p1 p2 p3 p4 h) (res' := (rr, hh)) (fun _ => e) ?_
  have hn18 : ∀ (h : pq_H), V X (SC g) (rr, hh) 6 18 [(0, .ref ((SC g).1.2.1 55))] [] h (f_X10_lifted_j18 h) := by
    intro h
    unfold f_X10_lifted_j18
    refine v_aload_n hB 0 dX10_lifted_18 rfl rfl ?_
    refine v_iconst hB (-1) dX10_lifted_19 (by decide) ?_
    refine v_bWj (fun r20 h20 e20 => v_callV hB hK hR.rm [.int (-1)] [] (oC_55 g) lb_X10_refuseFar lv_X10_152 (c_X10_refuseFar g hK.A X.1.2.1 (-1) h e20) dX10_lifted_20 rfl rfl (Nat.le_of_ble_eq_true rfl) (by decide) (by decide)) (fun r20 h20 => ?_)
    exact v_retWj (x := r20) hB hK hR dX10_lifted_23
  unfold f_X10_lifted
  refine v_aload_n hB 0 dX10_lifted_0 rfl rfl ?_
  refine v_getA hB hK (fl_X10_10 g) (cCA_55_0 g) dX10_lifted_1 ?_
  refine v_iload_n hB 1 dX10_lifted_4 rfl rfl ?_
  refine v_bT (v_callV hB hK hR.rm [.int p1] [] (oC_56 g) lb_X6_lacks lv_X10_107 (c_X6_lacks g hK.A X.1.2.1 p1 h) dX10_lifted_5 rfl rfl (Nat.le_of_ble_eq_true rfl) (by decide) (by decide)) ?_
  refine v_ifz_ne (r := f_X6_lacks p1 h) (tgt := 18) hB dX10_lifted_8 rfl ?_ ?_
  · exact V.sub [0] rfl (hn18 h)
  · refine v_iload_n hB 2 dX10_lifted_11 rfl rfl ?_
    refine v_bT (v_callS hB hK hR.rm [.int p2] [] lb_X10_isSide lv_X10_166 (c_X10_isSide g hK.A X.1.2.1 p2 h) dX10_lifted_12 rfl rfl (Nat.le_of_ble_eq_true rfl) (by decide) (by decide)) ?_
    refine v_ifz_ne (r := f_X10_isSide p2) (tgt := 24) hB dX10_lifted_15 rfl ?_ ?_
    · refine v_iload_n hB 3 dX10_lifted_24 rfl rfl ?_
      refine v_if_ge (tgt := 35) hB dX10_lifted_25 rfl ?_ ?_
      · refine v_iload_n hB 3 dX10_lifted_35 rfl rfl ?_
        refine v_bipush hB 12 dX10_lifted_36 (by decide) ?_
        refine v_icmp_le (tgt := 48) hB dX10_lifted_38 rfl ?_ ?_
        · refine v_iload hB 4 dX10_lifted_48 rfl ?_
          refine v_iload_n hB 2 dX10_lifted_50 rfl rfl ?_
          refine v_aload_n hB 0 dX10_lifted_51 rfl rfl ?_
          refine v_getA hB hK (fl_X10_10 g) (cCA_55_0 g) dX10_lifted_52 ?_
          refine v_getA hB hK (fl_X10_85 g) (cCA_56_0 g) dX10_lifted_55 ?_
          refine v_iload_n hB 1 dX10_lifted_58 rfl rfl ?_
          refine v_aa57 hB hK dX10_lifted_59 (fun q59 => ?_)
          refine v_getI hB hK (fl_X10_137 g) (cI_Form_3 g p1.toNatClampNeg (lt6_12 q59)) dX10_lifted_60 ?_
          refine v_iload_n hB 3 dX10_lifted_63 rfl rfl ?_
          refine v_iadd hB dX10_lifted_64 ?_
          refine v_bT (v_callS hB hK hR.rm [.int p2, .int ((rI h p1.toNatClampNeg 3) + p3)] [.int p4] lb_X10_placesOn lv_X10_169 (c_X10_placesOn g hK.A X.1.2.1 p2 ((rI h p1.toNatClampNeg 3) + p3) h) dX10_lifted_65 rfl rfl (Nat.le_of_ble_eq_true rfl) (by decide) (by decide)) ?_
          refine v_bT (v_callS hB hK hR.rm [.int p4, .int (f_X10_placesOn p2 ((rI h p1.toNatClampNeg 3) + p3))] [] lb_X10_notBelow lv_X10_128 (c_X10_notBelow g hK.A X.1.2.1 p4 (f_X10_placesOn p2 ((rI h p1.toNatClampNeg 3) + p3)) h) dX10_lifted_68 rfl rfl (Nat.le_of_ble_eq_true rfl) (by decide) (by decide)) ?_
          refine v_ifz_eq (r := f_X10_notBelow p4 (f_X10_placesOn p2 ((rI h p1.toNatClampNeg 3) + p3))) (tgt := 80) hB dX10_lifted_71 rfl ?_ ?_
          · refine v_aload_n hB 0 dX10_lifted_80 rfl rfl ?_
            refine v_iload_n hB 1 dX10_lifted_81 rfl rfl ?_
            refine v_iload_n hB 2 dX10_lifted_82 rfl rfl ?_
            refine v_bVr (fun h83 e83 => v_callV hB hK hR.rm [.int p1, .int p2] [] (oC_55 g) lb_X10_workOn lv_X10_156 (c_X10_workOn g hK.A X.1.2.1 p1 p2 h e83) dX10_lifted_83 rfl rfl (Nat.le_of_ble_eq_true rfl) (by decide) (by decide)) (fun h83 => ?_)
            refine v_astore hB [(0, .ref ((SC g).1.2.1 55)), (1, .int p1), (2, .int p2), (3, .int p3), (4, .int p4), (5, .ref ((SC g).1.2.1 59))] [1, 2, 3, 4, 5, 0] dX10_lifted_86 (by decide) rfl ?_
            refine v_aload hB 5 dX10_lifted_88 rfl ?_
            refine v_iload_n hB 2 dX10_lifted_90 rfl rfl ?_
            refine v_iload_n hB 3 dX10_lifted_91 rfl rfl ?_
            refine v_bV (fun h92 e92 => v_callV hB hK hR.rm [.int p2, .int p3] [] (oC_59 g) lb_X9_raise lv_X10_173 (c_X9_raise g hK.A X.1.2.1 p2 p3 h83 e92) dX10_lifted_92 rfl rfl (Nat.le_of_ble_eq_true rfl) (by decide) (by decide)) (fun h92 => ?_)
            refine v_aload hB 5 dX10_lifted_95 rfl ?_
            refine v_iload_n hB 2 dX10_lifted_97 rfl rfl ?_
            refine v_iload hB 4 dX10_lifted_98 rfl ?_
            refine v_bRj (fun r100 e100 => v_callV hB hK hR.rm [.int p2, .int p4] [] (oC_59 g) lb_X9_among lv_X10_177 (c_X9_among g hK.A X.1.2.1 p2 p4 h92 e100) dX10_lifted_100 rfl rfl (Nat.le_of_ble_eq_true rfl) (by decide) (by decide)) (fun r100 => ?_)
            exact v_retWj (x := r100) hB hK hR dX10_lifted_103
          · refine v_aload_n hB 0 dX10_lifted_74 rfl rfl ?_
            refine v_iconst hB (-1) dX10_lifted_75 (by decide) ?_
            refine v_bWj (fun r76 h76 e76 => v_callV hB hK hR.rm [.int (-1)] [] (oC_55 g) lb_X10_refuseFar lv_X10_152 (c_X10_refuseFar g hK.A X.1.2.1 (-1) h e76) dX10_lifted_76 rfl rfl (Nat.le_of_ble_eq_true rfl) (by decide) (by decide)) (fun r76 h76 => ?_)
            exact v_retWj (x := r76) hB hK hR dX10_lifted_79
        · refine v_aload_n hB 0 dX10_lifted_41 rfl rfl ?_
          refine v_bipush hB (-6) dX10_lifted_42 (by decide) ?_
          refine v_bWj (fun r44 h44 e44 => v_callV hB hK hR.rm [.int (-6)] [] (oC_55 g) lb_X10_refuseFar lv_X10_152 (c_X10_refuseFar g hK.A X.1.2.1 (-6) h e44) dX10_lifted_44 rfl rfl (Nat.le_of_ble_eq_true rfl) (by decide) (by decide)) (fun r44 h44 => ?_)
          exact v_retWj (x := r44) hB hK hR dX10_lifted_47
      · refine v_aload_n hB 0 dX10_lifted_28 rfl rfl ?_
        refine v_bipush hB (-4) dX10_lifted_29 (by decide) ?_
        refine v_bWj (fun r31 h31 e31 => v_callV hB hK hR.rm [.int (-4)] [] (oC_55 g) lb_X10_refuseFar lv_X10_152 (c_X10_refuseFar g hK.A X.1.2.1 (-4) h e31) dX10_lifted_31 rfl rfl (Nat.le_of_ble_eq_true rfl) (by decide) (by decide)) (fun r31 h31 => ?_)
        exact v_retWj (x := r31) hB hK hR dX10_lifted_34
    · exact V.sub [0] rfl (hn18 h)

def f_X10_fault_j18 (h : pq_H) : Option (Int32 × pq_H) :=
  bd2 (f_X10_refuse (-1) h) fun r20 h20 => some (r20, h20)
def f_X10_fault (p1 : Int32) (p2 : Int32) (p3 : Int32) (p4 : Int32) (h : pq_H) : Option (Int32 × pq_H) :=
  if (f_X6_lacks p1 h) = true then (f_X10_fault_j18 h) else (if (f_X10_isSide p2) = true then (if (f_X10_notBelow p4 2) = true then (bd2 (f_X10_refuse (-2) h) fun r36 h36 => some (r36, h36)) else (if 0 ≤ p3 then (if p3 ≤ 12 then ((f_X10_workOn p1 p2 h).bind fun h67 => (f_X9_raise p2 p3 h67).bind fun h76 => (f_X9_firstFault p2 p4 h76).bind fun r84 => some (r84, h76)) else (bd2 (f_X10_refuse (-6) h) fun r60 h60 => some (r60, h60))) else (bd2 (f_X10_refuse (-4) h) fun r47 h47 => some (r47, h47)))) else (f_X10_fault_j18 h))
set_option maxRecDepth 100000 in
set_option maxHeartbeats 4000000 in
theorem c_X10_fault (g : pq_g) {A : Nat → Prop} (hA : pq_A (SC g) A) (l : Launch) (p1 : Int32) (p2 : Int32) (p3 : Int32) (p4 : Int32) (h : pq_H) {rr : Int32} {hh : pq_H} (e : f_X10_fault p1 p2 p3 p4 h = some (rr, hh)) : pq_M (SC g) A l yX10_fault cX10_fault 6 (some .int) 4 92 [.ref ((SC g).1.2.1 55), .int p1, .int p2, .int p3, .int p4] h (some (.int rr)) hh := by
  refine pq_met hA l (own := RX10) 4 92 _ [(0, .ref ((SC g).1.2.1 55)), (1, .int p1), (2, .int p2), (3, .int p3), (4, .int p4)] h _ hh (by decide +kernel) rfl (Nat.le_of_ble_eq_true rfl) rfl (fun X hXl hXA hB hK hR => ?_)
  refine V.cast (F' := f_X10_fault p1 p2 p3 p4 h) (res' := (rr, hh)) (fun _ => e) ?_
  have hn18 : ∀ (h : pq_H), V X (SC g) (rr, hh) 6 18 [(0, .ref ((SC g).1.2.1 55))] [] h (f_X10_fault_j18 h) := by
    intro h
    unfold f_X10_fault_j18
    refine v_aload_n hB 0 dX10_fault_18 rfl rfl ?_
    refine v_iconst hB (-1) dX10_fault_19 (by decide) ?_
    refine v_bWi (fun r20 h20 e20 => v_callV hB hK hR.rm [.int (-1)] [] (oC_55 g) lb_X10_refuse lv_X10_69 (c_X10_refuse g hK.A X.1.2.1 (-1) h e20) dX10_fault_20 rfl rfl (Nat.le_of_ble_eq_true rfl) (by decide) (by decide)) (fun r20 h20 => ?_)
    exact v_retWi (x := r20) hB hK hR dX10_fault_23
  unfold f_X10_fault
  refine v_aload_n hB 0 dX10_fault_0 rfl rfl ?_
  refine v_getA hB hK (fl_X10_10 g) (cCA_55_0 g) dX10_fault_1 ?_
  refine v_iload_n hB 1 dX10_fault_4 rfl rfl ?_
  refine v_bT (v_callV hB hK hR.rm [.int p1] [] (oC_56 g) lb_X6_lacks lv_X10_107 (c_X6_lacks g hK.A X.1.2.1 p1 h) dX10_fault_5 rfl rfl (Nat.le_of_ble_eq_true rfl) (by decide) (by decide)) ?_
  refine v_ifz_ne (r := f_X6_lacks p1 h) (tgt := 18) hB dX10_fault_8 rfl ?_ ?_
  · exact V.sub [0] rfl (hn18 h)
  · refine v_iload_n hB 2 dX10_fault_11 rfl rfl ?_
    refine v_bT (v_callS hB hK hR.rm [.int p2] [] lb_X10_isSide lv_X10_166 (c_X10_isSide g hK.A X.1.2.1 p2 h) dX10_fault_12 rfl rfl (Nat.le_of_ble_eq_true rfl) (by decide) (by decide)) ?_
    refine v_ifz_ne (r := f_X10_isSide p2) (tgt := 24) hB dX10_fault_15 rfl ?_ ?_
    · refine v_iload hB 4 dX10_fault_24 rfl ?_
      refine v_iconst hB 2 dX10_fault_26 (by decide) ?_
      refine v_bT (v_callS hB hK hR.rm [.int p4, .int 2] [] lb_X10_notBelow lv_X10_128 (c_X10_notBelow g hK.A X.1.2.1 p4 2 h) dX10_fault_27 rfl rfl (Nat.le_of_ble_eq_true rfl) (by decide) (by decide)) ?_
      refine v_ifz_eq (r := f_X10_notBelow p4 2) (tgt := 40) hB dX10_fault_30 rfl ?_ ?_
      · refine v_iload_n hB 3 dX10_fault_40 rfl rfl ?_
        refine v_if_ge (tgt := 51) hB dX10_fault_41 rfl ?_ ?_
        · refine v_iload_n hB 3 dX10_fault_51 rfl rfl ?_
          refine v_bipush hB 12 dX10_fault_52 (by decide) ?_
          refine v_icmp_le (tgt := 64) hB dX10_fault_54 rfl ?_ ?_
          · refine v_aload_n hB 0 dX10_fault_64 rfl rfl ?_
            refine v_iload_n hB 1 dX10_fault_65 rfl rfl ?_
            refine v_iload_n hB 2 dX10_fault_66 rfl rfl ?_
            refine v_bVr (fun h67 e67 => v_callV hB hK hR.rm [.int p1, .int p2] [] (oC_55 g) lb_X10_workOn lv_X10_156 (c_X10_workOn g hK.A X.1.2.1 p1 p2 h e67) dX10_fault_67 rfl rfl (Nat.le_of_ble_eq_true rfl) (by decide) (by decide)) (fun h67 => ?_)
            refine v_astore hB [(0, .ref ((SC g).1.2.1 55)), (1, .int p1), (2, .int p2), (3, .int p3), (4, .int p4), (5, .ref ((SC g).1.2.1 59))] [1, 2, 3, 4, 5, 0] dX10_fault_70 (by decide) rfl ?_
            refine v_aload hB 5 dX10_fault_72 rfl ?_
            refine v_iload_n hB 2 dX10_fault_74 rfl rfl ?_
            refine v_iload_n hB 3 dX10_fault_75 rfl rfl ?_
            refine v_bV (fun h76 e76 => v_callV hB hK hR.rm [.int p2, .int p3] [] (oC_59 g) lb_X9_raise lv_X10_173 (c_X9_raise g hK.A X.1.2.1 p2 p3 h67 e76) dX10_fault_76 rfl rfl (Nat.le_of_ble_eq_true rfl) (by decide) (by decide)) (fun h76 => ?_)
            refine v_aload hB 5 dX10_fault_79 rfl ?_
            refine v_iload_n hB 2 dX10_fault_81 rfl rfl ?_
            refine v_iload hB 4 dX10_fault_82 rfl ?_
            refine v_bRi (fun r84 e84 => v_callV hB hK hR.rm [.int p2, .int p4] [] (oC_59 g) lb_X9_firstFault lv_X10_181 (c_X9_firstFault g hK.A X.1.2.1 p2 p4 h76 e84) dX10_fault_84 rfl rfl (Nat.le_of_ble_eq_true rfl) (by decide) (by decide)) (fun r84 => ?_)
            exact v_retWi (x := r84) hB hK hR dX10_fault_87
          · refine v_aload_n hB 0 dX10_fault_57 rfl rfl ?_
            refine v_bipush hB (-6) dX10_fault_58 (by decide) ?_
            refine v_bWi (fun r60 h60 e60 => v_callV hB hK hR.rm [.int (-6)] [] (oC_55 g) lb_X10_refuse lv_X10_69 (c_X10_refuse g hK.A X.1.2.1 (-6) h e60) dX10_fault_60 rfl rfl (Nat.le_of_ble_eq_true rfl) (by decide) (by decide)) (fun r60 h60 => ?_)
            exact v_retWi (x := r60) hB hK hR dX10_fault_63
        · refine v_aload_n hB 0 dX10_fault_44 rfl rfl ?_
          refine v_bipush hB (-4) dX10_fault_45 (by decide) ?_
          refine v_bWi (fun r47 h47 e47 => v_callV hB hK hR.rm [.int (-4)] [] (oC_55 g) lb_X10_refuse lv_X10_69 (c_X10_refuse g hK.A X.1.2.1 (-4) h e47) dX10_fault_47 rfl rfl (Nat.le_of_ble_eq_true rfl) (by decide) (by decide)) (fun r47 h47 => ?_)
          exact v_retWi (x := r47) hB hK hR dX10_fault_50
      · refine v_aload_n hB 0 dX10_fault_33 rfl rfl ?_
        refine v_bipush hB (-2) dX10_fault_34 (by decide) ?_
        refine v_bWi (fun r36 h36 e36 => v_callV hB hK hR.rm [.int (-2)] [] (oC_55 g) lb_X10_refuse lv_X10_69 (c_X10_refuse g hK.A X.1.2.1 (-2) h e36) dX10_fault_36 rfl rfl (Nat.le_of_ble_eq_true rfl) (by decide) (by decide)) (fun r36 h36 => ?_)
        exact v_retWi (x := r36) hB hK hR dX10_fault_39
    · exact V.sub [0] rfl (hn18 h)

def f_X10_least_j18 (h : pq_H) : Option (Int32 × pq_H) :=
  bd2 (f_X10_refuse (-1) h) fun r20 h20 => some (r20, h20)
def f_X10_least (p1 : Int32) (p2 : Int32) (p3 : Int32) (h : pq_H) : Option (Int32 × pq_H) :=
  if (f_X6_lacks p1 h) = true then (f_X10_least_j18 h) else (if (f_X10_isSide p2) = true then (if (f_X10_notBelow p3 2) = true then (bd2 (f_X10_refuse (-2) h) fun r35 h35 => some (r35, h35)) else ((f_X10_workOn p1 p2 h).bind fun h42 => bd2 (f_X9_leastLift p2 p3 h42) fun r47 h47 => some (r47, h47))) else (f_X10_least_j18 h))
set_option maxRecDepth 100000 in
set_option maxHeartbeats 4000000 in
theorem c_X10_least (g : pq_g) {A : Nat → Prop} (hA : pq_A (SC g) A) (l : Launch) (p1 : Int32) (p2 : Int32) (p3 : Int32) (h : pq_H) {rr : Int32} {hh : pq_H} (e : f_X10_least p1 p2 p3 h = some (rr, hh)) : pq_M (SC g) A l yX10_least cX10_least 4 (some .int) 5 111 [.ref ((SC g).1.2.1 55), .int p1, .int p2, .int p3] h (some (.int rr)) hh := by
  refine pq_met hA l (own := RX10) 5 111 _ [(0, .ref ((SC g).1.2.1 55)), (1, .int p1), (2, .int p2), (3, .int p3)] h _ hh (by decide +kernel) rfl (Nat.le_of_ble_eq_true rfl) rfl (fun X hXl hXA hB hK hR => ?_)
  refine V.cast (F' := f_X10_least p1 p2 p3 h) (res' := (rr, hh)) (fun _ => e) ?_
  have hn18 : ∀ (h : pq_H), V X (SC g) (rr, hh) 4 18 [(0, .ref ((SC g).1.2.1 55))] [] h (f_X10_least_j18 h) := by
    intro h
    unfold f_X10_least_j18
    refine v_aload_n hB 0 dX10_least_18 rfl rfl ?_
    refine v_iconst hB (-1) dX10_least_19 (by decide) ?_
    refine v_bWi (fun r20 h20 e20 => v_callV hB hK hR.rm [.int (-1)] [] (oC_55 g) lb_X10_refuse lv_X10_69 (c_X10_refuse g hK.A X.1.2.1 (-1) h e20) dX10_least_20 rfl rfl (Nat.le_of_ble_eq_true rfl) (by decide) (by decide)) (fun r20 h20 => ?_)
    exact v_retWi (x := r20) hB hK hR dX10_least_23
  unfold f_X10_least
  refine v_aload_n hB 0 dX10_least_0 rfl rfl ?_
  refine v_getA hB hK (fl_X10_10 g) (cCA_55_0 g) dX10_least_1 ?_
  refine v_iload_n hB 1 dX10_least_4 rfl rfl ?_
  refine v_bT (v_callV hB hK hR.rm [.int p1] [] (oC_56 g) lb_X6_lacks lv_X10_107 (c_X6_lacks g hK.A X.1.2.1 p1 h) dX10_least_5 rfl rfl (Nat.le_of_ble_eq_true rfl) (by decide) (by decide)) ?_
  refine v_ifz_ne (r := f_X6_lacks p1 h) (tgt := 18) hB dX10_least_8 rfl ?_ ?_
  · exact V.sub [0] rfl (hn18 h)
  · refine v_iload_n hB 2 dX10_least_11 rfl rfl ?_
    refine v_bT (v_callS hB hK hR.rm [.int p2] [] lb_X10_isSide lv_X10_166 (c_X10_isSide g hK.A X.1.2.1 p2 h) dX10_least_12 rfl rfl (Nat.le_of_ble_eq_true rfl) (by decide) (by decide)) ?_
    refine v_ifz_ne (r := f_X10_isSide p2) (tgt := 24) hB dX10_least_15 rfl ?_ ?_
    · refine v_iload_n hB 3 dX10_least_24 rfl rfl ?_
      refine v_iconst hB 2 dX10_least_25 (by decide) ?_
      refine v_bT (v_callS hB hK hR.rm [.int p3, .int 2] [] lb_X10_notBelow lv_X10_128 (c_X10_notBelow g hK.A X.1.2.1 p3 2 h) dX10_least_26 rfl rfl (Nat.le_of_ble_eq_true rfl) (by decide) (by decide)) ?_
      refine v_ifz_eq (r := f_X10_notBelow p3 2) (tgt := 39) hB dX10_least_29 rfl ?_ ?_
      · refine v_aload_n hB 0 dX10_least_39 rfl rfl ?_
        refine v_iload_n hB 1 dX10_least_40 rfl rfl ?_
        refine v_iload_n hB 2 dX10_least_41 rfl rfl ?_
        refine v_bVr (fun h42 e42 => v_callV hB hK hR.rm [.int p1, .int p2] [] (oC_55 g) lb_X10_workOn lv_X10_156 (c_X10_workOn g hK.A X.1.2.1 p1 p2 h e42) dX10_least_42 rfl rfl (Nat.le_of_ble_eq_true rfl) (by decide) (by decide)) (fun h42 => ?_)
        refine v_iload_n hB 2 dX10_least_45 rfl rfl ?_
        refine v_iload_n hB 3 dX10_least_46 rfl rfl ?_
        refine v_bWi (fun r47 h47 e47 => v_callV hB hK hR.rm [.int p2, .int p3] [] (oC_59 g) lb_X9_leastLift lv_X10_184 (c_X9_leastLift g hK.A X.1.2.1 p2 p3 h42 e47) dX10_least_47 rfl rfl (Nat.le_of_ble_eq_true rfl) (by decide) (by decide)) (fun r47 h47 => ?_)
        exact v_retWi (x := r47) hB hK hR dX10_least_50
      · refine v_aload_n hB 0 dX10_least_32 rfl rfl ?_
        refine v_bipush hB (-2) dX10_least_33 (by decide) ?_
        refine v_bWi (fun r35 h35 e35 => v_callV hB hK hR.rm [.int (-2)] [] (oC_55 g) lb_X10_refuse lv_X10_69 (c_X10_refuse g hK.A X.1.2.1 (-2) h e35) dX10_least_35 rfl rfl (Nat.le_of_ble_eq_true rfl) (by decide) (by decide)) (fun r35 h35 => ?_)
        exact v_retWi (x := r35) hB hK hR dX10_least_38
    · exact V.sub [0] rfl (hn18 h)

def f_X10_failing_j18 (h : pq_H) : Option (Int32 × pq_H) :=
  bd2 (f_X10_refuse (-1) h) fun r20 h20 => some (r20, h20)
def f_X10_failing_j41 (h : pq_H) : Option (Int32 × pq_H) :=
  bd2 (f_X10_refuse (-2) h) fun r44 h44 => some (r44, h44)
def f_X10_failing (p1 : Int32) (p2 : Int32) (p3 : Int32) (p4 : Int32) (h : pq_H) : Option (Int32 × pq_H) :=
  if (f_X6_lacks p1 h) = true then (f_X10_failing_j18 h) else (if (f_X10_isSide p2) = true then (if (f_X10_notBelow p3 2) = true then (f_X10_failing_j41 h) else (if (f_X10_notBelow p4 2) = true then (f_X10_failing_j41 h) else ((f_X10_workOn p1 p2 h).bind fun h51 => (f_X9_failingSize p2 p3 h51).bind fun r60 => if r60 = (-9) then (some (r60, h51)) else (if p4 = 0 then (some (r60, h51)) else ((f_X9_failingPoint p2 p3 r60 h51).bind fun r88 => some (r88, h51)))))) else (f_X10_failing_j18 h))
set_option maxRecDepth 100000 in
set_option maxHeartbeats 4000000 in
theorem c_X10_failing (g : pq_g) {A : Nat → Prop} (hA : pq_A (SC g) A) (l : Launch) (p1 : Int32) (p2 : Int32) (p3 : Int32) (p4 : Int32) (h : pq_H) {rr : Int32} {hh : pq_H} (e : f_X10_failing p1 p2 p3 p4 h = some (rr, hh)) : pq_M (SC g) A l yX10_failing cX10_failing 7 (some .int) 5 116 [.ref ((SC g).1.2.1 55), .int p1, .int p2, .int p3, .int p4] h (some (.int rr)) hh := by
  refine pq_met hA l (own := RX10) 5 116 _ [(0, .ref ((SC g).1.2.1 55)), (1, .int p1), (2, .int p2), (3, .int p3), (4, .int p4)] h _ hh (by decide +kernel) rfl (Nat.le_of_ble_eq_true rfl) rfl (fun X hXl hXA hB hK hR => ?_)
  refine V.cast (F' := f_X10_failing p1 p2 p3 p4 h) (res' := (rr, hh)) (fun _ => e) ?_
  have hn18 : ∀ (h : pq_H), V X (SC g) (rr, hh) 7 18 [(0, .ref ((SC g).1.2.1 55))] [] h (f_X10_failing_j18 h) := by
    intro h
    unfold f_X10_failing_j18
    refine v_aload_n hB 0 dX10_failing_18 rfl rfl ?_
    refine v_iconst hB (-1) dX10_failing_19 (by decide) ?_
    refine v_bWi (fun r20 h20 e20 => v_callV hB hK hR.rm [.int (-1)] [] (oC_55 g) lb_X10_refuse lv_X10_69 (c_X10_refuse g hK.A X.1.2.1 (-1) h e20) dX10_failing_20 rfl rfl (Nat.le_of_ble_eq_true rfl) (by decide) (by decide)) (fun r20 h20 => ?_)
    exact v_retWi (x := r20) hB hK hR dX10_failing_23
  have hn41 : ∀ (h : pq_H), V X (SC g) (rr, hh) 7 41 [(0, .ref ((SC g).1.2.1 55))] [] h (f_X10_failing_j41 h) := by
    intro h
    unfold f_X10_failing_j41
    refine v_aload_n hB 0 dX10_failing_41 rfl rfl ?_
    refine v_bipush hB (-2) dX10_failing_42 (by decide) ?_
    refine v_bWi (fun r44 h44 e44 => v_callV hB hK hR.rm [.int (-2)] [] (oC_55 g) lb_X10_refuse lv_X10_69 (c_X10_refuse g hK.A X.1.2.1 (-2) h e44) dX10_failing_44 rfl rfl (Nat.le_of_ble_eq_true rfl) (by decide) (by decide)) (fun r44 h44 => ?_)
    exact v_retWi (x := r44) hB hK hR dX10_failing_47
  unfold f_X10_failing
  refine v_aload_n hB 0 dX10_failing_0 rfl rfl ?_
  refine v_getA hB hK (fl_X10_10 g) (cCA_55_0 g) dX10_failing_1 ?_
  refine v_iload_n hB 1 dX10_failing_4 rfl rfl ?_
  refine v_bT (v_callV hB hK hR.rm [.int p1] [] (oC_56 g) lb_X6_lacks lv_X10_107 (c_X6_lacks g hK.A X.1.2.1 p1 h) dX10_failing_5 rfl rfl (Nat.le_of_ble_eq_true rfl) (by decide) (by decide)) ?_
  refine v_ifz_ne (r := f_X6_lacks p1 h) (tgt := 18) hB dX10_failing_8 rfl ?_ ?_
  · exact V.sub [0] rfl (hn18 h)
  · refine v_iload_n hB 2 dX10_failing_11 rfl rfl ?_
    refine v_bT (v_callS hB hK hR.rm [.int p2] [] lb_X10_isSide lv_X10_166 (c_X10_isSide g hK.A X.1.2.1 p2 h) dX10_failing_12 rfl rfl (Nat.le_of_ble_eq_true rfl) (by decide) (by decide)) ?_
    refine v_ifz_ne (r := f_X10_isSide p2) (tgt := 24) hB dX10_failing_15 rfl ?_ ?_
    · refine v_iload_n hB 3 dX10_failing_24 rfl rfl ?_
      refine v_iconst hB 2 dX10_failing_25 (by decide) ?_
      refine v_bT (v_callS hB hK hR.rm [.int p3, .int 2] [] lb_X10_notBelow lv_X10_128 (c_X10_notBelow g hK.A X.1.2.1 p3 2 h) dX10_failing_26 rfl rfl (Nat.le_of_ble_eq_true rfl) (by decide) (by decide)) ?_
      refine v_ifz_ne (r := f_X10_notBelow p3 2) (tgt := 41) hB dX10_failing_29 rfl ?_ ?_
      · exact V.sub [0] rfl (hn41 h)
      · refine v_iload hB 4 dX10_failing_32 rfl ?_
        refine v_iconst hB 2 dX10_failing_34 (by decide) ?_
        refine v_bT (v_callS hB hK hR.rm [.int p4, .int 2] [] lb_X10_notBelow lv_X10_128 (c_X10_notBelow g hK.A X.1.2.1 p4 2 h) dX10_failing_35 rfl rfl (Nat.le_of_ble_eq_true rfl) (by decide) (by decide)) ?_
        refine v_ifz_eq (r := f_X10_notBelow p4 2) (tgt := 48) hB dX10_failing_38 rfl ?_ ?_
        · refine v_aload_n hB 0 dX10_failing_48 rfl rfl ?_
          refine v_iload_n hB 1 dX10_failing_49 rfl rfl ?_
          refine v_iload_n hB 2 dX10_failing_50 rfl rfl ?_
          refine v_bVr (fun h51 e51 => v_callV hB hK hR.rm [.int p1, .int p2] [] (oC_55 g) lb_X10_workOn lv_X10_156 (c_X10_workOn g hK.A X.1.2.1 p1 p2 h e51) dX10_failing_51 rfl rfl (Nat.le_of_ble_eq_true rfl) (by decide) (by decide)) (fun h51 => ?_)
          refine v_astore hB [(0, .ref ((SC g).1.2.1 55)), (1, .int p1), (2, .int p2), (3, .int p3), (4, .int p4), (5, .ref ((SC g).1.2.1 59))] [1, 2, 3, 4, 5, 0] dX10_failing_54 (by decide) rfl ?_
          refine v_aload hB 5 dX10_failing_56 rfl ?_
          refine v_iload_n hB 2 dX10_failing_58 rfl rfl ?_
          refine v_iload_n hB 3 dX10_failing_59 rfl rfl ?_
          refine v_bRi (fun r60 e60 => v_callV hB hK hR.rm [.int p2, .int p3] [] (oC_59 g) lb_X9_failingSize lv_X10_187 (c_X9_failingSize g hK.A X.1.2.1 p2 p3 h51 e60) dX10_failing_60 rfl rfl (Nat.le_of_ble_eq_true rfl) (by decide) (by decide)) (fun r60 => ?_)
          refine v_istore hB [(0, .ref ((SC g).1.2.1 55)), (1, .int p1), (2, .int p2), (3, .int p3), (4, .int p4), (5, .ref ((SC g).1.2.1 59)), (6, .int r60)] [1, 2, 3, 4, 5, 6, 0] dX10_failing_63 (by decide) rfl ?_
          refine v_iload hB 6 dX10_failing_65 rfl ?_
          refine v_bipush hB (-9) dX10_failing_67 (by decide) ?_
          refine v_icmp_eq (tgt := 77) hB dX10_failing_69 rfl ?_ ?_
          · refine v_iload hB 6 dX10_failing_77 rfl ?_
            refine v_goto (tgt := 91) hB dX10_failing_79 rfl ?_
            exact v_retWi (x := r60) hB hK hR dX10_failing_91
          · refine v_iload hB 4 dX10_failing_72 rfl ?_
            refine v_if_ne (tgt := 82) hB dX10_failing_74 rfl ?_ ?_
            · refine v_aload hB 5 dX10_failing_82 rfl ?_
              refine v_iload_n hB 2 dX10_failing_84 rfl rfl ?_
              refine v_iload_n hB 3 dX10_failing_85 rfl rfl ?_
              refine v_iload hB 6 dX10_failing_86 rfl ?_
              refine v_bRi (fun r88 e88 => v_callV hB hK hR.rm [.int p2, .int p3, .int r60] [] (oC_59 g) lb_X9_failingPoint lv_X10_190 (c_X9_failingPoint g hK.A X.1.2.1 p2 p3 r60 h51 e88) dX10_failing_88 rfl rfl (Nat.le_of_ble_eq_true rfl) (by decide) (by decide)) (fun r88 => ?_)
              exact v_retWi (x := r88) hB hK hR dX10_failing_91
            · refine v_iload hB 6 dX10_failing_77 rfl ?_
              refine v_goto (tgt := 91) hB dX10_failing_79 rfl ?_
              exact v_retWi (x := r60) hB hK hR dX10_failing_91
        · exact V.sub [0] rfl (hn41 h)
    · exact V.sub [0] rfl (hn18 h)

def f_X10_pointsRefused (p1 : Int32) (p2 : Int32) (p3 : Int32) (p4 : Int32) (h : pq_H) : Int32 :=
  if (f_X6_lacks p1 h) = true then ((-1)) else (if (f_X10_isSide p2) = true then (if 1 ≤ p3 then (if p3 ≤ 12 then (if (f_X10_notBelow p4 2) = true then ((-2)) else (0)) else ((-6))) else ((-4))) else ((-1)))
set_option maxRecDepth 100000 in
set_option maxHeartbeats 4000000 in
theorem c_X10_pointsRefused (g : pq_g) {A : Nat → Prop} (hA : pq_A (SC g) A) (l : Launch) (p1 : Int32) (p2 : Int32) (p3 : Int32) (p4 : Int32) (h : pq_H) : pq_M (SC g) A l yX10_pointsRefused cX10_pointsRefused 5 (some .int) 2 42 [.ref ((SC g).1.2.1 55), .int p1, .int p2, .int p3, .int p4] h (some (.int (f_X10_pointsRefused p1 p2 p3 p4 h))) h := by
  refine pq_met hA l (own := RX10) 2 42 _ [(0, .ref ((SC g).1.2.1 55)), (1, .int p1), (2, .int p2), (3, .int p3), (4, .int p4)] h _ h (by decide +kernel) rfl (Nat.le_of_ble_eq_true rfl) rfl (fun X hXl hXA hB hK hR => ?_)
  refine V.cast (F' := some (f_X10_pointsRefused p1 p2 p3 p4 h)) (res' := (f_X10_pointsRefused p1 p2 p3 p4 h)) (fun _ => rfl) ?_
  unfold f_X10_pointsRefused
  refine v_aload_n hB 0 dX10_pointsRefused_0 rfl rfl ?_
  refine v_getA hB hK (fl_X10_10 g) (cCA_55_0 g) dX10_pointsRefused_1 ?_
  refine v_iload_n hB 1 dX10_pointsRefused_4 rfl rfl ?_
  refine v_bT (v_callV hB hK hR.rm [.int p1] [] (oC_56 g) lb_X6_lacks lv_X10_107 (c_X6_lacks g hK.A X.1.2.1 p1 h) dX10_pointsRefused_5 rfl rfl (Nat.le_of_ble_eq_true rfl) (by decide) (by decide)) ?_
  refine v_ifz_neT (r := f_X6_lacks p1 h) (tgt := 18) hB dX10_pointsRefused_8 rfl ?_ ?_
  · refine v_iconst hB (-1) dX10_pointsRefused_18 (by decide) ?_
    exact v_retRi (x := (-1)) hB hK hR dX10_pointsRefused_19
  · refine v_iload_n hB 2 dX10_pointsRefused_11 rfl rfl ?_
    refine v_bT (v_callS hB hK hR.rm [.int p2] [] lb_X10_isSide lv_X10_166 (c_X10_isSide g hK.A X.1.2.1 p2 h) dX10_pointsRefused_12 rfl rfl (Nat.le_of_ble_eq_true rfl) (by decide) (by decide)) ?_
    refine v_ifz_neT (r := f_X10_isSide p2) (tgt := 20) hB dX10_pointsRefused_15 rfl ?_ ?_
    · refine v_iload_n hB 3 dX10_pointsRefused_20 rfl rfl ?_
      refine v_iconst hB 1 dX10_pointsRefused_21 (by decide) ?_
      refine v_icmp_geT (tgt := 28) hB dX10_pointsRefused_22 rfl ?_ ?_
      · refine v_iload_n hB 3 dX10_pointsRefused_28 rfl rfl ?_
        refine v_bipush hB 12 dX10_pointsRefused_29 (by decide) ?_
        refine v_icmp_leT (tgt := 37) hB dX10_pointsRefused_31 rfl ?_ ?_
        · refine v_iload hB 4 dX10_pointsRefused_37 rfl ?_
          refine v_iconst hB 2 dX10_pointsRefused_39 (by decide) ?_
          refine v_bT (v_callS hB hK hR.rm [.int p4, .int 2] [] lb_X10_notBelow lv_X10_128 (c_X10_notBelow g hK.A X.1.2.1 p4 2 h) dX10_pointsRefused_40 rfl rfl (Nat.le_of_ble_eq_true rfl) (by decide) (by decide)) ?_
          refine v_ifz_eqT (r := f_X10_notBelow p4 2) (tgt := 51) hB dX10_pointsRefused_43 rfl ?_ ?_
          · refine v_iconst hB 0 dX10_pointsRefused_51 (by decide) ?_
            exact v_retRi (x := 0) hB hK hR dX10_pointsRefused_52
          · refine v_bipush hB (-2) dX10_pointsRefused_46 (by decide) ?_
            refine v_goto (tgt := 52) hB dX10_pointsRefused_48 rfl ?_
            exact v_retRi (x := (-2)) hB hK hR dX10_pointsRefused_52
        · refine v_bipush hB (-6) dX10_pointsRefused_34 (by decide) ?_
          exact v_retRi (x := (-6)) hB hK hR dX10_pointsRefused_36
      · refine v_bipush hB (-4) dX10_pointsRefused_25 (by decide) ?_
        exact v_retRi (x := (-4)) hB hK hR dX10_pointsRefused_27
    · refine v_iconst hB (-1) dX10_pointsRefused_18 (by decide) ?_
      exact v_retRi (x := (-1)) hB hK hR dX10_pointsRefused_19

def f_X10_lowest (p1 : Int32) (p2 : Int32) (p3 : Int32) (p4 : Int32) (h : pq_H) : Option (Int64 × pq_H) :=
  if 0 ≤ (f_X10_pointsRefused p1 p2 p3 p4 h) then ((f_X10_workOn p1 p2 h).bind fun h26 => (f_X9_lowestPoint p2 p3 h26).bind fun r35 => if p4 = 0 then ((f_X9_worthAt p2 p3 r35 h26).bind fun r51 => some (r51, h26)) else (some (r35.toInt64, h26))) else (bd2 (f_X10_refuseFar (f_X10_pointsRefused p1 p2 p3 p4 h) h) fun r19 h19 => some (r19, h19))
set_option maxRecDepth 100000 in
set_option maxHeartbeats 4000000 in
theorem c_X10_lowest (g : pq_g) {A : Nat → Prop} (hA : pq_A (SC g) A) (l : Launch) (p1 : Int32) (p2 : Int32) (p3 : Int32) (p4 : Int32) (h : pq_H) {rr : Int64} {hh : pq_H} (e : f_X10_lowest p1 p2 p3 p4 h = some (rr, hh)) : pq_M (SC g) A l yX10_lowest cX10_lowest 8 (some .long) 4 97 [.ref ((SC g).1.2.1 55), .int p1, .int p2, .int p3, .int p4] h (some (.long rr)) hh := by
  refine pq_met hA l (own := RX10) 4 97 _ [(0, .ref ((SC g).1.2.1 55)), (1, .int p1), (2, .int p2), (3, .int p3), (4, .int p4)] h _ hh (by decide +kernel) rfl (Nat.le_of_ble_eq_true rfl) rfl (fun X hXl hXA hB hK hR => ?_)
  refine V.cast (F' := f_X10_lowest p1 p2 p3 p4 h) (res' := (rr, hh)) (fun _ => e) ?_
  unfold f_X10_lowest
  refine v_aload_n hB 0 dX10_lowest_0 rfl rfl ?_
  refine v_iload_n hB 1 dX10_lowest_1 rfl rfl ?_
  refine v_iload_n hB 2 dX10_lowest_2 rfl rfl ?_
  refine v_iload_n hB 3 dX10_lowest_3 rfl rfl ?_
  refine v_iload hB 4 dX10_lowest_4 rfl ?_
  refine v_bT (v_callV hB hK hR.rm [.int p1, .int p2, .int p3, .int p4] [] (oC_55 g) lb_X10_pointsRefused lv_X10_194 (c_X10_pointsRefused g hK.A X.1.2.1 p1 p2 p3 p4 h) dX10_lowest_6 rfl rfl (Nat.le_of_ble_eq_true rfl) (by decide) (by decide)) ?_
  refine v_istore hB [(0, .ref ((SC g).1.2.1 55)), (1, .int p1), (2, .int p2), (3, .int p3), (4, .int p4), (5, .int (f_X10_pointsRefused p1 p2 p3 p4 h))] [1, 2, 3, 4, 5, 0] dX10_lowest_9 (by decide) rfl ?_
  refine v_iload hB 5 dX10_lowest_11 rfl ?_
  refine v_if_ge (tgt := 23) hB dX10_lowest_13 rfl ?_ ?_
  · refine v_aload_n hB 0 dX10_lowest_23 rfl rfl ?_
    refine v_iload_n hB 1 dX10_lowest_24 rfl rfl ?_
    refine v_iload_n hB 2 dX10_lowest_25 rfl rfl ?_
    refine v_bVr (fun h26 e26 => v_callV hB hK hR.rm [.int p1, .int p2] [] (oC_55 g) lb_X10_workOn lv_X10_156 (c_X10_workOn g hK.A X.1.2.1 p1 p2 h e26) dX10_lowest_26 rfl rfl (Nat.le_of_ble_eq_true rfl) (by decide) (by decide)) (fun h26 => ?_)
    refine v_astore hB [(0, .ref ((SC g).1.2.1 55)), (1, .int p1), (2, .int p2), (3, .int p3), (4, .int p4), (5, .int (f_X10_pointsRefused p1 p2 p3 p4 h)), (6, .ref ((SC g).1.2.1 59))] [1, 2, 3, 4, 5, 6, 0] dX10_lowest_29 (by decide) rfl ?_
    refine v_aload hB 6 dX10_lowest_31 rfl ?_
    refine v_iload_n hB 2 dX10_lowest_33 rfl rfl ?_
    refine v_iload_n hB 3 dX10_lowest_34 rfl rfl ?_
    refine v_bRi (fun r35 e35 => v_callV hB hK hR.rm [.int p2, .int p3] [] (oC_59 g) lb_X9_lowestPoint lv_X10_198 (c_X9_lowestPoint g hK.A X.1.2.1 p2 p3 h26 e35) dX10_lowest_35 rfl rfl (Nat.le_of_ble_eq_true rfl) (by decide) (by decide)) (fun r35 => ?_)
    refine v_istore hB [(0, .ref ((SC g).1.2.1 55)), (1, .int p1), (2, .int p2), (3, .int p3), (4, .int p4), (5, .int (f_X10_pointsRefused p1 p2 p3 p4 h)), (6, .ref ((SC g).1.2.1 59)), (7, .int r35)] [1, 2, 3, 4, 5, 6, 7, 0] dX10_lowest_38 (by decide) rfl ?_
    refine v_iload hB 4 dX10_lowest_40 rfl ?_
    refine v_if_ne (tgt := 57) hB dX10_lowest_42 rfl ?_ ?_
    · refine v_iload hB 7 dX10_lowest_57 rfl ?_
      refine v_i2l hB dX10_lowest_59 ?_
      exact v_retWj (x := r35.toInt64) hB hK hR dX10_lowest_60
    · refine v_aload hB 6 dX10_lowest_45 rfl ?_
      refine v_iload_n hB 2 dX10_lowest_47 rfl rfl ?_
      refine v_iload_n hB 3 dX10_lowest_48 rfl rfl ?_
      refine v_iload hB 7 dX10_lowest_49 rfl ?_
      refine v_bRj (fun r51 e51 => v_callV hB hK hR.rm [.int p2, .int p3, .int r35] [] (oC_59 g) lb_X9_worthAt lv_X10_201 (c_X9_worthAt g hK.A X.1.2.1 p2 p3 r35 h26 e51) dX10_lowest_51 rfl rfl (Nat.le_of_ble_eq_true rfl) (by decide) (by decide)) (fun r51 => ?_)
      refine v_goto (tgt := 60) hB dX10_lowest_54 rfl ?_
      exact v_retWj (x := r51) hB hK hR dX10_lowest_60
  · refine v_aload_n hB 0 dX10_lowest_16 rfl rfl ?_
    refine v_iload hB 5 dX10_lowest_17 rfl ?_
    refine v_bWj (fun r19 h19 e19 => v_callV hB hK hR.rm [.int (f_X10_pointsRefused p1 p2 p3 p4 h)] [] (oC_55 g) lb_X10_refuseFar lv_X10_152 (c_X10_refuseFar g hK.A X.1.2.1 (f_X10_pointsRefused p1 p2 p3 p4 h) h e19) dX10_lowest_19 rfl rfl (Nat.le_of_ble_eq_true rfl) (by decide) (by decide)) (fun r19 h19 => ?_)
    exact v_retWj (x := r19) hB hK hR dX10_lowest_22

def f_X10_proof_j18 (h : pq_H) : Option (Int32 × pq_H) :=
  bd2 (f_X10_refuse (-1) h) fun r20 h20 => some (r20, h20)
def f_X10_proof (p1 : Int32) (p2 : Int32) (h : pq_H) : Option (Int32 × pq_H) :=
  if (f_X6_lacks p1 h) = true then (f_X10_proof_j18 h) else (if (f_X10_isSide p2) = true then ((f_X10_workOn p1 p2 h).bind fun h27 => bd2 (f_X9_leastLift p2 1 h27) fun r32 h32 => if r32 = (-9) then ((f_X10_workOn p1 p2 h32).bind fun h45 => bd2 (f_X9_leastLift p2 0 h45) fun r50 h50 => if r50 = (-9) then ((f_X10_workOn p1 p2 h50).bind fun h63 => (f_X9_failingSize p2 0 h63).bind fun r68 => if r68 = (-9) then (some (3, h63)) else (some (2, h63))) else (some (1, h50))) else (some (0, h32))) else (f_X10_proof_j18 h))
set_option maxRecDepth 100000 in
set_option maxHeartbeats 4000000 in
theorem c_X10_proof (g : pq_g) {A : Nat → Prop} (hA : pq_A (SC g) A) (l : Launch) (p1 : Int32) (p2 : Int32) (h : pq_H) {rr : Int32} {hh : pq_H} (e : f_X10_proof p1 p2 h = some (rr, hh)) : pq_M (SC g) A l yX10_proof cX10_proof 3 (some .int) 5 116 [.ref ((SC g).1.2.1 55), .int p1, .int p2] h (some (.int rr)) hh := by
  refine pq_met hA l (own := RX10) 5 116 _ [(0, .ref ((SC g).1.2.1 55)), (1, .int p1), (2, .int p2)] h _ hh (by decide +kernel) rfl (Nat.le_of_ble_eq_true rfl) rfl (fun X hXl hXA hB hK hR => ?_)
  refine V.cast (F' := f_X10_proof p1 p2 h) (res' := (rr, hh)) (fun _ => e) ?_
  have hn18 : ∀ (h : pq_H), V X (SC g) (rr, hh) 3 18 [(0, .ref ((SC g).1.2.1 55))] [] h (f_X10_proof_j18 h) := by
    intro h
    unfold f_X10_proof_j18
    refine v_aload_n hB 0 dX10_proof_18 rfl rfl ?_
    refine v_iconst hB (-1) dX10_proof_19 (by decide) ?_
    refine v_bWi (fun r20 h20 e20 => v_callV hB hK hR.rm [.int (-1)] [] (oC_55 g) lb_X10_refuse lv_X10_69 (c_X10_refuse g hK.A X.1.2.1 (-1) h e20) dX10_proof_20 rfl rfl (Nat.le_of_ble_eq_true rfl) (by decide) (by decide)) (fun r20 h20 => ?_)
    exact v_retWi (x := r20) hB hK hR dX10_proof_23
  unfold f_X10_proof
  refine v_aload_n hB 0 dX10_proof_0 rfl rfl ?_
  refine v_getA hB hK (fl_X10_10 g) (cCA_55_0 g) dX10_proof_1 ?_
  refine v_iload_n hB 1 dX10_proof_4 rfl rfl ?_
  refine v_bT (v_callV hB hK hR.rm [.int p1] [] (oC_56 g) lb_X6_lacks lv_X10_107 (c_X6_lacks g hK.A X.1.2.1 p1 h) dX10_proof_5 rfl rfl (Nat.le_of_ble_eq_true rfl) (by decide) (by decide)) ?_
  refine v_ifz_ne (r := f_X6_lacks p1 h) (tgt := 18) hB dX10_proof_8 rfl ?_ ?_
  · exact V.sub [0] rfl (hn18 h)
  · refine v_iload_n hB 2 dX10_proof_11 rfl rfl ?_
    refine v_bT (v_callS hB hK hR.rm [.int p2] [] lb_X10_isSide lv_X10_166 (c_X10_isSide g hK.A X.1.2.1 p2 h) dX10_proof_12 rfl rfl (Nat.le_of_ble_eq_true rfl) (by decide) (by decide)) ?_
    refine v_ifz_ne (r := f_X10_isSide p2) (tgt := 24) hB dX10_proof_15 rfl ?_ ?_
    · refine v_aload_n hB 0 dX10_proof_24 rfl rfl ?_
      refine v_iload_n hB 1 dX10_proof_25 rfl rfl ?_
      refine v_iload_n hB 2 dX10_proof_26 rfl rfl ?_
      refine v_bVr (fun h27 e27 => v_callV hB hK hR.rm [.int p1, .int p2] [] (oC_55 g) lb_X10_workOn lv_X10_156 (c_X10_workOn g hK.A X.1.2.1 p1 p2 h e27) dX10_proof_27 rfl rfl (Nat.le_of_ble_eq_true rfl) (by decide) (by decide)) (fun h27 => ?_)
      refine v_iload_n hB 2 dX10_proof_30 rfl rfl ?_
      refine v_iconst hB 1 dX10_proof_31 (by decide) ?_
      refine v_bWi (fun r32 h32 e32 => v_callV hB hK hR.rm [.int p2, .int 1] [] (oC_59 g) lb_X9_leastLift lv_X10_184 (c_X9_leastLift g hK.A X.1.2.1 p2 1 h27 e32) dX10_proof_32 rfl rfl (Nat.le_of_ble_eq_true rfl) (by decide) (by decide)) (fun r32 h32 => ?_)
      refine v_bipush hB (-9) dX10_proof_35 (by decide) ?_
      refine v_icmp_eq (tgt := 42) hB dX10_proof_37 rfl ?_ ?_
      · refine v_aload_n hB 0 dX10_proof_42 rfl rfl ?_
        refine v_iload_n hB 1 dX10_proof_43 rfl rfl ?_
        refine v_iload_n hB 2 dX10_proof_44 rfl rfl ?_
        refine v_bVr (fun h45 e45 => v_callV hB hK hR.rm [.int p1, .int p2] [] (oC_55 g) lb_X10_workOn lv_X10_156 (c_X10_workOn g hK.A X.1.2.1 p1 p2 h32 e45) dX10_proof_45 rfl rfl (Nat.le_of_ble_eq_true rfl) (by decide) (by decide)) (fun h45 => ?_)
        refine v_iload_n hB 2 dX10_proof_48 rfl rfl ?_
        refine v_iconst hB 0 dX10_proof_49 (by decide) ?_
        refine v_bWi (fun r50 h50 e50 => v_callV hB hK hR.rm [.int p2, .int 0] [] (oC_59 g) lb_X9_leastLift lv_X10_184 (c_X9_leastLift g hK.A X.1.2.1 p2 0 h45 e50) dX10_proof_50 rfl rfl (Nat.le_of_ble_eq_true rfl) (by decide) (by decide)) (fun r50 h50 => ?_)
        refine v_bipush hB (-9) dX10_proof_53 (by decide) ?_
        refine v_icmp_eq (tgt := 60) hB dX10_proof_55 rfl ?_ ?_
        · refine v_aload_n hB 0 dX10_proof_60 rfl rfl ?_
          refine v_iload_n hB 1 dX10_proof_61 rfl rfl ?_
          refine v_iload_n hB 2 dX10_proof_62 rfl rfl ?_
          refine v_bVr (fun h63 e63 => v_callV hB hK hR.rm [.int p1, .int p2] [] (oC_55 g) lb_X10_workOn lv_X10_156 (c_X10_workOn g hK.A X.1.2.1 p1 p2 h50 e63) dX10_proof_63 rfl rfl (Nat.le_of_ble_eq_true rfl) (by decide) (by decide)) (fun h63 => ?_)
          refine v_iload_n hB 2 dX10_proof_66 rfl rfl ?_
          refine v_iconst hB 0 dX10_proof_67 (by decide) ?_
          refine v_bRi (fun r68 e68 => v_callV hB hK hR.rm [.int p2, .int 0] [] (oC_59 g) lb_X9_failingSize lv_X10_187 (c_X9_failingSize g hK.A X.1.2.1 p2 0 h63 e68) dX10_proof_68 rfl rfl (Nat.le_of_ble_eq_true rfl) (by decide) (by decide)) (fun r68 => ?_)
          refine v_bipush hB (-9) dX10_proof_71 (by decide) ?_
          refine v_icmp_eq (tgt := 80) hB dX10_proof_73 rfl ?_ ?_
          · refine v_iconst hB 3 dX10_proof_80 (by decide) ?_
            exact v_retWi (x := 3) hB hK hR dX10_proof_81
          · refine v_iconst hB 2 dX10_proof_76 (by decide) ?_
            refine v_goto (tgt := 81) hB dX10_proof_77 rfl ?_
            exact v_retWi (x := 2) hB hK hR dX10_proof_81
        · refine v_iconst hB 1 dX10_proof_58 (by decide) ?_
          exact v_retWi (x := 1) hB hK hR dX10_proof_59
      · refine v_iconst hB 0 dX10_proof_40 (by decide) ?_
        exact v_retWi (x := 0) hB hK hR dX10_proof_41
    · exact V.sub [0] rfl (hn18 h)

def f_X10_walls_j22 (h : pq_H) : Option (Int64 × pq_H) :=
  bd2 (f_X10_refuseFar (-4) h) fun r25 h25 => some (r25, h25)
def f_X10_walls_j40 (h : pq_H) : Option (Int64 × pq_H) :=
  bd2 (f_X10_refuseFar (-6) h) fun r43 h43 => some (r43, h43)
def f_X10_walls_j91 (h : pq_H) : Option (Int64 × pq_H) :=
  bd2 (f_X10_refuseFar (-3) h) fun r94 h94 => some (r94, h94)
def f_X10_walls (p1 : Int32) (p2 : Int32) (p3 : Int32) (h : pq_H) : Option (Int64 × pq_H) :=
  if (f_X10_notBelow p1 3) = true then (bd2 (f_X10_refuseFar (-1) h) fun r10 h10 => some (r10, h10)) else (if p2 < 0 then (f_X10_walls_j22 h) else (if 0 ≤ p3 then (if 16 < p2 then (f_X10_walls_j40 h) else (if p3 ≤ p2 then ((f_X4_misses p1 h).bind fun r52 => if r52 = true then (bd2 (f_X10_refuseFar (-11) h) fun r61 h61 => some (r61, h61)) else ((f_X4_isPolynomial p1 h).bind fun r70 => if r70 = true then (gd (inb p1 3) (if ((rI h 81 p1.toNatClampNeg) - 1) ≤ p2 then ((f_X4_wall p1 p2 p3 h).bind fun r105 => some (r105, h)) else (f_X10_walls_j91 h))) else (f_X10_walls_j91 h))) else (f_X10_walls_j40 h))) else (f_X10_walls_j22 h)))
set_option maxRecDepth 100000 in
set_option maxHeartbeats 4000000 in
theorem c_X10_walls (g : pq_g) {A : Nat → Prop} (hA : pq_A (SC g) A) (l : Launch) (p1 : Int32) (p2 : Int32) (p3 : Int32) (h : pq_H) {rr : Int64} {hh : pq_H} (e : f_X10_walls p1 p2 p3 h = some (rr, hh)) : pq_M (SC g) A l yX10_walls cX10_walls 4 (some .long) 2 50 [.ref ((SC g).1.2.1 55), .int p1, .int p2, .int p3] h (some (.long rr)) hh := by
  refine pq_met hA l (own := RX10) 2 50 _ [(0, .ref ((SC g).1.2.1 55)), (1, .int p1), (2, .int p2), (3, .int p3)] h _ hh (by decide +kernel) rfl (Nat.le_of_ble_eq_true rfl) rfl (fun X hXl hXA hB hK hR => ?_)
  refine V.cast (F' := f_X10_walls p1 p2 p3 h) (res' := (rr, hh)) (fun _ => e) ?_
  have hn22 : ∀ (h : pq_H), V X (SC g) (rr, hh) 4 22 [(0, .ref ((SC g).1.2.1 55))] [] h (f_X10_walls_j22 h) := by
    intro h
    unfold f_X10_walls_j22
    refine v_aload_n hB 0 dX10_walls_22 rfl rfl ?_
    refine v_bipush hB (-4) dX10_walls_23 (by decide) ?_
    refine v_bWj (fun r25 h25 e25 => v_callV hB hK hR.rm [.int (-4)] [] (oC_55 g) lb_X10_refuseFar lv_X10_152 (c_X10_refuseFar g hK.A X.1.2.1 (-4) h e25) dX10_walls_25 rfl rfl (Nat.le_of_ble_eq_true rfl) (by decide) (by decide)) (fun r25 h25 => ?_)
    exact v_retWj (x := r25) hB hK hR dX10_walls_28
  have hn40 : ∀ (h : pq_H), V X (SC g) (rr, hh) 4 40 [(0, .ref ((SC g).1.2.1 55))] [] h (f_X10_walls_j40 h) := by
    intro h
    unfold f_X10_walls_j40
    refine v_aload_n hB 0 dX10_walls_40 rfl rfl ?_
    refine v_bipush hB (-6) dX10_walls_41 (by decide) ?_
    refine v_bWj (fun r43 h43 e43 => v_callV hB hK hR.rm [.int (-6)] [] (oC_55 g) lb_X10_refuseFar lv_X10_152 (c_X10_refuseFar g hK.A X.1.2.1 (-6) h e43) dX10_walls_43 rfl rfl (Nat.le_of_ble_eq_true rfl) (by decide) (by decide)) (fun r43 h43 => ?_)
    exact v_retWj (x := r43) hB hK hR dX10_walls_46
  have hn91 : ∀ (h : pq_H), V X (SC g) (rr, hh) 4 91 [(0, .ref ((SC g).1.2.1 55))] [] h (f_X10_walls_j91 h) := by
    intro h
    unfold f_X10_walls_j91
    refine v_aload_n hB 0 dX10_walls_91 rfl rfl ?_
    refine v_bipush hB (-3) dX10_walls_92 (by decide) ?_
    refine v_bWj (fun r94 h94 e94 => v_callV hB hK hR.rm [.int (-3)] [] (oC_55 g) lb_X10_refuseFar lv_X10_152 (c_X10_refuseFar g hK.A X.1.2.1 (-3) h e94) dX10_walls_94 rfl rfl (Nat.le_of_ble_eq_true rfl) (by decide) (by decide)) (fun r94 h94 => ?_)
    exact v_retWj (x := r94) hB hK hR dX10_walls_97
  unfold f_X10_walls
  refine v_iload_n hB 1 dX10_walls_0 rfl rfl ?_
  refine v_iconst hB 3 dX10_walls_1 (by decide) ?_
  refine v_bT (v_callS hB hK hR.rm [.int p1, .int 3] [] lb_X10_notBelow lv_X10_128 (c_X10_notBelow g hK.A X.1.2.1 p1 3 h) dX10_walls_2 rfl rfl (Nat.le_of_ble_eq_true rfl) (by decide) (by decide)) ?_
  refine v_ifz_eq (r := f_X10_notBelow p1 3) (tgt := 14) hB dX10_walls_5 rfl ?_ ?_
  · refine v_iload_n hB 2 dX10_walls_14 rfl rfl ?_
    refine v_if_lt (tgt := 22) hB dX10_walls_15 rfl ?_ ?_
    · exact V.sub [0] rfl (hn22 h)
    · refine v_iload_n hB 3 dX10_walls_18 rfl rfl ?_
      refine v_if_ge (tgt := 29) hB dX10_walls_19 rfl ?_ ?_
      · refine v_iload_n hB 2 dX10_walls_29 rfl rfl ?_
        refine v_bipush hB 16 dX10_walls_30 (by decide) ?_
        refine v_icmp_gt (tgt := 40) hB dX10_walls_32 rfl ?_ ?_
        · exact V.sub [0] rfl (hn40 h)
        · refine v_iload_n hB 3 dX10_walls_35 rfl rfl ?_
          refine v_iload_n hB 2 dX10_walls_36 rfl rfl ?_
          refine v_icmp_le (tgt := 47) hB dX10_walls_37 rfl ?_ ?_
          · refine v_aload_n hB 0 dX10_walls_47 rfl rfl ?_
            refine v_getA hB hK (fl_X10_61 g) (cCA_55_7 g) dX10_walls_48 ?_
            refine v_iload_n hB 1 dX10_walls_51 rfl rfl ?_
            refine v_bRz (fun r52 e52 => v_callV hB hK hR.rm [.int p1] [] (oC_79 g) lb_X4_misses lv_X10_211 (c_X4_misses g hK.A X.1.2.1 p1 h e52) dX10_walls_52 rfl rfl (Nat.le_of_ble_eq_true rfl) (by decide) (by decide)) (fun r52 => ?_)
            refine v_ifz_eq (r := r52) (tgt := 65) hB dX10_walls_55 rfl ?_ ?_
            · refine v_aload_n hB 0 dX10_walls_65 rfl rfl ?_
              refine v_getA hB hK (fl_X10_61 g) (cCA_55_7 g) dX10_walls_66 ?_
              refine v_iload_n hB 1 dX10_walls_69 rfl rfl ?_
              refine v_bRz (fun r70 e70 => v_callV hB hK hR.rm [.int p1] [] (oC_79 g) lb_X4_isPolynomial lv_X10_214 (c_X4_isPolynomial g hK.A X.1.2.1 p1 h e70) dX10_walls_70 rfl rfl (Nat.le_of_ble_eq_true rfl) (by decide) (by decide)) (fun r70 => ?_)
              refine v_ifz_eq (r := r70) (tgt := 91) hB dX10_walls_73 rfl ?_ ?_
              · exact V.sub [0] rfl (hn91 h)
              · refine v_iload_n hB 2 dX10_walls_76 rfl rfl ?_
                refine v_aload_n hB 0 dX10_walls_77 rfl rfl ?_
                refine v_getA hB hK (fl_X10_61 g) (cCA_55_7 g) dX10_walls_78 ?_
                refine v_getA hB hK (fl_X10_217 g) (cCA_79_1 g) dX10_walls_81 ?_
                refine v_iload_n hB 1 dX10_walls_84 rfl rfl ?_
                refine v_iald hB hK (aCI_81 g) dX10_walls_85 ?_
                refine v_iconst hB 1 dX10_walls_86 (by decide) ?_
                refine v_isub hB dX10_walls_87 ?_
                refine v_icmp_ge (tgt := 98) hB dX10_walls_88 rfl ?_ ?_
                · refine v_aload_n hB 0 dX10_walls_98 rfl rfl ?_
                  refine v_getA hB hK (fl_X10_61 g) (cCA_55_7 g) dX10_walls_99 ?_
                  refine v_iload_n hB 1 dX10_walls_102 rfl rfl ?_
                  refine v_iload_n hB 2 dX10_walls_103 rfl rfl ?_
                  refine v_iload_n hB 3 dX10_walls_104 rfl rfl ?_
                  refine v_bRj (fun r105 e105 => v_callV hB hK hR.rm [.int p1, .int p2, .int p3] [] (oC_79 g) lb_X4_wall lv_X10_219 (c_X4_wall g hK.A X.1.2.1 p1 p2 p3 h e105) dX10_walls_105 rfl rfl (Nat.le_of_ble_eq_true rfl) (by decide) (by decide)) (fun r105 => ?_)
                  exact v_retWj (x := r105) hB hK hR dX10_walls_108
                · exact V.sub [0] rfl (hn91 h)
            · refine v_aload_n hB 0 dX10_walls_58 rfl rfl ?_
              refine v_bipush hB (-11) dX10_walls_59 (by decide) ?_
              refine v_bWj (fun r61 h61 e61 => v_callV hB hK hR.rm [.int (-11)] [] (oC_55 g) lb_X10_refuseFar lv_X10_152 (c_X10_refuseFar g hK.A X.1.2.1 (-11) h e61) dX10_walls_61 rfl rfl (Nat.le_of_ble_eq_true rfl) (by decide) (by decide)) (fun r61 h61 => ?_)
              exact v_retWj (x := r61) hB hK hR dX10_walls_64
          · exact V.sub [0] rfl (hn40 h)
      · exact V.sub [0] rfl (hn22 h)
  · refine v_aload_n hB 0 dX10_walls_8 rfl rfl ?_
    refine v_iconst hB (-1) dX10_walls_9 (by decide) ?_
    refine v_bWj (fun r10 h10 e10 => v_callV hB hK hR.rm [.int (-1)] [] (oC_55 g) lb_X10_refuseFar lv_X10_152 (c_X10_refuseFar g hK.A X.1.2.1 (-1) h e10) dX10_walls_10 rfl rfl (Nat.le_of_ble_eq_true rfl) (by decide) (by decide)) (fun r10 h10 => ?_)
    exact v_retWj (x := r10) hB hK hR dX10_walls_13

def f_X10_wallsLeast_l77 (p1 : Int32) (p2 : Int32) (h : pq_H) (w77 : Int32 → Option (Int32 × pq_H)) (v3 : Int32) : Option (Int32 × pq_H) :=
  if 16 < v3 then (some ((-9), h)) else ((f_X4_wallsClear p1 v3 p2 h).bind fun r90 => if r90 = true then (some (v3, h)) else (w77 (v3 + 1)))
def f_X10_wallsLeast (p1 : Int32) (p2 : Int32) (h : pq_H) : Option (Int32 × pq_H) :=
  if (f_X10_notBelow p1 3) = true then (bd2 (f_X10_refuse (-1) h) fun r10 h10 => some (r10, h10)) else (if (f_X10_notBelow p2 2) = true then (bd2 (f_X10_refuse (-2) h) fun r25 h25 => some (r25, h25)) else ((f_X4_misses p1 h).bind fun r34 => if r34 = true then (some ((-11), h)) else ((f_X4_isPolynomial p1 h).bind fun r48 => if r48 = true then (gd (inb p1 3) (lp (fun _ => none) (f_X10_wallsLeast_l77 p1 p2 h) 1000 (if 0 < ((rI h 81 p1.toNatClampNeg) - 1) then ((rI h 81 p1.toNatClampNeg) - 1) else 0))) else (bd2 (f_X10_refuse (-3) h) fun r57 h57 => some (r57, h57)))))
set_option maxRecDepth 100000 in
set_option maxHeartbeats 4000000 in
theorem c_X10_wallsLeast (g : pq_g) {A : Nat → Prop} (hA : pq_A (SC g) A) (l : Launch) (p1 : Int32) (p2 : Int32) (h : pq_H) {rr : Int32} {hh : pq_H} (e : f_X10_wallsLeast p1 p2 h = some (rr, hh)) : pq_M (SC g) A l yX10_wallsLeast cX10_wallsLeast 4 (some .int) 3 74 [.ref ((SC g).1.2.1 55), .int p1, .int p2] h (some (.int rr)) hh := by
  refine pq_met hA l (own := RX10) 3 74 _ [(0, .ref ((SC g).1.2.1 55)), (1, .int p1), (2, .int p2)] h _ hh (by decide +kernel) rfl (Nat.le_of_ble_eq_true rfl) rfl (fun X hXl hXA hB hK hR => ?_)
  refine V.cast (F' := f_X10_wallsLeast p1 p2 h) (res' := (rr, hh)) (fun _ => e) ?_
  have hn77 : ∀ (h : pq_H) (n : Nat), ∀ (v3 : Int32), V X (SC g) (rr, hh) 4 77 [(0, .ref ((SC g).1.2.1 55)), (1, .int p1), (2, .int p2), (3, .int v3)] [] h (lp (fun _ => none) (f_X10_wallsLeast_l77 p1 p2 h) n v3) := by
    intro h
    refine lp_ind (fun (w77 : Int32 → Option (Int32 × pq_H)) => ∀ (v3 : Int32), V X (SC g) (rr, hh) 4 77 [(0, .ref ((SC g).1.2.1 55)), (1, .int p1), (2, .int p2), (3, .int v3)] [] h (w77 v3)) (fun _ => V.none _ _ _ _) (fun w77 ih77 => ?_)
    intro v3
    unfold f_X10_wallsLeast_l77
    refine v_iload_n hB 3 dX10_wallsLeast_77 rfl rfl ?_
    refine v_bipush hB 16 dX10_wallsLeast_78 (by decide) ?_
    refine v_icmp_gt (tgt := 104) hB dX10_wallsLeast_80 rfl ?_ ?_
    · refine v_bipush hB (-9) dX10_wallsLeast_104 (by decide) ?_
      exact v_retWi (x := (-9)) hB hK hR dX10_wallsLeast_106
    · refine v_aload_n hB 0 dX10_wallsLeast_83 rfl rfl ?_
      refine v_getA hB hK (fl_X10_61 g) (cCA_55_7 g) dX10_wallsLeast_84 ?_
      refine v_iload_n hB 1 dX10_wallsLeast_87 rfl rfl ?_
      refine v_iload_n hB 3 dX10_wallsLeast_88 rfl rfl ?_
      refine v_iload_n hB 2 dX10_wallsLeast_89 rfl rfl ?_
      refine v_bRz (fun r90 e90 => v_callV hB hK hR.rm [.int p1, .int v3, .int p2] [] (oC_79 g) lb_X4_wallsClear lv_X10_227 (c_X4_wallsClear g hK.A X.1.2.1 p1 v3 p2 h e90) dX10_wallsLeast_90 rfl rfl (Nat.le_of_ble_eq_true rfl) (by decide) (by decide)) (fun r90 => ?_)
      refine v_ifz_eq (r := r90) (tgt := 98) hB dX10_wallsLeast_93 rfl ?_ ?_
      · refine v_iinc hB (v3 + 1) [(0, .ref ((SC g).1.2.1 55)), (1, .int p1), (2, .int p2), (3, .int (v3 + 1))] 3 [1, 2, 3, 0] dX10_wallsLeast_98 rfl rfl (by decide) rfl ?_
        refine v_goto (tgt := 77) hB dX10_wallsLeast_101 rfl ?_
        exact V.sub [0, 1, 2, 3] rfl (ih77 (v3 + 1))
      · refine v_iload_n hB 3 dX10_wallsLeast_96 rfl rfl ?_
        exact v_retWi (x := v3) hB hK hR dX10_wallsLeast_97
  unfold f_X10_wallsLeast
  refine v_iload_n hB 1 dX10_wallsLeast_0 rfl rfl ?_
  refine v_iconst hB 3 dX10_wallsLeast_1 (by decide) ?_
  refine v_bT (v_callS hB hK hR.rm [.int p1, .int 3] [] lb_X10_notBelow lv_X10_128 (c_X10_notBelow g hK.A X.1.2.1 p1 3 h) dX10_wallsLeast_2 rfl rfl (Nat.le_of_ble_eq_true rfl) (by decide) (by decide)) ?_
  refine v_ifz_eq (r := f_X10_notBelow p1 3) (tgt := 14) hB dX10_wallsLeast_5 rfl ?_ ?_
  · refine v_iload_n hB 2 dX10_wallsLeast_14 rfl rfl ?_
    refine v_iconst hB 2 dX10_wallsLeast_15 (by decide) ?_
    refine v_bT (v_callS hB hK hR.rm [.int p2, .int 2] [] lb_X10_notBelow lv_X10_128 (c_X10_notBelow g hK.A X.1.2.1 p2 2 h) dX10_wallsLeast_16 rfl rfl (Nat.le_of_ble_eq_true rfl) (by decide) (by decide)) ?_
    refine v_ifz_eq (r := f_X10_notBelow p2 2) (tgt := 29) hB dX10_wallsLeast_19 rfl ?_ ?_
    · refine v_aload_n hB 0 dX10_wallsLeast_29 rfl rfl ?_
      refine v_getA hB hK (fl_X10_61 g) (cCA_55_7 g) dX10_wallsLeast_30 ?_
      refine v_iload_n hB 1 dX10_wallsLeast_33 rfl rfl ?_
      refine v_bRz (fun r34 e34 => v_callV hB hK hR.rm [.int p1] [] (oC_79 g) lb_X4_misses lv_X10_211 (c_X4_misses g hK.A X.1.2.1 p1 h e34) dX10_wallsLeast_34 rfl rfl (Nat.le_of_ble_eq_true rfl) (by decide) (by decide)) (fun r34 => ?_)
      refine v_ifz_eq (r := r34) (tgt := 43) hB dX10_wallsLeast_37 rfl ?_ ?_
      · refine v_aload_n hB 0 dX10_wallsLeast_43 rfl rfl ?_
        refine v_getA hB hK (fl_X10_61 g) (cCA_55_7 g) dX10_wallsLeast_44 ?_
        refine v_iload_n hB 1 dX10_wallsLeast_47 rfl rfl ?_
        refine v_bRz (fun r48 e48 => v_callV hB hK hR.rm [.int p1] [] (oC_79 g) lb_X4_isPolynomial lv_X10_214 (c_X4_isPolynomial g hK.A X.1.2.1 p1 h e48) dX10_wallsLeast_48 rfl rfl (Nat.le_of_ble_eq_true rfl) (by decide) (by decide)) (fun r48 => ?_)
        refine v_ifz_ne (r := r48) (tgt := 61) hB dX10_wallsLeast_51 rfl ?_ ?_
        · refine v_iconst hB 0 dX10_wallsLeast_61 (by decide) ?_
          refine v_aload_n hB 0 dX10_wallsLeast_62 rfl rfl ?_
          refine v_getA hB hK (fl_X10_61 g) (cCA_55_7 g) dX10_wallsLeast_63 ?_
          refine v_getA hB hK (fl_X10_217 g) (cCA_79_1 g) dX10_wallsLeast_66 ?_
          refine v_iload_n hB 1 dX10_wallsLeast_69 rfl rfl ?_
          refine v_iald hB hK (aCI_81 g) dX10_wallsLeast_70 ?_
          refine v_iconst hB 1 dX10_wallsLeast_71 (by decide) ?_
          refine v_isub hB dX10_wallsLeast_72 ?_
          refine v_mmax hB hR.rm lk_X10_222 (by decide) (Nat.le_of_ble_eq_true rfl) dX10_wallsLeast_73 ?_
          refine v_istore_n hB [(0, .ref ((SC g).1.2.1 55)), (1, .int p1), (2, .int p2), (3, .int (if 0 < ((rI h 81 p1.toNatClampNeg) - 1) then ((rI h 81 p1.toNatClampNeg) - 1) else 0))] [1, 2, 3, 0] dX10_wallsLeast_76 rfl (by decide) rfl ?_
          exact V.sub [0, 1, 2, 3] rfl (hn77 h 1000 (if 0 < ((rI h 81 p1.toNatClampNeg) - 1) then ((rI h 81 p1.toNatClampNeg) - 1) else 0))
        · refine v_aload_n hB 0 dX10_wallsLeast_54 rfl rfl ?_
          refine v_bipush hB (-3) dX10_wallsLeast_55 (by decide) ?_
          refine v_bWi (fun r57 h57 e57 => v_callV hB hK hR.rm [.int (-3)] [] (oC_55 g) lb_X10_refuse lv_X10_69 (c_X10_refuse g hK.A X.1.2.1 (-3) h e57) dX10_wallsLeast_57 rfl rfl (Nat.le_of_ble_eq_true rfl) (by decide) (by decide)) (fun r57 h57 => ?_)
          exact v_retWi (x := r57) hB hK hR dX10_wallsLeast_60
      · refine v_bipush hB (-11) dX10_wallsLeast_40 (by decide) ?_
        exact v_retWi (x := (-11)) hB hK hR dX10_wallsLeast_42
    · refine v_aload_n hB 0 dX10_wallsLeast_22 rfl rfl ?_
      refine v_bipush hB (-2) dX10_wallsLeast_23 (by decide) ?_
      refine v_bWi (fun r25 h25 e25 => v_callV hB hK hR.rm [.int (-2)] [] (oC_55 g) lb_X10_refuse lv_X10_69 (c_X10_refuse g hK.A X.1.2.1 (-2) h e25) dX10_wallsLeast_25 rfl rfl (Nat.le_of_ble_eq_true rfl) (by decide) (by decide)) (fun r25 h25 => ?_)
      exact v_retWi (x := r25) hB hK hR dX10_wallsLeast_28
  · refine v_aload_n hB 0 dX10_wallsLeast_8 rfl rfl ?_
    refine v_iconst hB (-1) dX10_wallsLeast_9 (by decide) ?_
    refine v_bWi (fun r10 h10 e10 => v_callV hB hK hR.rm [.int (-1)] [] (oC_55 g) lb_X10_refuse lv_X10_69 (c_X10_refuse g hK.A X.1.2.1 (-1) h e10) dX10_wallsLeast_10 rfl rfl (Nat.le_of_ble_eq_true rfl) (by decide) (by decide)) (fun r10 h10 => ?_)
    exact v_retWi (x := r10) hB hK hR dX10_wallsLeast_13

def f_X10_sum_j22 (h : pq_H) : Option (Int32 × pq_H) :=
  bd2 (f_X10_refuse (-1) h) fun r24 h24 => some (r24, h24)
def f_X10_sum (p1 : Int32) (p2 : Int32) (h : pq_H) : Option (Int32 × pq_H) :=
  if (f_X6_lacks p1 h) = true then (f_X10_sum_j22 h) else (if (f_X6_lacks p2 h) = true then (f_X10_sum_j22 h) else (gd (inb p1 6) (gd (inb p2 6) (if (rI h p1.toNatClampNeg 3) = (rI h p2.toNatClampNeg 3) then (bd2 (f_X6_bringSum p1 p2 h) fun r69 h69 => bd2 (f_X10_cameOr r69 h69) fun r72 h72 => some (r72, h72)) else (bd2 (f_X10_refuse (-3) h) fun r58 h58 => some (r58, h58))))))
set_option maxRecDepth 100000 in
set_option maxHeartbeats 4000000 in
theorem c_X10_sum (g : pq_g) {A : Nat → Prop} (hA : pq_A (SC g) A) (l : Launch) (p1 : Int32) (p2 : Int32) (h : pq_H) {rr : Int32} {hh : pq_H} (e : f_X10_sum p1 p2 h = some (rr, hh)) : pq_M (SC g) A l yX10_sum cX10_sum 3 (some .int) 4 93 [.ref ((SC g).1.2.1 55), .int p1, .int p2] h (some (.int rr)) hh := by
  refine pq_met hA l (own := RX10) 4 93 _ [(0, .ref ((SC g).1.2.1 55)), (1, .int p1), (2, .int p2)] h _ hh (by decide +kernel) rfl (Nat.le_of_ble_eq_true rfl) rfl (fun X hXl hXA hB hK hR => ?_)
  refine V.cast (F' := f_X10_sum p1 p2 h) (res' := (rr, hh)) (fun _ => e) ?_
  have hn22 : ∀ (h : pq_H), V X (SC g) (rr, hh) 3 22 [(0, .ref ((SC g).1.2.1 55))] [] h (f_X10_sum_j22 h) := by
    intro h
    unfold f_X10_sum_j22
    refine v_aload_n hB 0 dX10_sum_22 rfl rfl ?_
    refine v_iconst hB (-1) dX10_sum_23 (by decide) ?_
    refine v_bWi (fun r24 h24 e24 => v_callV hB hK hR.rm [.int (-1)] [] (oC_55 g) lb_X10_refuse lv_X10_69 (c_X10_refuse g hK.A X.1.2.1 (-1) h e24) dX10_sum_24 rfl rfl (Nat.le_of_ble_eq_true rfl) (by decide) (by decide)) (fun r24 h24 => ?_)
    exact v_retWi (x := r24) hB hK hR dX10_sum_27
  unfold f_X10_sum
  refine v_aload_n hB 0 dX10_sum_0 rfl rfl ?_
  refine v_getA hB hK (fl_X10_10 g) (cCA_55_0 g) dX10_sum_1 ?_
  refine v_iload_n hB 1 dX10_sum_4 rfl rfl ?_
  refine v_bT (v_callV hB hK hR.rm [.int p1] [] (oC_56 g) lb_X6_lacks lv_X10_107 (c_X6_lacks g hK.A X.1.2.1 p1 h) dX10_sum_5 rfl rfl (Nat.le_of_ble_eq_true rfl) (by decide) (by decide)) ?_
  refine v_ifz_ne (r := f_X6_lacks p1 h) (tgt := 22) hB dX10_sum_8 rfl ?_ ?_
  · exact V.sub [0] rfl (hn22 h)
  · refine v_aload_n hB 0 dX10_sum_11 rfl rfl ?_
    refine v_getA hB hK (fl_X10_10 g) (cCA_55_0 g) dX10_sum_12 ?_
    refine v_iload_n hB 2 dX10_sum_15 rfl rfl ?_
    refine v_bT (v_callV hB hK hR.rm [.int p2] [] (oC_56 g) lb_X6_lacks lv_X10_107 (c_X6_lacks g hK.A X.1.2.1 p2 h) dX10_sum_16 rfl rfl (Nat.le_of_ble_eq_true rfl) (by decide) (by decide)) ?_
    refine v_ifz_eq (r := f_X6_lacks p2 h) (tgt := 28) hB dX10_sum_19 rfl ?_ ?_
    · refine v_aload_n hB 0 dX10_sum_28 rfl rfl ?_
      refine v_getA hB hK (fl_X10_10 g) (cCA_55_0 g) dX10_sum_29 ?_
      refine v_getA hB hK (fl_X10_85 g) (cCA_56_0 g) dX10_sum_32 ?_
      refine v_iload_n hB 1 dX10_sum_35 rfl rfl ?_
      refine v_aa57 hB hK dX10_sum_36 (fun q36 => ?_)
      refine v_getI hB hK (fl_X10_137 g) (cI_Form_3 g p1.toNatClampNeg (lt6_12 q36)) dX10_sum_37 ?_
      refine v_aload_n hB 0 dX10_sum_40 rfl rfl ?_
      refine v_getA hB hK (fl_X10_10 g) (cCA_55_0 g) dX10_sum_41 ?_
      refine v_getA hB hK (fl_X10_85 g) (cCA_56_0 g) dX10_sum_44 ?_
      refine v_iload_n hB 2 dX10_sum_47 rfl rfl ?_
      refine v_aa57 hB hK dX10_sum_48 (fun q48 => ?_)
      refine v_getI hB hK (fl_X10_137 g) (cI_Form_3 g p2.toNatClampNeg (lt6_12 q48)) dX10_sum_49 ?_
      refine v_icmp_eq (tgt := 62) hB dX10_sum_52 rfl ?_ ?_
      · refine v_aload_n hB 0 dX10_sum_62 rfl rfl ?_
        refine v_aload_n hB 0 dX10_sum_63 rfl rfl ?_
        refine v_getA hB hK (fl_X10_10 g) (cCA_55_0 g) dX10_sum_64 ?_
        refine v_iload_n hB 1 dX10_sum_67 rfl rfl ?_
        refine v_iload_n hB 2 dX10_sum_68 rfl rfl ?_
        refine v_bWz (fun r69 h69 e69 => v_callV hB hK hR.rm [.int p1, .int p2] [.ref ((SC g).1.2.1 55)] (oC_56 g) lb_X6_bringSum lv_X10_244 (c_X6_bringSum g hK.A X.1.2.1 p1 p2 h e69) dX10_sum_69 rfl rfl (Nat.le_of_ble_eq_true rfl) (by decide) (by decide)) (fun r69 h69 => ?_)
        refine v_bWi (fun r72 h72 e72 => v_callV hB hK hR.rm [.int (b2i r69)] [] (oC_55 g) lb_X10_cameOr lv_X10_94 (c_X10_cameOr g hK.A X.1.2.1 r69 h69 e72) dX10_sum_72 rfl rfl (Nat.le_of_ble_eq_true rfl) (by decide) (by decide)) (fun r72 h72 => ?_)
        exact v_retWi (x := r72) hB hK hR dX10_sum_75
      · refine v_aload_n hB 0 dX10_sum_55 rfl rfl ?_
        refine v_bipush hB (-3) dX10_sum_56 (by decide) ?_
        refine v_bWi (fun r58 h58 e58 => v_callV hB hK hR.rm [.int (-3)] [] (oC_55 g) lb_X10_refuse lv_X10_69 (c_X10_refuse g hK.A X.1.2.1 (-3) h e58) dX10_sum_58 rfl rfl (Nat.le_of_ble_eq_true rfl) (by decide) (by decide)) (fun r58 h58 => ?_)
        exact v_retWi (x := r58) hB hK hR dX10_sum_61
    · exact V.sub [0] rfl (hn22 h)

def f_X10_product_j22 (h : pq_H) : Option (Int32 × pq_H) :=
  bd2 (f_X10_refuse (-1) h) fun r24 h24 => some (r24, h24)
def f_X10_product (p1 : Int32) (p2 : Int32) (h : pq_H) : Option (Int32 × pq_H) :=
  if (f_X6_lacks p1 h) = true then (f_X10_product_j22 h) else (if (f_X6_lacks p2 h) = true then (f_X10_product_j22 h) else (bd2 (f_X6_bringProduct p1 p2 h) fun r35 h35 => bd2 (f_X10_cameOr r35 h35) fun r38 h38 => some (r38, h38)))
set_option maxRecDepth 100000 in
set_option maxHeartbeats 4000000 in
theorem c_X10_product (g : pq_g) {A : Nat → Prop} (hA : pq_A (SC g) A) (l : Launch) (p1 : Int32) (p2 : Int32) (h : pq_H) {rr : Int32} {hh : pq_H} (e : f_X10_product p1 p2 h = some (rr, hh)) : pq_M (SC g) A l yX10_product cX10_product 3 (some .int) 4 97 [.ref ((SC g).1.2.1 55), .int p1, .int p2] h (some (.int rr)) hh := by
  refine pq_met hA l (own := RX10) 4 97 _ [(0, .ref ((SC g).1.2.1 55)), (1, .int p1), (2, .int p2)] h _ hh (by decide +kernel) rfl (Nat.le_of_ble_eq_true rfl) rfl (fun X hXl hXA hB hK hR => ?_)
  refine V.cast (F' := f_X10_product p1 p2 h) (res' := (rr, hh)) (fun _ => e) ?_
  have hn22 : ∀ (h : pq_H), V X (SC g) (rr, hh) 3 22 [(0, .ref ((SC g).1.2.1 55))] [] h (f_X10_product_j22 h) := by
    intro h
    unfold f_X10_product_j22
    refine v_aload_n hB 0 dX10_product_22 rfl rfl ?_
    refine v_iconst hB (-1) dX10_product_23 (by decide) ?_
    refine v_bWi (fun r24 h24 e24 => v_callV hB hK hR.rm [.int (-1)] [] (oC_55 g) lb_X10_refuse lv_X10_69 (c_X10_refuse g hK.A X.1.2.1 (-1) h e24) dX10_product_24 rfl rfl (Nat.le_of_ble_eq_true rfl) (by decide) (by decide)) (fun r24 h24 => ?_)
    exact v_retWi (x := r24) hB hK hR dX10_product_27
  unfold f_X10_product
  refine v_aload_n hB 0 dX10_product_0 rfl rfl ?_
  refine v_getA hB hK (fl_X10_10 g) (cCA_55_0 g) dX10_product_1 ?_
  refine v_iload_n hB 1 dX10_product_4 rfl rfl ?_
  refine v_bT (v_callV hB hK hR.rm [.int p1] [] (oC_56 g) lb_X6_lacks lv_X10_107 (c_X6_lacks g hK.A X.1.2.1 p1 h) dX10_product_5 rfl rfl (Nat.le_of_ble_eq_true rfl) (by decide) (by decide)) ?_
  refine v_ifz_ne (r := f_X6_lacks p1 h) (tgt := 22) hB dX10_product_8 rfl ?_ ?_
  · exact V.sub [0] rfl (hn22 h)
  · refine v_aload_n hB 0 dX10_product_11 rfl rfl ?_
    refine v_getA hB hK (fl_X10_10 g) (cCA_55_0 g) dX10_product_12 ?_
    refine v_iload_n hB 2 dX10_product_15 rfl rfl ?_
    refine v_bT (v_callV hB hK hR.rm [.int p2] [] (oC_56 g) lb_X6_lacks lv_X10_107 (c_X6_lacks g hK.A X.1.2.1 p2 h) dX10_product_16 rfl rfl (Nat.le_of_ble_eq_true rfl) (by decide) (by decide)) ?_
    refine v_ifz_eq (r := f_X6_lacks p2 h) (tgt := 28) hB dX10_product_19 rfl ?_ ?_
    · refine v_aload_n hB 0 dX10_product_28 rfl rfl ?_
      refine v_aload_n hB 0 dX10_product_29 rfl rfl ?_
      refine v_getA hB hK (fl_X10_10 g) (cCA_55_0 g) dX10_product_30 ?_
      refine v_iload_n hB 1 dX10_product_33 rfl rfl ?_
      refine v_iload_n hB 2 dX10_product_34 rfl rfl ?_
      refine v_bWz (fun r35 h35 e35 => v_callV hB hK hR.rm [.int p1, .int p2] [.ref ((SC g).1.2.1 55)] (oC_56 g) lb_X6_bringProduct lv_X10_247 (c_X6_bringProduct g hK.A X.1.2.1 p1 p2 h e35) dX10_product_35 rfl rfl (Nat.le_of_ble_eq_true rfl) (by decide) (by decide)) (fun r35 h35 => ?_)
      refine v_bWi (fun r38 h38 e38 => v_callV hB hK hR.rm [.int (b2i r35)] [] (oC_55 g) lb_X10_cameOr lv_X10_94 (c_X10_cameOr g hK.A X.1.2.1 r35 h35 e38) dX10_product_38 rfl rfl (Nat.le_of_ble_eq_true rfl) (by decide) (by decide)) (fun r38 h38 => ?_)
      exact v_retWi (x := r38) hB hK hR dX10_product_41
    · exact V.sub [0] rfl (hn22 h)

def f_X10_lift (p1 : Int32) (p2 : Int32) (h : pq_H) : Option (Int32 × pq_H) :=
  if (f_X6_lacks p1 h) = true then (bd2 (f_X10_refuse (-1) h) fun r13 h13 => some (r13, h13)) else (if 0 ≤ p2 then (bd2 (f_X6_bringLift p1 p2 h) fun r35 h35 => bd2 (f_X10_cameOr r35 h35) fun r38 h38 => some (r38, h38)) else (bd2 (f_X10_refuse (-4) h) fun r24 h24 => some (r24, h24)))
set_option maxRecDepth 100000 in
set_option maxHeartbeats 4000000 in
theorem c_X10_lift (g : pq_g) {A : Nat → Prop} (hA : pq_A (SC g) A) (l : Launch) (p1 : Int32) (p2 : Int32) (h : pq_H) {rr : Int32} {hh : pq_H} (e : f_X10_lift p1 p2 h = some (rr, hh)) : pq_M (SC g) A l yX10_lift cX10_lift 3 (some .int) 4 92 [.ref ((SC g).1.2.1 55), .int p1, .int p2] h (some (.int rr)) hh := by
  refine pq_met hA l (own := RX10) 4 92 _ [(0, .ref ((SC g).1.2.1 55)), (1, .int p1), (2, .int p2)] h _ hh (by decide +kernel) rfl (Nat.le_of_ble_eq_true rfl) rfl (fun X hXl hXA hB hK hR => ?_)
  refine V.cast (F' := f_X10_lift p1 p2 h) (res' := (rr, hh)) (fun _ => e) ?_
  unfold f_X10_lift
  refine v_aload_n hB 0 dX10_lift_0 rfl rfl ?_
  refine v_getA hB hK (fl_X10_10 g) (cCA_55_0 g) dX10_lift_1 ?_
  refine v_iload_n hB 1 dX10_lift_4 rfl rfl ?_
  refine v_bT (v_callV hB hK hR.rm [.int p1] [] (oC_56 g) lb_X6_lacks lv_X10_107 (c_X6_lacks g hK.A X.1.2.1 p1 h) dX10_lift_5 rfl rfl (Nat.le_of_ble_eq_true rfl) (by decide) (by decide)) ?_
  refine v_ifz_eq (r := f_X6_lacks p1 h) (tgt := 17) hB dX10_lift_8 rfl ?_ ?_
  · refine v_iload_n hB 2 dX10_lift_17 rfl rfl ?_
    refine v_if_ge (tgt := 28) hB dX10_lift_18 rfl ?_ ?_
    · refine v_aload_n hB 0 dX10_lift_28 rfl rfl ?_
      refine v_aload_n hB 0 dX10_lift_29 rfl rfl ?_
      refine v_getA hB hK (fl_X10_10 g) (cCA_55_0 g) dX10_lift_30 ?_
      refine v_iload_n hB 1 dX10_lift_33 rfl rfl ?_
      refine v_iload_n hB 2 dX10_lift_34 rfl rfl ?_
      refine v_bWz (fun r35 h35 e35 => v_callV hB hK hR.rm [.int p1, .int p2] [.ref ((SC g).1.2.1 55)] (oC_56 g) lb_X6_bringLift lv_X10_250 (c_X6_bringLift g hK.A X.1.2.1 p1 p2 h e35) dX10_lift_35 rfl rfl (Nat.le_of_ble_eq_true rfl) (by decide) (by decide)) (fun r35 h35 => ?_)
      refine v_bWi (fun r38 h38 e38 => v_callV hB hK hR.rm [.int (b2i r35)] [] (oC_55 g) lb_X10_cameOr lv_X10_94 (c_X10_cameOr g hK.A X.1.2.1 r35 h35 e38) dX10_lift_38 rfl rfl (Nat.le_of_ble_eq_true rfl) (by decide) (by decide)) (fun r38 h38 => ?_)
      exact v_retWi (x := r38) hB hK hR dX10_lift_41
    · refine v_aload_n hB 0 dX10_lift_21 rfl rfl ?_
      refine v_bipush hB (-4) dX10_lift_22 (by decide) ?_
      refine v_bWi (fun r24 h24 e24 => v_callV hB hK hR.rm [.int (-4)] [] (oC_55 g) lb_X10_refuse lv_X10_69 (c_X10_refuse g hK.A X.1.2.1 (-4) h e24) dX10_lift_24 rfl rfl (Nat.le_of_ble_eq_true rfl) (by decide) (by decide)) (fun r24 h24 => ?_)
      exact v_retWi (x := r24) hB hK hR dX10_lift_27
  · refine v_aload_n hB 0 dX10_lift_11 rfl rfl ?_
    refine v_iconst hB (-1) dX10_lift_12 (by decide) ?_
    refine v_bWi (fun r13 h13 e13 => v_callV hB hK hR.rm [.int (-1)] [] (oC_55 g) lb_X10_refuse lv_X10_69 (c_X10_refuse g hK.A X.1.2.1 (-1) h e13) dX10_lift_13 rfl rfl (Nat.le_of_ble_eq_true rfl) (by decide) (by decide)) (fun r13 h13 => ?_)
    exact v_retWi (x := r13) hB hK hR dX10_lift_16

def f_X10_negative (p1 : Int32) (h : pq_H) : Option (Int32 × pq_H) :=
  if (f_X6_lacks p1 h) = true then (bd2 (f_X10_refuse (-1) h) fun r13 h13 => some (r13, h13)) else (bd2 (f_X6_bringNegative p1 h) fun r23 h23 => bd2 (f_X10_cameOr r23 h23) fun r26 h26 => some (r26, h26))
set_option maxRecDepth 100000 in
set_option maxHeartbeats 4000000 in
theorem c_X10_negative (g : pq_g) {A : Nat → Prop} (hA : pq_A (SC g) A) (l : Launch) (p1 : Int32) (h : pq_H) {rr : Int32} {hh : pq_H} (e : f_X10_negative p1 h = some (rr, hh)) : pq_M (SC g) A l yX10_negative cX10_negative 2 (some .int) 4 92 [.ref ((SC g).1.2.1 55), .int p1] h (some (.int rr)) hh := by
  refine pq_met hA l (own := RX10) 4 92 _ [(0, .ref ((SC g).1.2.1 55)), (1, .int p1)] h _ hh (by decide +kernel) rfl (Nat.le_of_ble_eq_true rfl) rfl (fun X hXl hXA hB hK hR => ?_)
  refine V.cast (F' := f_X10_negative p1 h) (res' := (rr, hh)) (fun _ => e) ?_
  unfold f_X10_negative
  refine v_aload_n hB 0 dX10_negative_0 rfl rfl ?_
  refine v_getA hB hK (fl_X10_10 g) (cCA_55_0 g) dX10_negative_1 ?_
  refine v_iload_n hB 1 dX10_negative_4 rfl rfl ?_
  refine v_bT (v_callV hB hK hR.rm [.int p1] [] (oC_56 g) lb_X6_lacks lv_X10_107 (c_X6_lacks g hK.A X.1.2.1 p1 h) dX10_negative_5 rfl rfl (Nat.le_of_ble_eq_true rfl) (by decide) (by decide)) ?_
  refine v_ifz_eq (r := f_X6_lacks p1 h) (tgt := 17) hB dX10_negative_8 rfl ?_ ?_
  · refine v_aload_n hB 0 dX10_negative_17 rfl rfl ?_
    refine v_aload_n hB 0 dX10_negative_18 rfl rfl ?_
    refine v_getA hB hK (fl_X10_10 g) (cCA_55_0 g) dX10_negative_19 ?_
    refine v_iload_n hB 1 dX10_negative_22 rfl rfl ?_
    refine v_bWz (fun r23 h23 e23 => v_callV hB hK hR.rm [.int p1] [.ref ((SC g).1.2.1 55)] (oC_56 g) lb_X6_bringNegative lv_X10_253 (c_X6_bringNegative g hK.A X.1.2.1 p1 h e23) dX10_negative_23 rfl rfl (Nat.le_of_ble_eq_true rfl) (by decide) (by decide)) (fun r23 h23 => ?_)
    refine v_bWi (fun r26 h26 e26 => v_callV hB hK hR.rm [.int (b2i r23)] [] (oC_55 g) lb_X10_cameOr lv_X10_94 (c_X10_cameOr g hK.A X.1.2.1 r23 h23 e26) dX10_negative_26 rfl rfl (Nat.le_of_ble_eq_true rfl) (by decide) (by decide)) (fun r26 h26 => ?_)
    exact v_retWi (x := r26) hB hK hR dX10_negative_29
  · refine v_aload_n hB 0 dX10_negative_11 rfl rfl ?_
    refine v_iconst hB (-1) dX10_negative_12 (by decide) ?_
    refine v_bWi (fun r13 h13 e13 => v_callV hB hK hR.rm [.int (-1)] [] (oC_55 g) lb_X10_refuse lv_X10_69 (c_X10_refuse g hK.A X.1.2.1 (-1) h e13) dX10_negative_13 rfl rfl (Nat.le_of_ble_eq_true rfl) (by decide) (by decide)) (fun r13 h13 => ?_)
    exact v_retWi (x := r13) hB hK hR dX10_negative_16

def f_X10_on_j18 (h : pq_H) : Option (Int32 × pq_H) :=
  bd2 (f_X10_refuse (-1) h) fun r20 h20 => some (r20, h20)
def f_X10_on (p1 : Int32) (p2 : Int32) (h : pq_H) : Option (Int32 × pq_H) :=
  if (f_X6_lacks p1 h) = true then (f_X10_on_j18 h) else (if (f_X10_isSide p2) = true then (bd2 (f_X6_bringOn p1 p2 h) fun r31 h31 => bd2 (f_X10_cameOr r31 h31) fun r34 h34 => some (r34, h34)) else (f_X10_on_j18 h))
set_option maxRecDepth 100000 in
set_option maxHeartbeats 4000000 in
theorem c_X10_on (g : pq_g) {A : Nat → Prop} (hA : pq_A (SC g) A) (l : Launch) (p1 : Int32) (p2 : Int32) (h : pq_H) {rr : Int32} {hh : pq_H} (e : f_X10_on p1 p2 h = some (rr, hh)) : pq_M (SC g) A l yX10_on cX10_on 3 (some .int) 4 92 [.ref ((SC g).1.2.1 55), .int p1, .int p2] h (some (.int rr)) hh := by
  refine pq_met hA l (own := RX10) 4 92 _ [(0, .ref ((SC g).1.2.1 55)), (1, .int p1), (2, .int p2)] h _ hh (by decide +kernel) rfl (Nat.le_of_ble_eq_true rfl) rfl (fun X hXl hXA hB hK hR => ?_)
  refine V.cast (F' := f_X10_on p1 p2 h) (res' := (rr, hh)) (fun _ => e) ?_
  have hn18 : ∀ (h : pq_H), V X (SC g) (rr, hh) 3 18 [(0, .ref ((SC g).1.2.1 55))] [] h (f_X10_on_j18 h) := by
    intro h
    unfold f_X10_on_j18
    refine v_aload_n hB 0 dX10_on_18 rfl rfl ?_
    refine v_iconst hB (-1) dX10_on_19 (by decide) ?_
    refine v_bWi (fun r20 h20 e20 => v_callV hB hK hR.rm [.int (-1)] [] (oC_55 g) lb_X10_refuse lv_X10_69 (c_X10_refuse g hK.A X.1.2.1 (-1) h e20) dX10_on_20 rfl rfl (Nat.le_of_ble_eq_true rfl) (by decide) (by decide)) (fun r20 h20 => ?_)
    exact v_retWi (x := r20) hB hK hR dX10_on_23
  unfold f_X10_on
  refine v_aload_n hB 0 dX10_on_0 rfl rfl ?_
  refine v_getA hB hK (fl_X10_10 g) (cCA_55_0 g) dX10_on_1 ?_
  refine v_iload_n hB 1 dX10_on_4 rfl rfl ?_
  refine v_bT (v_callV hB hK hR.rm [.int p1] [] (oC_56 g) lb_X6_lacks lv_X10_107 (c_X6_lacks g hK.A X.1.2.1 p1 h) dX10_on_5 rfl rfl (Nat.le_of_ble_eq_true rfl) (by decide) (by decide)) ?_
  refine v_ifz_ne (r := f_X6_lacks p1 h) (tgt := 18) hB dX10_on_8 rfl ?_ ?_
  · exact V.sub [0] rfl (hn18 h)
  · refine v_iload_n hB 2 dX10_on_11 rfl rfl ?_
    refine v_bT (v_callS hB hK hR.rm [.int p2] [] lb_X10_isSide lv_X10_166 (c_X10_isSide g hK.A X.1.2.1 p2 h) dX10_on_12 rfl rfl (Nat.le_of_ble_eq_true rfl) (by decide) (by decide)) ?_
    refine v_ifz_ne (r := f_X10_isSide p2) (tgt := 24) hB dX10_on_15 rfl ?_ ?_
    · refine v_aload_n hB 0 dX10_on_24 rfl rfl ?_
      refine v_aload_n hB 0 dX10_on_25 rfl rfl ?_
      refine v_getA hB hK (fl_X10_10 g) (cCA_55_0 g) dX10_on_26 ?_
      refine v_iload_n hB 1 dX10_on_29 rfl rfl ?_
      refine v_iload_n hB 2 dX10_on_30 rfl rfl ?_
      refine v_bWz (fun r31 h31 e31 => v_callV hB hK hR.rm [.int p1, .int p2] [.ref ((SC g).1.2.1 55)] (oC_56 g) lb_X6_bringOn lv_X10_256 (c_X6_bringOn g hK.A X.1.2.1 p1 p2 h e31) dX10_on_31 rfl rfl (Nat.le_of_ble_eq_true rfl) (by decide) (by decide)) (fun r31 h31 => ?_)
      refine v_bWi (fun r34 h34 e34 => v_callV hB hK hR.rm [.int (b2i r31)] [] (oC_55 g) lb_X10_cameOr lv_X10_94 (c_X10_cameOr g hK.A X.1.2.1 r31 h31 e34) dX10_on_34 rfl rfl (Nat.le_of_ble_eq_true rfl) (by decide) (by decide)) (fun r34 h34 => ?_)
      exact v_retWi (x := r34) hB hK hR dX10_on_37
    · exact V.sub [0] rfl (hn18 h)

def f_X10_spelled (p1 : Int32) (p2 : Int32) (h : pq_H) : Option (Int32 × pq_H) :=
  if (f_X6_lacks p1 h) = true then (bd2 (f_X10_refuse (-1) h) fun r13 h13 => some (r13, h13)) else (if (-1) ≤ p2 then (gd (inb p1 6) ((f_X7_spell p1.toNatClampNeg p2 h).bind fun h43 => if p2 = (-1) then (some (rI h43 70 0, h43)) else (some (rI h43 70 1, h43)))) else (bd2 (f_X10_refuse (-4) h) fun r25 h25 => some (r25, h25)))
set_option maxRecDepth 100000 in
set_option maxHeartbeats 4000000 in
theorem c_X10_spelled (g : pq_g) {A : Nat → Prop} (hA : pq_A (SC g) A) (l : Launch) (p1 : Int32) (p2 : Int32) (h : pq_H) {rr : Int32} {hh : pq_H} (e : f_X10_spelled p1 p2 h = some (rr, hh)) : pq_M (SC g) A l yX10_spelled cX10_spelled 3 (some .int) 4 94 [.ref ((SC g).1.2.1 55), .int p1, .int p2] h (some (.int rr)) hh := by
  refine pq_met hA l (own := RX10) 4 94 _ [(0, .ref ((SC g).1.2.1 55)), (1, .int p1), (2, .int p2)] h _ hh (by decide +kernel) rfl (Nat.le_of_ble_eq_true rfl) rfl (fun X hXl hXA hB hK hR => ?_)
  refine V.cast (F' := f_X10_spelled p1 p2 h) (res' := (rr, hh)) (fun _ => e) ?_
  unfold f_X10_spelled
  refine v_aload_n hB 0 dX10_spelled_0 rfl rfl ?_
  refine v_getA hB hK (fl_X10_10 g) (cCA_55_0 g) dX10_spelled_1 ?_
  refine v_iload_n hB 1 dX10_spelled_4 rfl rfl ?_
  refine v_bT (v_callV hB hK hR.rm [.int p1] [] (oC_56 g) lb_X6_lacks lv_X10_107 (c_X6_lacks g hK.A X.1.2.1 p1 h) dX10_spelled_5 rfl rfl (Nat.le_of_ble_eq_true rfl) (by decide) (by decide)) ?_
  refine v_ifz_eq (r := f_X6_lacks p1 h) (tgt := 17) hB dX10_spelled_8 rfl ?_ ?_
  · refine v_iload_n hB 2 dX10_spelled_17 rfl rfl ?_
    refine v_iconst hB (-1) dX10_spelled_18 (by decide) ?_
    refine v_icmp_ge (tgt := 29) hB dX10_spelled_19 rfl ?_ ?_
    · refine v_aload_n hB 0 dX10_spelled_29 rfl rfl ?_
      refine v_getA hB hK (fl_X10_40 g) (cCA_55_4 g) dX10_spelled_30 ?_
      refine v_aload_n hB 0 dX10_spelled_33 rfl rfl ?_
      refine v_getA hB hK (fl_X10_10 g) (cCA_55_0 g) dX10_spelled_34 ?_
      refine v_getA hB hK (fl_X10_85 g) (cCA_56_0 g) dX10_spelled_37 ?_
      refine v_iload_n hB 1 dX10_spelled_40 rfl rfl ?_
      refine v_aa57 hB hK dX10_spelled_41 (fun q41 => ?_)
      refine v_iload_n hB 2 dX10_spelled_42 rfl rfl ?_
      refine v_bV (fun h43 e43 => v_callV hB hK hR.rm [.ref ((SC g).1.2.1 p1.toNatClampNeg), .int p2] [] (oC_70 g) lb_X7_spell lv_X10_259 (c_X7_spell g hK.A X.1.2.1 p1.toNatClampNeg (lt6_12 q41) p2 h e43) dX10_spelled_43 rfl rfl (Nat.le_of_ble_eq_true rfl) (by decide) (by decide)) (fun h43 => ?_)
      refine v_iload_n hB 2 dX10_spelled_46 rfl rfl ?_
      refine v_iconst hB (-1) dX10_spelled_47 (by decide) ?_
      refine v_icmp_ne (tgt := 61) hB dX10_spelled_48 rfl ?_ ?_
      · refine v_aload_n hB 0 dX10_spelled_61 rfl rfl ?_
        refine v_getA hB hK (fl_X10_40 g) (cCA_55_4 g) dX10_spelled_62 ?_
        refine v_getI hB hK (fl_X10_266 g) (cCI_70_1 g) dX10_spelled_65 ?_
        exact v_retWi (x := rI h43 70 1) hB hK hR dX10_spelled_68
      · refine v_aload_n hB 0 dX10_spelled_51 rfl rfl ?_
        refine v_getA hB hK (fl_X10_40 g) (cCA_55_4 g) dX10_spelled_52 ?_
        refine v_getI hB hK (fl_X10_263 g) (cCI_70_0 g) dX10_spelled_55 ?_
        refine v_goto (tgt := 68) hB dX10_spelled_58 rfl ?_
        exact v_retWi (x := rI h43 70 0) hB hK hR dX10_spelled_68
    · refine v_aload_n hB 0 dX10_spelled_22 rfl rfl ?_
      refine v_bipush hB (-4) dX10_spelled_23 (by decide) ?_
      refine v_bWi (fun r25 h25 e25 => v_callV hB hK hR.rm [.int (-4)] [] (oC_55 g) lb_X10_refuse lv_X10_69 (c_X10_refuse g hK.A X.1.2.1 (-4) h e25) dX10_spelled_25 rfl rfl (Nat.le_of_ble_eq_true rfl) (by decide) (by decide)) (fun r25 h25 => ?_)
      exact v_retWi (x := r25) hB hK hR dX10_spelled_28
  · refine v_aload_n hB 0 dX10_spelled_11 rfl rfl ?_
    refine v_iconst hB (-1) dX10_spelled_12 (by decide) ?_
    refine v_bWi (fun r13 h13 e13 => v_callV hB hK hR.rm [.int (-1)] [] (oC_55 g) lb_X10_refuse lv_X10_69 (c_X10_refuse g hK.A X.1.2.1 (-1) h e13) dX10_spelled_13 rfl rfl (Nat.le_of_ble_eq_true rfl) (by decide) (by decide)) (fun r13 h13 => ?_)
    exact v_retWi (x := r13) hB hK hR dX10_spelled_16

def f_X10_list (p1 : Int32) (p2 : Int32) (h : pq_H) : Option (Int32 × pq_H) :=
  if (f_X10_notBelow p1 3) = true then (bd2 (f_X10_refuse (-1) h) fun r10 h10 => some (r10, h10)) else (if p2 ≤ 40 then (if 0 ≤ p2 then ((f_X4_renew p1 p2 h).bind fun h40 => some (1, h40)) else (some ((-14), h))) else (bd2 (f_X10_refuse (-6) h) fun r23 h23 => some (r23, h23)))
set_option maxRecDepth 100000 in
set_option maxHeartbeats 4000000 in
theorem c_X10_list (g : pq_g) {A : Nat → Prop} (hA : pq_A (SC g) A) (l : Launch) (p1 : Int32) (p2 : Int32) (h : pq_H) {rr : Int32} {hh : pq_H} (e : f_X10_list p1 p2 h = some (rr, hh)) : pq_M (SC g) A l yX10_list cX10_list 3 (some .int) 1 23 [.ref ((SC g).1.2.1 55), .int p1, .int p2] h (some (.int rr)) hh := by
  refine pq_met hA l (own := RX10) 1 23 _ [(0, .ref ((SC g).1.2.1 55)), (1, .int p1), (2, .int p2)] h _ hh (by decide +kernel) rfl (Nat.le_of_ble_eq_true rfl) rfl (fun X hXl hXA hB hK hR => ?_)
  refine V.cast (F' := f_X10_list p1 p2 h) (res' := (rr, hh)) (fun _ => e) ?_
  unfold f_X10_list
  refine v_iload_n hB 1 dX10_list_0 rfl rfl ?_
  refine v_iconst hB 3 dX10_list_1 (by decide) ?_
  refine v_bT (v_callS hB hK hR.rm [.int p1, .int 3] [] lb_X10_notBelow lv_X10_128 (c_X10_notBelow g hK.A X.1.2.1 p1 3 h) dX10_list_2 rfl rfl (Nat.le_of_ble_eq_true rfl) (by decide) (by decide)) ?_
  refine v_ifz_eq (r := f_X10_notBelow p1 3) (tgt := 14) hB dX10_list_5 rfl ?_ ?_
  · refine v_iload_n hB 2 dX10_list_14 rfl rfl ?_
    refine v_bipush hB 40 dX10_list_15 (by decide) ?_
    refine v_icmp_le (tgt := 27) hB dX10_list_17 rfl ?_ ?_
    · refine v_iload_n hB 2 dX10_list_27 rfl rfl ?_
      refine v_if_ge (tgt := 34) hB dX10_list_28 rfl ?_ ?_
      · refine v_aload_n hB 0 dX10_list_34 rfl rfl ?_
        refine v_getA hB hK (fl_X10_61 g) (cCA_55_7 g) dX10_list_35 ?_
        refine v_iload_n hB 1 dX10_list_38 rfl rfl ?_
        refine v_iload_n hB 2 dX10_list_39 rfl rfl ?_
        refine v_bV (fun h40 e40 => v_callV hB hK hR.rm [.int p1, .int p2] [] (oC_79 g) lb_X4_renew lv_X10_273 (c_X4_renew g hK.A X.1.2.1 p1 p2 h e40) dX10_list_40 rfl rfl (Nat.le_of_ble_eq_true rfl) (by decide) (by decide)) (fun h40 => ?_)
        refine v_iconst hB 1 dX10_list_43 (by decide) ?_
        exact v_retWi (x := 1) hB hK hR dX10_list_44
      · refine v_bipush hB (-14) dX10_list_31 (by decide) ?_
        exact v_retWi (x := (-14)) hB hK hR dX10_list_33
    · refine v_aload_n hB 0 dX10_list_20 rfl rfl ?_
      refine v_bipush hB (-6) dX10_list_21 (by decide) ?_
      refine v_bWi (fun r23 h23 e23 => v_callV hB hK hR.rm [.int (-6)] [] (oC_55 g) lb_X10_refuse lv_X10_69 (c_X10_refuse g hK.A X.1.2.1 (-6) h e23) dX10_list_23 rfl rfl (Nat.le_of_ble_eq_true rfl) (by decide) (by decide)) (fun r23 h23 => ?_)
      exact v_retWi (x := r23) hB hK hR dX10_list_26
  · refine v_aload_n hB 0 dX10_list_8 rfl rfl ?_
    refine v_iconst hB (-1) dX10_list_9 (by decide) ?_
    refine v_bWi (fun r10 h10 e10 => v_callV hB hK hR.rm [.int (-1)] [] (oC_55 g) lb_X10_refuse lv_X10_69 (c_X10_refuse g hK.A X.1.2.1 (-1) h e10) dX10_list_10 rfl rfl (Nat.le_of_ble_eq_true rfl) (by decide) (by decide)) (fun r10 h10 => ?_)
    exact v_retWi (x := r10) hB hK hR dX10_list_13

def f_X10_put (p1 : Int32) (p2 : Int32) (p3 : Int32) (h : pq_H) : Option (Int32 × pq_H) :=
  if (f_X10_notBelow p1 3) = true then (bd2 (f_X10_refuse (-1) h) fun r10 h10 => some (r10, h10)) else ((f_X4_misses p1 h).bind fun r19 => if r19 = true then (some ((-11), h)) else (gd (inb p1 3) (if (f_X10_notBelow p2 (rI h 81 p1.toNatClampNeg)) = true then (some ((-13), h)) else (gd (inb p1 3) (gd (inb p2 40) (some (1, wI h (52 + p1.toNatClampNeg) p2.toNatClampNeg p3)))))))
set_option maxRecDepth 100000 in
set_option maxHeartbeats 4000000 in
theorem c_X10_put (g : pq_g) {A : Nat → Prop} (hA : pq_A (SC g) A) (l : Launch) (p1 : Int32) (p2 : Int32) (p3 : Int32) (h : pq_H) {rr : Int32} {hh : pq_H} (e : f_X10_put p1 p2 p3 h = some (rr, hh)) : pq_M (SC g) A l yX10_put cX10_put 4 (some .int) 1 21 [.ref ((SC g).1.2.1 55), .int p1, .int p2, .int p3] h (some (.int rr)) hh := by
  refine pq_met hA l (own := RX10) 1 21 _ [(0, .ref ((SC g).1.2.1 55)), (1, .int p1), (2, .int p2), (3, .int p3)] h _ hh (by decide +kernel) rfl (Nat.le_of_ble_eq_true rfl) rfl (fun X hXl hXA hB hK hR => ?_)
  refine V.cast (F' := f_X10_put p1 p2 p3 h) (res' := (rr, hh)) (fun _ => e) ?_
  unfold f_X10_put
  refine v_iload_n hB 1 dX10_put_0 rfl rfl ?_
  refine v_iconst hB 3 dX10_put_1 (by decide) ?_
  refine v_bT (v_callS hB hK hR.rm [.int p1, .int 3] [] lb_X10_notBelow lv_X10_128 (c_X10_notBelow g hK.A X.1.2.1 p1 3 h) dX10_put_2 rfl rfl (Nat.le_of_ble_eq_true rfl) (by decide) (by decide)) ?_
  refine v_ifz_eq (r := f_X10_notBelow p1 3) (tgt := 14) hB dX10_put_5 rfl ?_ ?_
  · refine v_aload_n hB 0 dX10_put_14 rfl rfl ?_
    refine v_getA hB hK (fl_X10_61 g) (cCA_55_7 g) dX10_put_15 ?_
    refine v_iload_n hB 1 dX10_put_18 rfl rfl ?_
    refine v_bRz (fun r19 e19 => v_callV hB hK hR.rm [.int p1] [] (oC_79 g) lb_X4_misses lv_X10_211 (c_X4_misses g hK.A X.1.2.1 p1 h e19) dX10_put_19 rfl rfl (Nat.le_of_ble_eq_true rfl) (by decide) (by decide)) (fun r19 => ?_)
    refine v_ifz_eq (r := r19) (tgt := 28) hB dX10_put_22 rfl ?_ ?_
    · refine v_iload_n hB 2 dX10_put_28 rfl rfl ?_
      refine v_aload_n hB 0 dX10_put_29 rfl rfl ?_
      refine v_getA hB hK (fl_X10_61 g) (cCA_55_7 g) dX10_put_30 ?_
      refine v_getA hB hK (fl_X10_217 g) (cCA_79_1 g) dX10_put_33 ?_
      refine v_iload_n hB 1 dX10_put_36 rfl rfl ?_
      refine v_iald hB hK (aCI_81 g) dX10_put_37 ?_
      refine v_bT (v_callS hB hK hR.rm [.int p2, .int (rI h 81 p1.toNatClampNeg)] [] lb_X10_notBelow lv_X10_128 (c_X10_notBelow g hK.A X.1.2.1 p2 (rI h 81 p1.toNatClampNeg) h) dX10_put_38 rfl rfl (Nat.le_of_ble_eq_true rfl) (by decide) (by decide)) ?_
      refine v_ifz_eq (r := f_X10_notBelow p2 (rI h 81 p1.toNatClampNeg)) (tgt := 47) hB dX10_put_41 rfl ?_ ?_
      · refine v_aload_n hB 0 dX10_put_47 rfl rfl ?_
        refine v_getA hB hK (fl_X10_61 g) (cCA_55_7 g) dX10_put_48 ?_
        refine v_getA hB hK (fl_X10_276 g) (cCA_79_0 g) dX10_put_51 ?_
        refine v_iload_n hB 1 dX10_put_54 rfl rfl ?_
        refine v_aa80 hB hK dX10_put_55 (fun q55 => ?_)
        refine v_iload_n hB 2 dX10_put_56 rfl rfl ?_
        refine v_iload_n hB 3 dX10_put_57 rfl rfl ?_
        refine v_iast hB hK (aI_lrow g p1.toNatClampNeg q55) dX10_put_58 ?_
        refine v_iconst hB 1 dX10_put_59 (by decide) ?_
        exact v_retWi (x := 1) hB hK hR dX10_put_60
      · refine v_bipush hB (-13) dX10_put_44 (by decide) ?_
        exact v_retWi (x := (-13)) hB hK hR dX10_put_46
    · refine v_bipush hB (-11) dX10_put_25 (by decide) ?_
      exact v_retWi (x := (-11)) hB hK hR dX10_put_27
  · refine v_aload_n hB 0 dX10_put_8 rfl rfl ?_
    refine v_iconst hB (-1) dX10_put_9 (by decide) ?_
    refine v_bWi (fun r10 h10 e10 => v_callV hB hK hR.rm [.int (-1)] [] (oC_55 g) lb_X10_refuse lv_X10_69 (c_X10_refuse g hK.A X.1.2.1 (-1) h e10) dX10_put_10 rfl rfl (Nat.le_of_ble_eq_true rfl) (by decide) (by decide)) (fun r10 h10 => ?_)
    exact v_retWi (x := r10) hB hK hR dX10_put_13

def f_X10_look (p1 : Int32) (p2 : Int32) (h : pq_H) : Option (Int64 × pq_H) :=
  if (f_X10_notBelow p1 3) = true then (bd2 (f_X10_refuseFar (-1) h) fun r10 h10 => some (r10, h10)) else ((f_X4_misses p1 h).bind fun r19 => if r19 = true then (bd2 (f_X10_refuseFar (-11) h) fun r28 h28 => some (r28, h28)) else (gd (inb p1 3) (if (f_X10_notBelow p2 (rI h 81 p1.toNatClampNeg)) = true then (bd2 (f_X10_refuseFar (-13) h) fun r51 h51 => some (r51, h51)) else (gd (inb p1 3) (gd (inb p2 40) (some ((rI h (52 + p1.toNatClampNeg) p2.toNatClampNeg).toInt64, h)))))))
set_option maxRecDepth 100000 in
set_option maxHeartbeats 4000000 in
theorem c_X10_look (g : pq_g) {A : Nat → Prop} (hA : pq_A (SC g) A) (l : Launch) (p1 : Int32) (p2 : Int32) (h : pq_H) {rr : Int64} {hh : pq_H} (e : f_X10_look p1 p2 h = some (rr, hh)) : pq_M (SC g) A l yX10_look cX10_look 3 (some .long) 2 42 [.ref ((SC g).1.2.1 55), .int p1, .int p2] h (some (.long rr)) hh := by
  refine pq_met hA l (own := RX10) 2 42 _ [(0, .ref ((SC g).1.2.1 55)), (1, .int p1), (2, .int p2)] h _ hh (by decide +kernel) rfl (Nat.le_of_ble_eq_true rfl) rfl (fun X hXl hXA hB hK hR => ?_)
  refine V.cast (F' := f_X10_look p1 p2 h) (res' := (rr, hh)) (fun _ => e) ?_
  unfold f_X10_look
  refine v_iload_n hB 1 dX10_look_0 rfl rfl ?_
  refine v_iconst hB 3 dX10_look_1 (by decide) ?_
  refine v_bT (v_callS hB hK hR.rm [.int p1, .int 3] [] lb_X10_notBelow lv_X10_128 (c_X10_notBelow g hK.A X.1.2.1 p1 3 h) dX10_look_2 rfl rfl (Nat.le_of_ble_eq_true rfl) (by decide) (by decide)) ?_
  refine v_ifz_eq (r := f_X10_notBelow p1 3) (tgt := 14) hB dX10_look_5 rfl ?_ ?_
  · refine v_aload_n hB 0 dX10_look_14 rfl rfl ?_
    refine v_getA hB hK (fl_X10_61 g) (cCA_55_7 g) dX10_look_15 ?_
    refine v_iload_n hB 1 dX10_look_18 rfl rfl ?_
    refine v_bRz (fun r19 e19 => v_callV hB hK hR.rm [.int p1] [] (oC_79 g) lb_X4_misses lv_X10_211 (c_X4_misses g hK.A X.1.2.1 p1 h e19) dX10_look_19 rfl rfl (Nat.le_of_ble_eq_true rfl) (by decide) (by decide)) (fun r19 => ?_)
    refine v_ifz_eq (r := r19) (tgt := 32) hB dX10_look_22 rfl ?_ ?_
    · refine v_iload_n hB 2 dX10_look_32 rfl rfl ?_
      refine v_aload_n hB 0 dX10_look_33 rfl rfl ?_
      refine v_getA hB hK (fl_X10_61 g) (cCA_55_7 g) dX10_look_34 ?_
      refine v_getA hB hK (fl_X10_217 g) (cCA_79_1 g) dX10_look_37 ?_
      refine v_iload_n hB 1 dX10_look_40 rfl rfl ?_
      refine v_iald hB hK (aCI_81 g) dX10_look_41 ?_
      refine v_bT (v_callS hB hK hR.rm [.int p2, .int (rI h 81 p1.toNatClampNeg)] [] lb_X10_notBelow lv_X10_128 (c_X10_notBelow g hK.A X.1.2.1 p2 (rI h 81 p1.toNatClampNeg) h) dX10_look_42 rfl rfl (Nat.le_of_ble_eq_true rfl) (by decide) (by decide)) ?_
      refine v_ifz_eq (r := f_X10_notBelow p2 (rI h 81 p1.toNatClampNeg)) (tgt := 55) hB dX10_look_45 rfl ?_ ?_
      · refine v_aload_n hB 0 dX10_look_55 rfl rfl ?_
        refine v_getA hB hK (fl_X10_61 g) (cCA_55_7 g) dX10_look_56 ?_
        refine v_getA hB hK (fl_X10_276 g) (cCA_79_0 g) dX10_look_59 ?_
        refine v_iload_n hB 1 dX10_look_62 rfl rfl ?_
        refine v_aa80 hB hK dX10_look_63 (fun q63 => ?_)
        refine v_iload_n hB 2 dX10_look_64 rfl rfl ?_
        refine v_iald hB hK (aI_lrow g p1.toNatClampNeg q63) dX10_look_65 ?_
        refine v_i2l hB dX10_look_66 ?_
        exact v_retWj (x := (rI h (52 + p1.toNatClampNeg) p2.toNatClampNeg).toInt64) hB hK hR dX10_look_67
      · refine v_aload_n hB 0 dX10_look_48 rfl rfl ?_
        refine v_bipush hB (-13) dX10_look_49 (by decide) ?_
        refine v_bWj (fun r51 h51 e51 => v_callV hB hK hR.rm [.int (-13)] [] (oC_55 g) lb_X10_refuseFar lv_X10_152 (c_X10_refuseFar g hK.A X.1.2.1 (-13) h e51) dX10_look_51 rfl rfl (Nat.le_of_ble_eq_true rfl) (by decide) (by decide)) (fun r51 h51 => ?_)
        exact v_retWj (x := r51) hB hK hR dX10_look_54
    · refine v_aload_n hB 0 dX10_look_25 rfl rfl ?_
      refine v_bipush hB (-11) dX10_look_26 (by decide) ?_
      refine v_bWj (fun r28 h28 e28 => v_callV hB hK hR.rm [.int (-11)] [] (oC_55 g) lb_X10_refuseFar lv_X10_152 (c_X10_refuseFar g hK.A X.1.2.1 (-11) h e28) dX10_look_28 rfl rfl (Nat.le_of_ble_eq_true rfl) (by decide) (by decide)) (fun r28 h28 => ?_)
      exact v_retWj (x := r28) hB hK hR dX10_look_31
  · refine v_aload_n hB 0 dX10_look_8 rfl rfl ?_
    refine v_iconst hB (-1) dX10_look_9 (by decide) ?_
    refine v_bWj (fun r10 h10 e10 => v_callV hB hK hR.rm [.int (-1)] [] (oC_55 g) lb_X10_refuseFar lv_X10_152 (c_X10_refuseFar g hK.A X.1.2.1 (-1) h e10) dX10_look_10 rfl rfl (Nat.le_of_ble_eq_true rfl) (by decide) (by decide)) (fun r10 h10 => ?_)
    exact v_retWj (x := r10) hB hK hR dX10_look_13

def f_X10_undo (h : pq_H) : Option (Int32 × pq_H) :=
  if 0 < (rI h 74 0) then ((f_X8_takeBack h).bind fun h25 => some (rI h25 74 0, h25)) else (bd2 (f_X10_refuse (-3) h) fun r13 h13 => some (r13, h13))
set_option maxRecDepth 100000 in
set_option maxHeartbeats 4000000 in
theorem c_X10_undo (g : pq_g) {A : Nat → Prop} (hA : pq_A (SC g) A) (l : Launch) (h : pq_H) {rr : Int32} {hh : pq_H} (e : f_X10_undo h = some (rr, hh)) : pq_M (SC g) A l yX10_undo cX10_undo 1 (some .int) 3 64 [.ref ((SC g).1.2.1 55)] h (some (.int rr)) hh := by
  refine pq_met hA l (own := RX10) 3 64 _ [(0, .ref ((SC g).1.2.1 55))] h _ hh (by decide +kernel) rfl (Nat.le_of_ble_eq_true rfl) rfl (fun X hXl hXA hB hK hR => ?_)
  refine V.cast (F' := f_X10_undo h) (res' := (rr, hh)) (fun _ => e) ?_
  unfold f_X10_undo
  refine v_aload_n hB 0 dX10_undo_0 rfl rfl ?_
  refine v_getA hB hK (fl_X10_54 g) (cCA_55_6 g) dX10_undo_1 ?_
  refine v_getI hB hK (fl_X10_105 g) (cCI_74_0 g) dX10_undo_4 ?_
  refine v_if_gt (tgt := 17) hB dX10_undo_7 rfl ?_ ?_
  · refine v_aload_n hB 0 dX10_undo_17 rfl rfl ?_
    refine v_getA hB hK (fl_X10_54 g) (cCA_55_6 g) dX10_undo_18 ?_
    refine v_aload_n hB 0 dX10_undo_21 rfl rfl ?_
    refine v_getA hB hK (fl_X10_10 g) (cCA_55_0 g) dX10_undo_22 ?_
    refine v_bV (fun h25 e25 => v_callV hB hK hR.rm [.ref ((SC g).1.2.1 56)] [] (oC_74 g) lb_X8_takeBack lv_X10_280 (c_X8_takeBack g hK.A X.1.2.1 h e25) dX10_undo_25 rfl rfl (Nat.le_of_ble_eq_true rfl) (by decide) (by decide)) (fun h25 => ?_)
    refine v_aload_n hB 0 dX10_undo_28 rfl rfl ?_
    refine v_getA hB hK (fl_X10_54 g) (cCA_55_6 g) dX10_undo_29 ?_
    refine v_getI hB hK (fl_X10_105 g) (cCI_74_0 g) dX10_undo_32 ?_
    exact v_retWi (x := rI h25 74 0) hB hK hR dX10_undo_35
  · refine v_aload_n hB 0 dX10_undo_10 rfl rfl ?_
    refine v_bipush hB (-3) dX10_undo_11 (by decide) ?_
    refine v_bWi (fun r13 h13 e13 => v_callV hB hK hR.rm [.int (-3)] [] (oC_55 g) lb_X10_refuse lv_X10_69 (c_X10_refuse g hK.A X.1.2.1 (-3) h e13) dX10_undo_13 rfl rfl (Nat.le_of_ble_eq_true rfl) (by decide) (by decide)) (fun r13 h13 => ?_)
    exact v_retWi (x := r13) hB hK hR dX10_undo_16

def f_X10_image (h : pq_H) : Option (Int32 × pq_H) :=
  (f_X6_keepImage h).bind fun h4 => some (rI h4 56 3, h4)
set_option maxRecDepth 100000 in
set_option maxHeartbeats 4000000 in
theorem c_X10_image (g : pq_g) {A : Nat → Prop} (hA : pq_A (SC g) A) (l : Launch) (h : pq_H) {rr : Int32} {hh : pq_H} (e : f_X10_image h = some (rr, hh)) : pq_M (SC g) A l yX10_image cX10_image 1 (some .int) 2 43 [.ref ((SC g).1.2.1 55)] h (some (.int rr)) hh := by
  refine pq_met hA l (own := RX10) 2 43 _ [(0, .ref ((SC g).1.2.1 55))] h _ hh (by decide +kernel) rfl (Nat.le_of_ble_eq_true rfl) rfl (fun X hXl hXA hB hK hR => ?_)
  refine V.cast (F' := f_X10_image h) (res' := (rr, hh)) (fun _ => e) ?_
  unfold f_X10_image
  refine v_aload_n hB 0 dX10_image_0 rfl rfl ?_
  refine v_getA hB hK (fl_X10_10 g) (cCA_55_0 g) dX10_image_1 ?_
  refine v_bV (fun h4 e4 => v_callV hB hK hR.rm [] [] (oC_56 g) lb_X6_keepImage lv_X10_284 (c_X6_keepImage g hK.A X.1.2.1 h e4) dX10_image_4 rfl rfl (Nat.le_of_ble_eq_true rfl) (by decide) (by decide)) (fun h4 => ?_)
  refine v_aload_n hB 0 dX10_image_7 rfl rfl ?_
  refine v_getA hB hK (fl_X10_10 g) (cCA_55_0 g) dX10_image_8 ?_
  refine v_getI hB hK (fl_X10_89 g) (cCI_56_3 g) dX10_image_11 ?_
  exact v_retWi (x := rI h4 56 3) hB hK hR dX10_image_14

def f_X10_back (h : pq_H) : Option (Int32 × pq_H) :=
  if 0 ≤ (rI h 56 4) then ((f_X6_restoreImage h).bind fun h21 => hl (wI h21 74 0 0) fun h29 => some (rI h29 56 3, h29)) else (bd2 (f_X10_refuse (-3) h) fun r13 h13 => some (r13, h13))
set_option maxRecDepth 100000 in
set_option maxHeartbeats 4000000 in
theorem c_X10_back (g : pq_g) {A : Nat → Prop} (hA : pq_A (SC g) A) (l : Launch) (h : pq_H) {rr : Int32} {hh : pq_H} (e : f_X10_back h = some (rr, hh)) : pq_M (SC g) A l yX10_back cX10_back 1 (some .int) 2 43 [.ref ((SC g).1.2.1 55)] h (some (.int rr)) hh := by
  refine pq_met hA l (own := RX10) 2 43 _ [(0, .ref ((SC g).1.2.1 55))] h _ hh (by decide +kernel) rfl (Nat.le_of_ble_eq_true rfl) rfl (fun X hXl hXA hB hK hR => ?_)
  refine V.cast (F' := f_X10_back h) (res' := (rr, hh)) (fun _ => e) ?_
  unfold f_X10_back
  refine v_aload_n hB 0 dX10_back_0 rfl rfl ?_
  refine v_getA hB hK (fl_X10_10 g) (cCA_55_0 g) dX10_back_1 ?_
  refine v_getI hB hK (fl_X10_287 g) (cCI_56_4 g) dX10_back_4 ?_
  refine v_if_ge (tgt := 17) hB dX10_back_7 rfl ?_ ?_
  · refine v_aload_n hB 0 dX10_back_17 rfl rfl ?_
    refine v_getA hB hK (fl_X10_10 g) (cCA_55_0 g) dX10_back_18 ?_
    refine v_bV (fun h21 e21 => v_callV hB hK hR.rm [] [] (oC_56 g) lb_X6_restoreImage lv_X10_290 (c_X6_restoreImage g hK.A X.1.2.1 h e21) dX10_back_21 rfl rfl (Nat.le_of_ble_eq_true rfl) (by decide) (by decide)) (fun h21 => ?_)
    refine v_aload_n hB 0 dX10_back_24 rfl rfl ?_
    refine v_getA hB hK (fl_X10_54 g) (cCA_55_6 g) dX10_back_25 ?_
    refine v_iconst hB 0 dX10_back_28 (by decide) ?_
    refine v_putI hB hK (fl_X10_105 g) (fin_X8_0 g) (cCI_74_0 g) dX10_back_29 ?_
    refine v_hl (fun h29 => ?_)
    refine v_aload_n hB 0 dX10_back_32 rfl rfl ?_
    refine v_getA hB hK (fl_X10_10 g) (cCA_55_0 g) dX10_back_33 ?_
    refine v_getI hB hK (fl_X10_89 g) (cCI_56_3 g) dX10_back_36 ?_
    exact v_retWi (x := rI h29 56 3) hB hK hR dX10_back_39
  · refine v_aload_n hB 0 dX10_back_10 rfl rfl ?_
    refine v_bipush hB (-3) dX10_back_11 (by decide) ?_
    refine v_bWi (fun r13 h13 e13 => v_callV hB hK hR.rm [.int (-3)] [] (oC_55 g) lb_X10_refuse lv_X10_69 (c_X10_refuse g hK.A X.1.2.1 (-3) h e13) dX10_back_13 rfl rfl (Nat.le_of_ble_eq_true rfl) (by decide) (by decide)) (fun r13 h13 => ?_)
    exact v_retWi (x := r13) hB hK hR dX10_back_16

def f_X10_count (p1 : Int32) (h : pq_H) : Option Int32 :=
  if p1 = 0 then (some (rI h 56 3)) else (if p1 = 1 then (some (rI h 61 1)) else (if p1 = 2 then ((f_X6_termsOfAll h).bind fun r56 => some r56) else (if p1 = 3 then (some (rI h 74 0)) else (if p1 = 4 then ((f_X6_clearForms h).bind fun r72 => some r72) else (if p1 < 11 then (some (-9)) else (if 16 < p1 then (some (-9)) else (gd (inb (p1 - 10) 7) (some (rI h 82 (p1 - 10).toNatClampNeg)))))))))
set_option maxRecDepth 100000 in
set_option maxHeartbeats 4000000 in
theorem c_X10_count (g : pq_g) {A : Nat → Prop} (hA : pq_A (SC g) A) (l : Launch) (p1 : Int32) (h : pq_H) {rr : Int32} (e : f_X10_count p1 h = some rr) : pq_M (SC g) A l yX10_count cX10_count 2 (some .int) 5 113 [.ref ((SC g).1.2.1 55), .int p1] h (some (.int rr)) h := by
  refine pq_met hA l (own := RX10) 5 113 _ [(0, .ref ((SC g).1.2.1 55)), (1, .int p1)] h _ h (by decide +kernel) rfl (Nat.le_of_ble_eq_true rfl) rfl (fun X hXl hXA hB hK hR => ?_)
  refine V.cast (F' := f_X10_count p1 h) (res' := rr) (fun _ => e) ?_
  unfold f_X10_count
  refine v_iload_n hB 1 dX10_count_0 rfl rfl ?_
  refine v_tcase (tgt := 36) hB 0 dX10_count_1 (by decide) (by decide) rfl rfl ?_ (fun n1_0 => ?_)
  · refine v_aload_n hB 0 dX10_count_36 rfl rfl ?_
    refine v_getA hB hK (fl_X10_10 g) (cCA_55_0 g) dX10_count_37 ?_
    refine v_getI hB hK (fl_X10_89 g) (cCI_56_3 g) dX10_count_40 ?_
    exact v_retRi (x := rI h 56 3) hB hK hR dX10_count_43
  · refine v_tcase (tgt := 44) hB 1 dX10_count_1 (by decide) (by decide) rfl rfl ?_ (fun n1_1 => ?_)
    · refine v_aload_n hB 0 dX10_count_44 rfl rfl ?_
      refine v_getA hB hK (fl_X10_19 g) (cCA_55_1 g) dX10_count_45 ?_
      refine v_getI hB hK (fl_X10_73 g) (cCI_61_1 g) dX10_count_48 ?_
      exact v_retRi (x := rI h 61 1) hB hK hR dX10_count_51
    · refine v_tcase (tgt := 52) hB 2 dX10_count_1 (by decide) (by decide) rfl rfl ?_ (fun n1_2 => ?_)
      · refine v_aload_n hB 0 dX10_count_52 rfl rfl ?_
        refine v_getA hB hK (fl_X10_10 g) (cCA_55_0 g) dX10_count_53 ?_
        refine v_bRi (fun r56 e56 => v_callV hB hK hR.rm [] [] (oC_56 g) lb_X6_termsOfAll lv_X10_293 (c_X6_termsOfAll g hK.A X.1.2.1 h e56) dX10_count_56 rfl rfl (Nat.le_of_ble_eq_true rfl) (by decide) (by decide)) (fun r56 => ?_)
        exact v_retRi (x := r56) hB hK hR dX10_count_59
      · refine v_tcase (tgt := 60) hB 3 dX10_count_1 (by decide) (by decide) rfl rfl ?_ (fun n1_3 => ?_)
        · refine v_aload_n hB 0 dX10_count_60 rfl rfl ?_
          refine v_getA hB hK (fl_X10_54 g) (cCA_55_6 g) dX10_count_61 ?_
          refine v_getI hB hK (fl_X10_105 g) (cCI_74_0 g) dX10_count_64 ?_
          exact v_retRi (x := rI h 74 0) hB hK hR dX10_count_67
        · refine v_tcase (tgt := 68) hB 4 dX10_count_1 (by decide) (by decide) rfl rfl ?_ (fun n1_4 => ?_)
          · refine v_aload_n hB 0 dX10_count_68 rfl rfl ?_
            refine v_getA hB hK (fl_X10_10 g) (cCA_55_0 g) dX10_count_69 ?_
            refine v_bRi (fun r72 e72 => v_callV hB hK hR.rm [] [] (oC_56 g) lb_X6_clearForms lv_X10_297 (c_X6_clearForms g hK.A X.1.2.1 h e72) dX10_count_72 rfl rfl (Nat.le_of_ble_eq_true rfl) (by decide) (by decide)) (fun r72 => ?_)
            exact v_retRi (x := r72) hB hK hR dX10_count_75
          · refine v_tdef (tgt := 76) hB dX10_count_1 (by have z0 := lv_neT n1_0 (a := 0) (by decide); have z1 := lv_neT n1_1 (a := 1) (by decide); have z2 := lv_neT n1_2 (a := 2) (by decide); have z3 := lv_neT n1_3 (a := 3) (by decide); have z4 := lv_neT n1_4 (a := 4) (by decide); omega) rfl ?_
            refine v_iload_n hB 1 dX10_count_76 rfl rfl ?_
            refine v_bipush hB 11 dX10_count_77 (by decide) ?_
            refine v_icmp_lt (tgt := 100) hB dX10_count_79 rfl ?_ ?_
            · refine v_bipush hB (-9) dX10_count_100 (by decide) ?_
              exact v_retRi (x := (-9)) hB hK hR dX10_count_102
            · refine v_iload_n hB 1 dX10_count_82 rfl rfl ?_
              refine v_bipush hB 16 dX10_count_83 (by decide) ?_
              refine v_icmp_gt (tgt := 100) hB dX10_count_85 rfl ?_ ?_
              · refine v_bipush hB (-9) dX10_count_100 (by decide) ?_
                exact v_retRi (x := (-9)) hB hK hR dX10_count_102
              · refine v_aload_n hB 0 dX10_count_88 rfl rfl ?_
                refine v_getA hB hK (fl_X10_65 g) (cCA_55_8 g) dX10_count_89 ?_
                refine v_iload_n hB 1 dX10_count_92 rfl rfl ?_
                refine v_bipush hB 10 dX10_count_93 (by decide) ?_
                refine v_isub hB dX10_count_95 ?_
                refine v_iald hB hK (aCI_82 g) dX10_count_96 ?_
                refine v_goto (tgt := 102) hB dX10_count_97 rfl ?_
                exact v_retRi (x := rI h 82 (p1 - 10).toNatClampNeg) hB hK hR dX10_count_102

def f_L_cell (sc0 : Nat × (Nat → Int32)) (p1 : Int32) : Option Int32 :=
  if (Int32.ofNat sc0.1) ≤ p1 then (some ((7919 * p1) + 12)) else (gd (inb p1 sc0.1) (some (sc0.2 p1.toNatClampNeg)))
set_option maxRecDepth 100000 in
set_option maxHeartbeats 4000000 in
theorem c_L_cell (g : pq_g) {A : Nat → Prop} (hA : pq_A (SC g) A) (l : Launch) (p1 : Int32) (h : pq_H) {rr : Int32} (e : f_L_cell g.2.2.2.2 p1 = some rr) : pq_M (SC g) A l yL_cell cL_cell 2 (some .int) 0 0 [.ref g.2.2.2.1, .int p1] h (some (.int rr)) h := by
  refine pq_met hA l (own := RL) 0 0 _ [(0, .ref g.2.2.2.1), (1, .int p1)] h _ h (by decide +kernel) rfl (Nat.le_of_ble_eq_true rfl) rfl (fun X hXl hXA hB hK hR => ?_)
  refine V.cast (F' := f_L_cell g.2.2.2.2 p1) (res' := rr) (fun _ => e) ?_
  unfold f_L_cell
  refine v_iload_n hB 1 dL_cell_0 rfl rfl ?_
  refine v_aload_n hB 0 dL_cell_1 rfl rfl ?_
  refine v_slen hB hK dL_cell_2 ?_
  refine v_icmp_ge (tgt := 12) hB dL_cell_3 rfl ?_ ?_
  · refine v_sipush hB 7919 dL_cell_12 (by decide) ?_
    refine v_iload_n hB 1 dL_cell_15 rfl rfl ?_
    refine v_imul hB dL_cell_16 ?_
    refine v_bipush hB 12 dL_cell_17 (by decide) ?_
    refine v_iadd hB dL_cell_19 ?_
    exact v_retRi (x := (7919 * p1) + 12) hB hK hR dL_cell_20
  · refine v_aload_n hB 0 dL_cell_6 rfl rfl ?_
    refine v_iload_n hB 1 dL_cell_7 rfl rfl ?_
    refine v_sld hB hK dL_cell_8 ?_
    refine v_goto (tgt := 20) hB dL_cell_9 rfl ?_
    exact v_retRi (x := g.2.2.2.2.2 p1.toNatClampNeg) hB hK hR dL_cell_20

def f_L_pick (p0 : Int32) (p1 : Int32) : Option Int32 :=
  gd (p1 != 0) (some ((p0 &&& 2147483647) - (p0 &&& 2147483647) / p1 * p1))
set_option maxRecDepth 100000 in
set_option maxHeartbeats 4000000 in
theorem c_L_pick (g : pq_g) {A : Nat → Prop} (hA : pq_A (SC g) A) (l : Launch) (p0 : Int32) (p1 : Int32) (h : pq_H) {rr : Int32} (e : f_L_pick p0 p1 = some rr) : pq_M (SC g) A l yL_pick cL_pick 2 (some .int) 0 0 [.int p0, .int p1] h (some (.int rr)) h := by
  refine pq_met hA l (own := RL) 0 0 _ [(0, .int p0), (1, .int p1)] h _ h (by decide +kernel) rfl (Nat.le_of_ble_eq_true rfl) rfl (fun X hXl hXA hB hK hR => ?_)
  refine V.cast (F' := f_L_pick p0 p1) (res' := rr) (fun _ => e) ?_
  unfold f_L_pick
  refine v_iload_n hB 0 dL_pick_0 rfl rfl ?_
  refine v_ldc hB 2147483647 k_L_7 dL_pick_1 ?_
  refine v_iand hB dL_pick_3 ?_
  refine v_iload_n hB 1 dL_pick_4 rfl rfl ?_
  refine v_iremG hB dL_pick_5 ?_
  exact v_retRi (x := (p0 &&& 2147483647) - (p0 &&& 2147483647) / p1 * p1) hB hK hR dL_pick_6

