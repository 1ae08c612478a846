def f_X10_lots (p1 : Int32) (p2 : Int32) (p3 : Int32) (p4 : Int32) (h : pq_H) : Option (Int32 × pq_H) :=
  if (f_X6_lacks p1 h) = true then (bd2 (f_X10_refuse (-1) h) fun r13 h13 => some (r13, h13)) else (if 1 ≤ p2 then (if p2 ≤ 50 then (if (f_X10_notBelow p4 2) = true then (bd2 (f_X10_refuse (-2) h) fun r54 h54 => some (r54, h54)) else ((f_X10_workOn p1 7 h).bind fun h62 => (f_X10_drawLots p2 p3 p4 h62).bind fun r69 => some (r69, h62))) else (bd2 (f_X10_refuse (-6) h) fun r38 h38 => some (r38, h38))) else (bd2 (f_X10_refuse (-4) h) fun r25 h25 => some (r25, h25)))
set_option maxRecDepth 100000 in
set_option maxHeartbeats 4000000 in
theorem c_X10_lots (g : pq_g) {A : Nat → Prop} (hA : pq_A (SC g) A) (l : Launch) (p1 : Int32) (p2 : Int32) (p3 : Int32) (p4 : Int32) (h : pq_H) {rr : Int32} {hh : pq_H} (e : f_X10_lots p1 p2 p3 p4 h = some (rr, hh)) : pq_M (SC g) A l yX10_lots cX10_lots 5 (some .int) 4 92 [.ref ((SC g).1.2.1 55), .int p1, .int p2, .int p3, .int p4] h (some (.int rr)) hh := by
  refine pq_met hA l (own := RX10) 4 92 _ [(0, .ref ((SC g).1.2.1 55)), (1, .int p1), (2, .int p2), (3, .int p3), (4, .int p4)] h _ hh (by decide +kernel) rfl (Nat.le_of_ble_eq_true rfl) rfl (fun X hXl hXA hB hK hR => ?_)
  refine V.cast (F' := f_X10_lots p1 p2 p3 p4 h) (res' := (rr, hh)) (fun _ => e) ?_
  unfold f_X10_lots
  refine v_aload_n hB 0 dX10_lots_0 rfl rfl ?_
  refine v_getA hB hK (fl_X10_10 g) (cCA_55_0 g) dX10_lots_1 ?_
  refine v_iload_n hB 1 dX10_lots_4 rfl rfl ?_
  refine v_bT (v_callV hB hK hR.rm [.int p1] [] (oC_56 g) lb_X6_lacks lv_X10_107 (c_X6_lacks g hK.A X.1.2.1 p1 h) dX10_lots_5 rfl rfl (Nat.le_of_ble_eq_true rfl) (by decide) (by decide)) ?_
  refine v_ifz_eq (r := f_X6_lacks p1 h) (tgt := 17) hB dX10_lots_8 rfl ?_ ?_
  · refine v_iload_n hB 2 dX10_lots_17 rfl rfl ?_
    refine v_iconst hB 1 dX10_lots_18 (by decide) ?_
    refine v_icmp_ge (tgt := 29) hB dX10_lots_19 rfl ?_ ?_
    · refine v_iload_n hB 2 dX10_lots_29 rfl rfl ?_
      refine v_bipush hB 50 dX10_lots_30 (by decide) ?_
      refine v_icmp_le (tgt := 42) hB dX10_lots_32 rfl ?_ ?_
      · refine v_iload hB 4 dX10_lots_42 rfl ?_
        refine v_iconst hB 2 dX10_lots_44 (by decide) ?_
        refine v_bT (v_callS hB hK hR.rm [.int p4, .int 2] [] lb_X10_notBelow lv_X10_128 (c_X10_notBelow g hK.A X.1.2.1 p4 2 h) dX10_lots_45 rfl rfl (Nat.le_of_ble_eq_true rfl) (by decide) (by decide)) ?_
        refine v_ifz_eq (r := f_X10_notBelow p4 2) (tgt := 58) hB dX10_lots_48 rfl ?_ ?_
        · refine v_aload_n hB 0 dX10_lots_58 rfl rfl ?_
          refine v_iload_n hB 1 dX10_lots_59 rfl rfl ?_
          refine v_bipush hB 7 dX10_lots_60 (by decide) ?_
          refine v_bVr (fun h62 e62 => v_callV hB hK hR.rm [.int p1, .int 7] [] (oC_55 g) lb_X10_workOn lv_X10_156 (c_X10_workOn g hK.A X.1.2.1 p1 7 h e62) dX10_lots_62 rfl rfl (Nat.le_of_ble_eq_true rfl) (by decide) (by decide)) (fun h62 => ?_)
          refine v_iload_n hB 2 dX10_lots_65 rfl rfl ?_
          refine v_iload_n hB 3 dX10_lots_66 rfl rfl ?_
          refine v_iload hB 4 dX10_lots_67 rfl ?_
          refine v_bRi (fun r69 e69 => v_callS hB hK hR.rm [.ref ((SC g).1.2.1 59), .int p2, .int p3, .int p4] [] lb_X10_drawLots lv_X10_269 (c_X10_drawLots g hK.A X.1.2.1 p2 p3 p4 h62 e69) dX10_lots_69 rfl rfl (Nat.le_of_ble_eq_true rfl) (by decide) (by decide)) (fun r69 => ?_)
          exact v_retWi (x := r69) hB hK hR dX10_lots_72
        · refine v_aload_n hB 0 dX10_lots_51 rfl rfl ?_
          refine v_bipush hB (-2) dX10_lots_52 (by decide) ?_
          refine v_bWi (fun r54 h54 e54 => v_callV hB hK hR.rm [.int (-2)] [] (oC_55 g) lb_X10_refuse lv_X10_69 (c_X10_refuse g hK.A X.1.2.1 (-2) h e54) dX10_lots_54 rfl rfl (Nat.le_of_ble_eq_true rfl) (by decide) (by decide)) (fun r54 h54 => ?_)
          exact v_retWi (x := r54) hB hK hR dX10_lots_57
      · refine v_aload_n hB 0 dX10_lots_35 rfl rfl ?_
        refine v_bipush hB (-6) dX10_lots_36 (by decide) ?_
        refine v_bWi (fun r38 h38 e38 => v_callV hB hK hR.rm [.int (-6)] [] (oC_55 g) lb_X10_refuse lv_X10_69 (c_X10_refuse g hK.A X.1.2.1 (-6) h e38) dX10_lots_38 rfl rfl (Nat.le_of_ble_eq_true rfl) (by decide) (by decide)) (fun r38 h38 => ?_)
        exact v_retWi (x := r38) hB hK hR dX10_lots_41
    · refine v_aload_n hB 0 dX10_lots_22 rfl rfl ?_
      refine v_bipush hB (-4) dX10_lots_23 (by decide) ?_
      refine v_bWi (fun r25 h25 e25 => v_callV hB hK hR.rm [.int (-4)] [] (oC_55 g) lb_X10_refuse lv_X10_69 (c_X10_refuse g hK.A X.1.2.1 (-4) h e25) dX10_lots_25 rfl rfl (Nat.le_of_ble_eq_true rfl) (by decide) (by decide)) (fun r25 h25 => ?_)
      exact v_retWi (x := r25) hB hK hR dX10_lots_28
  · refine v_aload_n hB 0 dX10_lots_11 rfl rfl ?_
    refine v_iconst hB (-1) dX10_lots_12 (by decide) ?_
    refine v_bWi (fun r13 h13 e13 => v_callV hB hK hR.rm [.int (-1)] [] (oC_55 g) lb_X10_refuse lv_X10_69 (c_X10_refuse g hK.A X.1.2.1 (-1) h e13) dX10_lots_13 rfl rfl (Nat.le_of_ble_eq_true rfl) (by decide) (by decide)) (fun r13 h13 => ?_)
    exact v_retWi (x := r13) hB hK hR dX10_lots_16

def f_X10_list (p1 : Int32) (p2 : Int32) (h : pq_H) : Option (Int32 × pq_H) :=
  if (f_X10_notBelow p1 3) = true then (bd2 (f_X10_refuse (-1) h) fun r10 h10 => some (r10, h10)) else (if p2 ≤ 40 then (if 0 ≤ p2 then ((f_X4_renew p1 p2 h).bind fun h40 => some (1, h40)) else (some ((-14), h))) else (bd2 (f_X10_refuse (-6) h) fun r23 h23 => some (r23, h23)))
set_option maxRecDepth 100000 in
set_option maxHeartbeats 4000000 in
theorem c_X10_list (g : pq_g) {A : Nat → Prop} (hA : pq_A (SC g) A) (l : Launch) (p1 : Int32) (p2 : Int32) (h : pq_H) {rr : Int32} {hh : pq_H} (e : f_X10_list p1 p2 h = some (rr, hh)) : pq_M (SC g) A l yX10_list cX10_list 3 (some .int) 1 23 [.ref ((SC g).1.2.1 55), .int p1, .int p2] h (some (.int rr)) hh := by
  refine pq_met hA l (own := RX10) 1 23 _ [(0, .ref ((SC g).1.2.1 55)), (1, .int p1), (2, .int p2)] h _ hh (by decide +kernel) rfl (Nat.le_of_ble_eq_true rfl) rfl (fun X hXl hXA hB hK hR => ?_)
  refine V.cast (F' := f_X10_list p1 p2 h) (res' := (rr, hh)) (fun _ => e) ?_
  unfold f_X10_list
  refine v_iload_n hB 1 dX10_list_0 rfl rfl ?_
  refine v_iconst hB 3 dX10_list_1 (by decide) ?_
  refine v_bT (v_callS hB hK hR.rm [.int p1, .int 3] [] lb_X10_notBelow lv_X10_128 (c_X10_notBelow g hK.A X.1.2.1 p1 3 h) dX10_list_2 rfl rfl (Nat.le_of_ble_eq_true rfl) (by decide) (by decide)) ?_
  refine v_ifz_eq (r := f_X10_notBelow p1 3) (tgt := 14) hB dX10_list_5 rfl ?_ ?_
  · refine v_iload_n hB 2 dX10_list_14 rfl rfl ?_
    refine v_bipush hB 40 dX10_list_15 (by decide) ?_
    refine v_icmp_le (tgt := 27) hB dX10_list_17 rfl ?_ ?_
    · refine v_iload_n hB 2 dX10_list_27 rfl rfl ?_
      refine v_if_ge (tgt := 34) hB dX10_list_28 rfl ?_ ?_
      · refine v_aload_n hB 0 dX10_list_34 rfl rfl ?_
        refine v_getA hB hK (fl_X10_61 g) (cCA_55_7 g) dX10_list_35 ?_
        refine v_iload_n hB 1 dX10_list_38 rfl rfl ?_
        refine v_iload_n hB 2 dX10_list_39 rfl rfl ?_
        refine v_bV (fun h40 e40 => v_callV hB hK hR.rm [.int p1, .int p2] [] (oC_79 g) lb_X4_renew lv_X10_273 (c_X4_renew g hK.A X.1.2.1 p1 p2 h e40) dX10_list_40 rfl rfl (Nat.le_of_ble_eq_true rfl) (by decide) (by decide)) (fun h40 => ?_)
        refine v_iconst hB 1 dX10_list_43 (by decide) ?_
        exact v_retWi (x := 1) hB hK hR dX10_list_44
      · refine v_bipush hB (-14) dX10_list_31 (by decide) ?_
        exact v_retWi (x := (-14)) hB hK hR dX10_list_33
    · refine v_aload_n hB 0 dX10_list_20 rfl rfl ?_
      refine v_bipush hB (-6) dX10_list_21 (by decide) ?_
      refine v_bWi (fun r23 h23 e23 => v_callV hB hK hR.rm [.int (-6)] [] (oC_55 g) lb_X10_refuse lv_X10_69 (c_X10_refuse g hK.A X.1.2.1 (-6) h e23) dX10_list_23 rfl rfl (Nat.le_of_ble_eq_true rfl) (by decide) (by decide)) (fun r23 h23 => ?_)
      exact v_retWi (x := r23) hB hK hR dX10_list_26
  · refine v_aload_n hB 0 dX10_list_8 rfl rfl ?_
    refine v_iconst hB (-1) dX10_list_9 (by decide) ?_
    refine v_bWi (fun r10 h10 e10 => v_callV hB hK hR.rm [.int (-1)] [] (oC_55 g) lb_X10_refuse lv_X10_69 (c_X10_refuse g hK.A X.1.2.1 (-1) h e10) dX10_list_10 rfl rfl (Nat.le_of_ble_eq_true rfl) (by decide) (by decide)) (fun r10 h10 => ?_)
    exact v_retWi (x := r10) hB hK hR dX10_list_13

def f_X10_put (p1 : Int32) (p2 : Int32) (p3 : Int32) (h : pq_H) : Option (Int32 × pq_H) :=
  if (f_X10_notBelow p1 3) = true then (bd2 (f_X10_refuse (-1) h) fun r10 h10 => some (r10, h10)) else ((f_X4_misses p1 h).bind fun r19 => if r19 = true then (some ((-11), h)) else (gd (inb p1 3) (if (f_X10_notBelow p2 (rI h 81 p1.toNatClampNeg)) = true then (some ((-13), h)) else (gd (inb p1 3) (gd (inb p2 40) (some (1, wI h (52 + p1.toNatClampNeg) p2.toNatClampNeg p3)))))))
set_option maxRecDepth 100000 in
set_option maxHeartbeats 4000000 in
theorem c_X10_put (g : pq_g) {A : Nat → Prop} (hA : pq_A (SC g) A) (l : Launch) (p1 : Int32) (p2 : Int32) (p3 : Int32) (h : pq_H) {rr : Int32} {hh : pq_H} (e : f_X10_put p1 p2 p3 h = some (rr, hh)) : pq_M (SC g) A l yX10_put cX10_put 4 (some .int) 1 21 [.ref ((SC g).1.2.1 55), .int p1, .int p2, .int p3] h (some (.int rr)) hh := by
  refine pq_met hA l (own := RX10) 1 21 _ [(0, .ref ((SC g).1.2.1 55)), (1, .int p1), (2, .int p2), (3, .int p3)] h _ hh (by decide +kernel) rfl (Nat.le_of_ble_eq_true rfl) rfl (fun X hXl hXA hB hK hR => ?_)
  refine V.cast (F' := f_X10_put p1 p2 p3 h) (res' := (rr, hh)) (fun _ => e) ?_
  unfold f_X10_put
  refine v_iload_n hB 1 dX10_put_0 rfl rfl ?_
  refine v_iconst hB 3 dX10_put_1 (by decide) ?_
  refine v_bT (v_callS hB hK hR.rm [.int p1, .int 3] [] lb_X10_notBelow lv_X10_128 (c_X10_notBelow g hK.A X.1.2.1 p1 3 h) dX10_put_2 rfl rfl (Nat.le_of_ble_eq_true rfl) (by decide) (by decide)) ?_
  refine v_ifz_eq (r := f_X10_notBelow p1 3) (tgt := 14) hB dX10_put_5 rfl ?_ ?_
  · refine v_aload_n hB 0 dX10_put_14 rfl rfl ?_
    refine v_getA hB hK (fl_X10_61 g) (cCA_55_7 g) dX10_put_15 ?_
    refine v_iload_n hB 1 dX10_put_18 rfl rfl ?_
    refine v_bRz (fun r19 e19 => v_callV hB hK hR.rm [.int p1] [] (oC_79 g) lb_X4_misses lv_X10_211 (c_X4_misses g hK.A X.1.2.1 p1 h e19) dX10_put_19 rfl rfl (Nat.le_of_ble_eq_true rfl) (by decide) (by decide)) (fun r19 => ?_)
    refine v_ifz_eq (r := r19) (tgt := 28) hB dX10_put_22 rfl ?_ ?_
    · refine v_iload_n hB 2 dX10_put_28 rfl rfl ?_
      refine v_aload_n hB 0 dX10_put_29 rfl rfl ?_
      refine v_getA hB hK (fl_X10_61 g) (cCA_55_7 g) dX10_put_30 ?_
      refine v_getA hB hK (fl_X10_217 g) (cCA_79_1 g) dX10_put_33 ?_
      refine v_iload_n hB 1 dX10_put_36 rfl rfl ?_
      refine v_iald hB hK (aCI_81 g) dX10_put_37 ?_
      refine v_bT (v_callS hB hK hR.rm [.int p2, .int (rI h 81 p1.toNatClampNeg)] [] lb_X10_notBelow lv_X10_128 (c_X10_notBelow g hK.A X.1.2.1 p2 (rI h 81 p1.toNatClampNeg) h) dX10_put_38 rfl rfl (Nat.le_of_ble_eq_true rfl) (by decide) (by decide)) ?_
      refine v_ifz_eq (r := f_X10_notBelow p2 (rI h 81 p1.toNatClampNeg)) (tgt := 47) hB dX10_put_41 rfl ?_ ?_
      · refine v_aload_n hB 0 dX10_put_47 rfl rfl ?_
        refine v_getA hB hK (fl_X10_61 g) (cCA_55_7 g) dX10_put_48 ?_
        refine v_getA hB hK (fl_X10_276 g) (cCA_79_0 g) dX10_put_51 ?_
        refine v_iload_n hB 1 dX10_put_54 rfl rfl ?_
        refine v_aa80 hB hK dX10_put_55 (fun q55 => ?_)
        refine v_iload_n hB 2 dX10_put_56 rfl rfl ?_
        refine v_iload_n hB 3 dX10_put_57 rfl rfl ?_
        refine v_iast hB hK (aI_lrow g p1.toNatClampNeg q55) dX10_put_58 ?_
        refine v_iconst hB 1 dX10_put_59 (by decide) ?_
        exact v_retWi (x := 1) hB hK hR dX10_put_60
      · refine v_bipush hB (-13) dX10_put_44 (by decide) ?_
        exact v_retWi (x := (-13)) hB hK hR dX10_put_46
    · refine v_bipush hB (-11) dX10_put_25 (by decide) ?_
      exact v_retWi (x := (-11)) hB hK hR dX10_put_27
  · refine v_aload_n hB 0 dX10_put_8 rfl rfl ?_
    refine v_iconst hB (-1) dX10_put_9 (by decide) ?_
    refine v_bWi (fun r10 h10 e10 => v_callV hB hK hR.rm [.int (-1)] [] (oC_55 g) lb_X10_refuse lv_X10_69 (c_X10_refuse g hK.A X.1.2.1 (-1) h e10) dX10_put_10 rfl rfl (Nat.le_of_ble_eq_true rfl) (by decide) (by decide)) (fun r10 h10 => ?_)
    exact v_retWi (x := r10) hB hK hR dX10_put_13

def f_X10_look (p1 : Int32) (p2 : Int32) (h : pq_H) : Option (Int64 × pq_H) :=
  if (f_X10_notBelow p1 3) = true then (bd2 (f_X10_refuseFar (-1) h) fun r10 h10 => some (r10, h10)) else ((f_X4_misses p1 h).bind fun r19 => if r19 = true then (bd2 (f_X10_refuseFar (-11) h) fun r28 h28 => some (r28, h28)) else (gd (inb p1 3) (if (f_X10_notBelow p2 (rI h 81 p1.toNatClampNeg)) = true then (bd2 (f_X10_refuseFar (-13) h) fun r51 h51 => some (r51, h51)) else (gd (inb p1 3) (gd (inb p2 40) (some ((rI h (52 + p1.toNatClampNeg) p2.toNatClampNeg).toInt64, h)))))))
set_option maxRecDepth 100000 in
set_option maxHeartbeats 4000000 in
theorem c_X10_look (g : pq_g) {A : Nat → Prop} (hA : pq_A (SC g) A) (l : Launch) (p1 : Int32) (p2 : Int32) (h : pq_H) {rr : Int64} {hh : pq_H} (e : f_X10_look p1 p2 h = some (rr, hh)) : pq_M (SC g) A l yX10_look cX10_look 3 (some .long) 2 42 [.ref ((SC g).1.2.1 55), .int p1, .int p2] h (some (.long rr)) hh := by
  refine pq_met hA l (own := RX10) 2 42 _ [(0, .ref ((SC g).1.2.1 55)), (1, .int p1), (2, .int p2)] h _ hh (by decide +kernel) rfl (Nat.le_of_ble_eq_true rfl) rfl (fun X hXl hXA hB hK hR => ?_)
  refine V.cast (F' := f_X10_look p1 p2 h) (res' := (rr, hh)) (fun _ => e) ?_
  unfold f_X10_look
  refine v_iload_n hB 1 dX10_look_0 rfl rfl ?_
  refine v_iconst hB 3 dX10_look_1 (by decide) ?_
  refine v_bT (v_callS hB hK hR.rm [.int p1, .int 3] [] lb_X10_notBelow lv_X10_128 (c_X10_notBelow g hK.A X.1.2.1 p1 3 h) dX10_look_2 rfl rfl (Nat.le_of_ble_eq_true rfl) (by decide) (by decide)) ?_
  refine v_ifz_eq (r := f_X10_notBelow p1 3) (tgt := 14) hB dX10_look_5 rfl ?_ ?_
  · refine v_aload_n hB 0 dX10_look_14 rfl rfl ?_
    refine v_getA hB hK (fl_X10_61 g) (cCA_55_7 g) dX10_look_15 ?_
    refine v_iload_n hB 1 dX10_look_18 rfl rfl ?_
    refine v_bRz (fun r19 e19 => v_callV hB hK hR.rm [.int p1] [] (oC_79 g) lb_X4_misses lv_X10_211 (c_X4_misses g hK.A X.1.2.1 p1 h e19) dX10_look_19 rfl rfl (Nat.le_of_ble_eq_true rfl) (by decide) (by decide)) (fun r19 => ?_)
    refine v_ifz_eq (r := r19) (tgt := 32) hB dX10_look_22 rfl ?_ ?_
    · refine v_iload_n hB 2 dX10_look_32 rfl rfl ?_
      refine v_aload_n hB 0 dX10_look_33 rfl rfl ?_
      refine v_getA hB hK (fl_X10_61 g) (cCA_55_7 g) dX10_look_34 ?_
      refine v_getA hB hK (fl_X10_217 g) (cCA_79_1 g) dX10_look_37 ?_
      refine v_iload_n hB 1 dX10_look_40 rfl rfl ?_
      refine v_iald hB hK (aCI_81 g) dX10_look_41 ?_
      refine v_bT (v_callS hB hK hR.rm [.int p2, .int (rI h 81 p1.toNatClampNeg)] [] lb_X10_notBelow lv_X10_128 (c_X10_notBelow g hK.A X.1.2.1 p2 (rI h 81 p1.toNatClampNeg) h) dX10_look_42 rfl rfl (Nat.le_of_ble_eq_true rfl) (by decide) (by decide)) ?_
      refine v_ifz_eq (r := f_X10_notBelow p2 (rI h 81 p1.toNatClampNeg)) (tgt := 55) hB dX10_look_45 rfl ?_ ?_
      · refine v_aload_n hB 0 dX10_look_55 rfl rfl ?_
        refine v_getA hB hK (fl_X10_61 g) (cCA_55_7 g) dX10_look_56 ?_
        refine v_getA hB hK (fl_X10_276 g) (cCA_79_0 g) dX10_look_59 ?_
        refine v_iload_n hB 1 dX10_look_62 rfl rfl ?_
        refine v_aa80 hB hK dX10_look_63 (fun q63 => ?_)
        refine v_iload_n hB 2 dX10_look_64 rfl rfl ?_
        refine v_iald hB hK (aI_lrow g p1.toNatClampNeg q63) dX10_look_65 ?_
        refine v_i2l hB dX10_look_66 ?_
        exact v_retWj (x := (rI h (52 + p1.toNatClampNeg) p2.toNatClampNeg).toInt64) hB hK hR dX10_look_67
      · refine v_aload_n hB 0 dX10_look_48 rfl rfl ?_
        refine v_bipush hB (-13) dX10_look_49 (by decide) ?_
        refine v_bWj (fun r51 h51 e51 => v_callV hB hK hR.rm [.int (-13)] [] (oC_55 g) lb_X10_refuseFar lv_X10_152 (c_X10_refuseFar g hK.A X.1.2.1 (-13) h e51) dX10_look_51 rfl rfl (Nat.le_of_ble_eq_true rfl) (by decide) (by decide)) (fun r51 h51 => ?_)
        exact v_retWj (x := r51) hB hK hR dX10_look_54
    · refine v_aload_n hB 0 dX10_look_25 rfl rfl ?_
      refine v_bipush hB (-11) dX10_look_26 (by decide) ?_
      refine v_bWj (fun r28 h28 e28 => v_callV hB hK hR.rm [.int (-11)] [] (oC_55 g) lb_X10_refuseFar lv_X10_152 (c_X10_refuseFar g hK.A X.1.2.1 (-11) h e28) dX10_look_28 rfl rfl (Nat.le_of_ble_eq_true rfl) (by decide) (by decide)) (fun r28 h28 => ?_)
      exact v_retWj (x := r28) hB hK hR dX10_look_31
  · refine v_aload_n hB 0 dX10_look_8 rfl rfl ?_
    refine v_iconst hB (-1) dX10_look_9 (by decide) ?_
    refine v_bWj (fun r10 h10 e10 => v_callV hB hK hR.rm [.int (-1)] [] (oC_55 g) lb_X10_refuseFar lv_X10_152 (c_X10_refuseFar g hK.A X.1.2.1 (-1) h e10) dX10_look_10 rfl rfl (Nat.le_of_ble_eq_true rfl) (by decide) (by decide)) (fun r10 h10 => ?_)
    exact v_retWj (x := r10) hB hK hR dX10_look_13

def f_X10_lays_j19 (h : pq_H) : Option (Int32 × pq_H) :=
  bd2 (f_X10_refuse (-1) h) fun r21 h21 => some (r21, h21)
def f_X10_lays_l86 (p1 : Int32) (p2 : Int32) (v4 : Nat) (v5 : Int32) (w86 : Int32 → pq_H → Option (Int32 × pq_H)) (v6 : Int32) (h : pq_H) : Option (Int32 × pq_H) :=
  if v5 ≤ v6 then (some (v5, h)) else (gd (inb p1 3) ((f_X1_at v4 v6 h).bind fun r110 => gd (inb (p2 + v6) 40) (w86 (v6 + 1) (wI h (52 + p1.toNatClampNeg) (p2 + v6).toNatClampNeg r110))))
def f_X10_lays (p1 : Int32) (p2 : Int32) (p3 : Int32) (h : pq_H) : Option (Int32 × pq_H) :=
  if (f_X10_notBelow p1 3) = true then (f_X10_lays_j19 h) else (if (f_X6_lacks p3 h) = true then (f_X10_lays_j19 h) else ((f_X4_misses p1 h).bind fun r30 => if r30 = true then (some ((-11), h)) else (gd (inb p3 6) (if p2 < 0 then (some ((-13), h)) else (gd (inb p1 3) (if p2 ≤ ((rI h 81 p1.toNatClampNeg) - (f_X10_termsOf (rI h p3.toNatClampNeg 3))) then (lp (fun _ _ => none) (f_X10_lays_l86 p1 p2 p3.toNatClampNeg (f_X10_termsOf (rI h p3.toNatClampNeg 3))) 1000 0 h) else (some ((-13), h))))))))
set_option maxRecDepth 100000 in
set_option maxHeartbeats 4000000 in
theorem c_X10_lays (g : pq_g) {A : Nat → Prop} (hA : pq_A (SC g) A) (l : Launch) (p1 : Int32) (p2 : Int32) (p3 : Int32) (h : pq_H) {rr : Int32} {hh : pq_H} (e : f_X10_lays p1 p2 p3 h = some (rr, hh)) : pq_M (SC g) A l yX10_lays cX10_lays 7 (some .int) 3 67 [.ref ((SC g).1.2.1 55), .int p1, .int p2, .int p3] h (some (.int rr)) hh := by
  refine pq_met hA l (own := RX10) 3 67 _ [(0, .ref ((SC g).1.2.1 55)), (1, .int p1), (2, .int p2), (3, .int p3)] h _ hh (by decide +kernel) rfl (Nat.le_of_ble_eq_true rfl) rfl (fun X hXl hXA hB hK hR => ?_)
  refine V.cast (F' := f_X10_lays p1 p2 p3 h) (res' := (rr, hh)) (fun _ => e) ?_
  have hn19 : ∀ (h : pq_H), V X (SC g) (rr, hh) 7 19 [(0, .ref ((SC g).1.2.1 55))] [] h (f_X10_lays_j19 h) := by
    intro h
    unfold f_X10_lays_j19
    refine v_aload_n hB 0 dX10_lays_19 rfl rfl ?_
    refine v_iconst hB (-1) dX10_lays_20 (by decide) ?_
    refine v_bWi (fun r21 h21 e21 => v_callV hB hK hR.rm [.int (-1)] [] (oC_55 g) lb_X10_refuse lv_X10_69 (c_X10_refuse g hK.A X.1.2.1 (-1) h e21) dX10_lays_21 rfl rfl (Nat.le_of_ble_eq_true rfl) (by decide) (by decide)) (fun r21 h21 => ?_)
    exact v_retWi (x := r21) hB hK hR dX10_lays_24
  have hn86 : ∀ (v4 : Nat) (hv4 : v4 < 12) (v5 : Int32) (n : Nat), ∀ (v6 : Int32) (h : pq_H), V X (SC g) (rr, hh) 7 86 [(0, .ref ((SC g).1.2.1 55)), (1, .int p1), (2, .int p2), (4, .ref ((SC g).1.2.1 v4)), (5, .int v5), (6, .int v6)] [] h (lp (fun _ _ => none) (f_X10_lays_l86 p1 p2 v4 v5) n v6 h) := by
    intro v4 hv4 v5
    refine lp_ind (fun (w86 : Int32 → pq_H → Option (Int32 × pq_H)) => ∀ (v6 : Int32) (h : pq_H), V X (SC g) (rr, hh) 7 86 [(0, .ref ((SC g).1.2.1 55)), (1, .int p1), (2, .int p2), (4, .ref ((SC g).1.2.1 v4)), (5, .int v5), (6, .int v6)] [] h (w86 v6 h)) (fun _ _ => V.none _ _ _ _) (fun w86 ih86 => ?_)
    intro v6 h
    unfold f_X10_lays_l86
    refine v_iload hB 5 dX10_lays_86 rfl ?_
    refine v_iload hB 4 dX10_lays_88 rfl ?_
    refine v_icmp_ge (tgt := 120) hB dX10_lays_90 rfl ?_ ?_
    · refine v_iload hB 4 dX10_lays_120 rfl ?_
      exact v_retWi (x := v5) hB hK hR dX10_lays_122
    · refine v_aload_n hB 0 dX10_lays_93 rfl rfl ?_
      refine v_getA hB hK (fl_X10_61 g) (cCA_55_7 g) dX10_lays_94 ?_
      refine v_getA hB hK (fl_X10_276 g) (cCA_79_0 g) dX10_lays_97 ?_
      refine v_iload_n hB 1 dX10_lays_100 rfl rfl ?_
      refine v_aa80 hB hK dX10_lays_101 (fun q101 => ?_)
      refine v_iload_n hB 2 dX10_lays_102 rfl rfl ?_
      refine v_iload hB 5 dX10_lays_103 rfl ?_
      refine v_iadd hB dX10_lays_105 ?_
      refine v_aload hB 3 dX10_lays_106 rfl ?_
      refine v_iload hB 5 dX10_lays_108 rfl ?_
      refine v_bRi (fun r110 e110 => v_callV hB hK hR.rm [.int v6] [.int (p2 + v6), .ref ((SC g).1.2.1 (52 + p1.toNatClampNeg))] (o_Form g v4 hv4) lb_X1_at lv_X10_149 (c_X1_at g hK.A X.1.2.1 v4 hv4 v6 h e110) dX10_lays_110 rfl rfl (Nat.le_of_ble_eq_true rfl) (by decide) (by decide)) (fun r110 => ?_)
      refine v_iast hB hK (aI_lrow g p1.toNatClampNeg q101) dX10_lays_113 ?_
      refine v_iinc hB (v6 + 1) [(0, .ref ((SC g).1.2.1 55)), (1, .int p1), (2, .int p2), (4, .ref ((SC g).1.2.1 v4)), (5, .int v5), (6, .int (v6 + 1))] 5 [1, 2, 3, 4, 5, 0] dX10_lays_114 rfl rfl (by decide) rfl ?_
      refine v_goto (tgt := 86) hB dX10_lays_117 rfl ?_
      exact V.sub [0, 1, 2, 3, 4, 5] rfl (ih86 (v6 + 1) (wI h (52 + p1.toNatClampNeg) (p2 + v6).toNatClampNeg r110))
  unfold f_X10_lays
  refine v_iload_n hB 1 dX10_lays_0 rfl rfl ?_
  refine v_iconst hB 3 dX10_lays_1 (by decide) ?_
  refine v_bT (v_callS hB hK hR.rm [.int p1, .int 3] [] lb_X10_notBelow lv_X10_128 (c_X10_notBelow g hK.A X.1.2.1 p1 3 h) dX10_lays_2 rfl rfl (Nat.le_of_ble_eq_true rfl) (by decide) (by decide)) ?_
  refine v_ifz_ne (r := f_X10_notBelow p1 3) (tgt := 19) hB dX10_lays_5 rfl ?_ ?_
  · exact V.sub [0] rfl (hn19 h)
  · refine v_aload_n hB 0 dX10_lays_8 rfl rfl ?_
    refine v_getA hB hK (fl_X10_10 g) (cCA_55_0 g) dX10_lays_9 ?_
    refine v_iload_n hB 3 dX10_lays_12 rfl rfl ?_
    refine v_bT (v_callV hB hK hR.rm [.int p3] [] (oC_56 g) lb_X6_lacks lv_X10_107 (c_X6_lacks g hK.A X.1.2.1 p3 h) dX10_lays_13 rfl rfl (Nat.le_of_ble_eq_true rfl) (by decide) (by decide)) ?_
    refine v_ifz_eq (r := f_X6_lacks p3 h) (tgt := 25) hB dX10_lays_16 rfl ?_ ?_
    · refine v_aload_n hB 0 dX10_lays_25 rfl rfl ?_
      refine v_getA hB hK (fl_X10_61 g) (cCA_55_7 g) dX10_lays_26 ?_
      refine v_iload_n hB 1 dX10_lays_29 rfl rfl ?_
      refine v_bRz (fun r30 e30 => v_callV hB hK hR.rm [.int p1] [] (oC_79 g) lb_X4_misses lv_X10_211 (c_X4_misses g hK.A X.1.2.1 p1 h e30) dX10_lays_30 rfl rfl (Nat.le_of_ble_eq_true rfl) (by decide) (by decide)) (fun r30 => ?_)
      refine v_ifz_eq (r := r30) (tgt := 39) hB dX10_lays_33 rfl ?_ ?_
      · refine v_aload_n hB 0 dX10_lays_39 rfl rfl ?_
        refine v_getA hB hK (fl_X10_10 g) (cCA_55_0 g) dX10_lays_40 ?_
        refine v_getA hB hK (fl_X10_85 g) (cCA_56_0 g) dX10_lays_43 ?_
        refine v_iload_n hB 3 dX10_lays_46 rfl rfl ?_
        refine v_aa57 hB hK dX10_lays_47 (fun q47 => ?_)
        refine v_astore hB [(0, .ref ((SC g).1.2.1 55)), (1, .int p1), (2, .int p2), (3, .int p3), (4, .ref ((SC g).1.2.1 p3.toNatClampNeg))] [1, 2, 3, 4, 0] dX10_lays_48 (by decide) rfl ?_
        refine v_aload hB 4 dX10_lays_50 rfl ?_
        refine v_getI hB hK (fl_X10_137 g) (cI_Form_3 g p3.toNatClampNeg (lt6_12 q47)) dX10_lays_52 ?_
        refine v_bT (v_callS hB hK hR.rm [.int (rI h p3.toNatClampNeg 3)] [] lb_X10_termsOf lv_X10_140 (c_X10_termsOf g hK.A X.1.2.1 (rI h p3.toNatClampNeg 3) h) dX10_lays_55 rfl rfl (Nat.le_of_ble_eq_true rfl) (by decide) (by decide)) ?_
        refine v_istore hB [(0, .ref ((SC g).1.2.1 55)), (1, .int p1), (2, .int p2), (3, .int p3), (4, .ref ((SC g).1.2.1 p3.toNatClampNeg)), (5, .int (f_X10_termsOf (rI h p3.toNatClampNeg 3)))] [1, 2, 3, 4, 5, 0] dX10_lays_58 (by decide) rfl ?_
        refine v_iload_n hB 2 dX10_lays_60 rfl rfl ?_
        refine v_if_lt (tgt := 80) hB dX10_lays_61 rfl ?_ ?_
        · refine v_bipush hB (-13) dX10_lays_80 (by decide) ?_
          exact v_retWi (x := (-13)) hB hK hR dX10_lays_82
        · refine v_iload_n hB 2 dX10_lays_64 rfl rfl ?_
          refine v_aload_n hB 0 dX10_lays_65 rfl rfl ?_
          refine v_getA hB hK (fl_X10_61 g) (cCA_55_7 g) dX10_lays_66 ?_
          refine v_getA hB hK (fl_X10_217 g) (cCA_79_1 g) dX10_lays_69 ?_
          refine v_iload_n hB 1 dX10_lays_72 rfl rfl ?_
          refine v_iald hB hK (aCI_81 g) dX10_lays_73 ?_
          refine v_iload hB 5 dX10_lays_74 rfl ?_
          refine v_isub hB dX10_lays_76 ?_
          refine v_icmp_le (tgt := 83) hB dX10_lays_77 rfl ?_ ?_
          · refine v_iconst hB 0 dX10_lays_83 (by decide) ?_
            refine v_istore hB [(0, .ref ((SC g).1.2.1 55)), (1, .int p1), (2, .int p2), (3, .int p3), (4, .ref ((SC g).1.2.1 p3.toNatClampNeg)), (5, .int (f_X10_termsOf (rI h p3.toNatClampNeg 3))), (6, .int 0)] [1, 2, 3, 4, 5, 6, 0] dX10_lays_84 (by decide) rfl ?_
            exact V.sub [0, 1, 2, 4, 5, 6] rfl (hn86 p3.toNatClampNeg (lt6_12 q47) (f_X10_termsOf (rI h p3.toNatClampNeg 3)) 1000 0 h)
          · refine v_bipush hB (-13) dX10_lays_80 (by decide) ?_
            exact v_retWi (x := (-13)) hB hK hR dX10_lays_82
      · refine v_bipush hB (-11) dX10_lays_36 (by decide) ?_
        exact v_retWi (x := (-11)) hB hK hR dX10_lays_38
    · exact V.sub [0] rfl (hn19 h)

def f_X10_judge_j19 (h : pq_H) : Option (Int32 × pq_H) :=
  bd2 (f_X10_refuse (-1) h) fun r21 h21 => some (r21, h21)
def f_X10_judge_l61 (p1 : Int32) (v3 : Nat) (v4 : Int32) (h : pq_H) (w61 : Int32 → Option (Int32 × pq_H)) (v5 : Int32) : Option (Int32 × pq_H) :=
  gd (inb p1 3) (if (rI h 81 p1.toNatClampNeg) ≤ v5 then (some ((-9), h)) else (if v4 ≤ v5 then (some (v5, h)) else (gd (inb p1 3) (gd (inb v5 40) ((f_X1_at v3 v5 h).bind fun r97 => if (rI h (52 + p1.toNatClampNeg) v5.toNatClampNeg) = r97 then (w61 (v5 + 1)) else (some (v5, h)))))))
def f_X10_judge (p1 : Int32) (p2 : Int32) (h : pq_H) : Option (Int32 × pq_H) :=
  if (f_X10_notBelow p1 3) = true then (f_X10_judge_j19 h) else (if (f_X6_lacks p2 h) = true then (f_X10_judge_j19 h) else ((f_X4_misses p1 h).bind fun r30 => if r30 = true then (some ((-11), h)) else (gd (inb p2 6) (lp (fun _ => none) (f_X10_judge_l61 p1 p2.toNatClampNeg (f_X10_termsOf (rI h p2.toNatClampNeg 3)) h) 1000 0))))
set_option maxRecDepth 100000 in
set_option maxHeartbeats 4000000 in
theorem c_X10_judge (g : pq_g) {A : Nat → Prop} (hA : pq_A (SC g) A) (l : Launch) (p1 : Int32) (p2 : Int32) (h : pq_H) {rr : Int32} {hh : pq_H} (e : f_X10_judge p1 p2 h = some (rr, hh)) : pq_M (SC g) A l yX10_judge cX10_judge 6 (some .int) 3 67 [.ref ((SC g).1.2.1 55), .int p1, .int p2] h (some (.int rr)) hh := by
  refine pq_met hA l (own := RX10) 3 67 _ [(0, .ref ((SC g).1.2.1 55)), (1, .int p1), (2, .int p2)] h _ hh (by decide +kernel) rfl (Nat.le_of_ble_eq_true rfl) rfl (fun X hXl hXA hB hK hR => ?_)
  refine V.cast (F' := f_X10_judge p1 p2 h) (res' := (rr, hh)) (fun _ => e) ?_
  have hn19 : ∀ (h : pq_H), V X (SC g) (rr, hh) 6 19 [(0, .ref ((SC g).1.2.1 55))] [] h (f_X10_judge_j19 h) := by
    intro h
    unfold f_X10_judge_j19
    refine v_aload_n hB 0 dX10_judge_19 rfl rfl ?_
    refine v_iconst hB (-1) dX10_judge_20 (by decide) ?_
    refine v_bWi (fun r21 h21 e21 => v_callV hB hK hR.rm [.int (-1)] [] (oC_55 g) lb_X10_refuse lv_X10_69 (c_X10_refuse g hK.A X.1.2.1 (-1) h e21) dX10_judge_21 rfl rfl (Nat.le_of_ble_eq_true rfl) (by decide) (by decide)) (fun r21 h21 => ?_)
    exact v_retWi (x := r21) hB hK hR dX10_judge_24
  have hn61 : ∀ (v3 : Nat) (hv3 : v3 < 12) (v4 : Int32) (h : pq_H) (n : Nat), ∀ (v5 : Int32), V X (SC g) (rr, hh) 6 61 [(0, .ref ((SC g).1.2.1 55)), (1, .int p1), (3, .ref ((SC g).1.2.1 v3)), (4, .int v4), (5, .int v5)] [] h (lp (fun _ => none) (f_X10_judge_l61 p1 v3 v4 h) n v5) := by
    intro v3 hv3 v4 h
    refine lp_ind (fun (w61 : Int32 → Option (Int32 × pq_H)) => ∀ (v5 : Int32), V X (SC g) (rr, hh) 6 61 [(0, .ref ((SC g).1.2.1 55)), (1, .int p1), (3, .ref ((SC g).1.2.1 v3)), (4, .int v4), (5, .int v5)] [] h (w61 v5)) (fun _ => V.none _ _ _ _) (fun w61 ih61 => ?_)
    intro v5
    unfold f_X10_judge_l61
    refine v_iload hB 4 dX10_judge_61 rfl ?_
    refine v_aload_n hB 0 dX10_judge_63 rfl rfl ?_
    refine v_getA hB hK (fl_X10_61 g) (cCA_55_7 g) dX10_judge_64 ?_
    refine v_getA hB hK (fl_X10_217 g) (cCA_79_1 g) dX10_judge_67 ?_
    refine v_iload_n hB 1 dX10_judge_70 rfl rfl ?_
    refine v_iald hB hK (aCI_81 g) dX10_judge_71 ?_
    refine v_icmp_ge (tgt := 112) hB dX10_judge_72 rfl ?_ ?_
    · refine v_bipush hB (-9) dX10_judge_112 (by decide) ?_
      exact v_retWi (x := (-9)) hB hK hR dX10_judge_114
    · refine v_iload hB 4 dX10_judge_75 rfl ?_
      refine v_iload hB 3 dX10_judge_77 rfl ?_
      refine v_icmp_ge (tgt := 103) hB dX10_judge_79 rfl ?_ ?_
      · refine v_iload hB 4 dX10_judge_103 rfl ?_
        exact v_retWi (x := v5) hB hK hR dX10_judge_105
      · refine v_aload_n hB 0 dX10_judge_82 rfl rfl ?_
        refine v_getA hB hK (fl_X10_61 g) (cCA_55_7 g) dX10_judge_83 ?_
        refine v_getA hB hK (fl_X10_276 g) (cCA_79_0 g) dX10_judge_86 ?_
        refine v_iload_n hB 1 dX10_judge_89 rfl rfl ?_
        refine v_aa80 hB hK dX10_judge_90 (fun q90 => ?_)
        refine v_iload hB 4 dX10_judge_91 rfl ?_
        refine v_iald hB hK (aI_lrow g p1.toNatClampNeg q90) dX10_judge_93 ?_
        refine v_aload_n hB 2 dX10_judge_94 rfl rfl ?_
        refine v_iload hB 4 dX10_judge_95 rfl ?_
        refine v_bRi (fun r97 e97 => v_callV hB hK hR.rm [.int v5] [.int (rI h (52 + p1.toNatClampNeg) v5.toNatClampNeg)] (o_Form g v3 hv3) lb_X1_at lv_X10_149 (c_X1_at g hK.A X.1.2.1 v3 hv3 v5 h e97) dX10_judge_97 rfl rfl (Nat.le_of_ble_eq_true rfl) (by decide) (by decide)) (fun r97 => ?_)
        refine v_icmp_eq (tgt := 106) hB dX10_judge_100 rfl ?_ ?_
        · refine v_iinc hB (v5 + 1) [(0, .ref ((SC g).1.2.1 55)), (1, .int p1), (3, .ref ((SC g).1.2.1 v3)), (4, .int v4), (5, .int (v5 + 1))] 4 [1, 2, 3, 4, 0] dX10_judge_106 rfl rfl (by decide) rfl ?_
          refine v_goto (tgt := 61) hB dX10_judge_109 rfl ?_
          exact V.sub [0, 1, 2, 3, 4] rfl (ih61 (v5 + 1))
        · refine v_iload hB 4 dX10_judge_103 rfl ?_
          exact v_retWi (x := v5) hB hK hR dX10_judge_105
  unfold f_X10_judge
  refine v_iload_n hB 1 dX10_judge_0 rfl rfl ?_
  refine v_iconst hB 3 dX10_judge_1 (by decide) ?_
  refine v_bT (v_callS hB hK hR.rm [.int p1, .int 3] [] lb_X10_notBelow lv_X10_128 (c_X10_notBelow g hK.A X.1.2.1 p1 3 h) dX10_judge_2 rfl rfl (Nat.le_of_ble_eq_true rfl) (by decide) (by decide)) ?_
  refine v_ifz_ne (r := f_X10_notBelow p1 3) (tgt := 19) hB dX10_judge_5 rfl ?_ ?_
  · exact V.sub [0] rfl (hn19 h)
  · refine v_aload_n hB 0 dX10_judge_8 rfl rfl ?_
    refine v_getA hB hK (fl_X10_10 g) (cCA_55_0 g) dX10_judge_9 ?_
    refine v_iload_n hB 2 dX10_judge_12 rfl rfl ?_
    refine v_bT (v_callV hB hK hR.rm [.int p2] [] (oC_56 g) lb_X6_lacks lv_X10_107 (c_X6_lacks g hK.A X.1.2.1 p2 h) dX10_judge_13 rfl rfl (Nat.le_of_ble_eq_true rfl) (by decide) (by decide)) ?_
    refine v_ifz_eq (r := f_X6_lacks p2 h) (tgt := 25) hB dX10_judge_16 rfl ?_ ?_
    · refine v_aload_n hB 0 dX10_judge_25 rfl rfl ?_
      refine v_getA hB hK (fl_X10_61 g) (cCA_55_7 g) dX10_judge_26 ?_
      refine v_iload_n hB 1 dX10_judge_29 rfl rfl ?_
      refine v_bRz (fun r30 e30 => v_callV hB hK hR.rm [.int p1] [] (oC_79 g) lb_X4_misses lv_X10_211 (c_X4_misses g hK.A X.1.2.1 p1 h e30) dX10_judge_30 rfl rfl (Nat.le_of_ble_eq_true rfl) (by decide) (by decide)) (fun r30 => ?_)
      refine v_ifz_eq (r := r30) (tgt := 39) hB dX10_judge_33 rfl ?_ ?_
      · refine v_aload_n hB 0 dX10_judge_39 rfl rfl ?_
        refine v_getA hB hK (fl_X10_10 g) (cCA_55_0 g) dX10_judge_40 ?_
        refine v_getA hB hK (fl_X10_85 g) (cCA_56_0 g) dX10_judge_43 ?_
        refine v_iload_n hB 2 dX10_judge_46 rfl rfl ?_
        refine v_aa57 hB hK dX10_judge_47 (fun q47 => ?_)
        refine v_astore_n hB [(0, .ref ((SC g).1.2.1 55)), (1, .int p1), (2, .int p2), (3, .ref ((SC g).1.2.1 p2.toNatClampNeg))] [1, 2, 3, 0] dX10_judge_48 rfl (by decide) rfl ?_
        refine v_aload_n hB 3 dX10_judge_49 rfl rfl ?_
        refine v_getI hB hK (fl_X10_137 g) (cI_Form_3 g p2.toNatClampNeg (lt6_12 q47)) dX10_judge_50 ?_
        refine v_bT (v_callS hB hK hR.rm [.int (rI h p2.toNatClampNeg 3)] [] lb_X10_termsOf lv_X10_140 (c_X10_termsOf g hK.A X.1.2.1 (rI h p2.toNatClampNeg 3) h) dX10_judge_53 rfl rfl (Nat.le_of_ble_eq_true rfl) (by decide) (by decide)) ?_
        refine v_istore hB [(0, .ref ((SC g).1.2.1 55)), (1, .int p1), (2, .int p2), (3, .ref ((SC g).1.2.1 p2.toNatClampNeg)), (4, .int (f_X10_termsOf (rI h p2.toNatClampNeg 3)))] [1, 2, 3, 4, 0] dX10_judge_56 (by decide) rfl ?_
        refine v_iconst hB 0 dX10_judge_58 (by decide) ?_
        refine v_istore hB [(0, .ref ((SC g).1.2.1 55)), (1, .int p1), (2, .int p2), (3, .ref ((SC g).1.2.1 p2.toNatClampNeg)), (4, .int (f_X10_termsOf (rI h p2.toNatClampNeg 3))), (5, .int 0)] [1, 2, 3, 4, 5, 0] dX10_judge_59 (by decide) rfl ?_
        exact V.sub [0, 1, 3, 4, 5] rfl (hn61 p2.toNatClampNeg (lt6_12 q47) (f_X10_termsOf (rI h p2.toNatClampNeg 3)) h 1000 0)
      · refine v_bipush hB (-11) dX10_judge_36 (by decide) ?_
        exact v_retWi (x := (-11)) hB hK hR dX10_judge_38
    · exact V.sub [0] rfl (hn19 h)

def f_X10_undo (h : pq_H) : Option (Int32 × pq_H) :=
  if 0 < (rI h 74 0) then ((f_X8_takeBack h).bind fun h25 => some (rI h25 74 0, h25)) else (bd2 (f_X10_refuse (-3) h) fun r13 h13 => some (r13, h13))
set_option maxRecDepth 100000 in
set_option maxHeartbeats 4000000 in
theorem c_X10_undo (g : pq_g) {A : Nat → Prop} (hA : pq_A (SC g) A) (l : Launch) (h : pq_H) {rr : Int32} {hh : pq_H} (e : f_X10_undo h = some (rr, hh)) : pq_M (SC g) A l yX10_undo cX10_undo 1 (some .int) 3 64 [.ref ((SC g).1.2.1 55)] h (some (.int rr)) hh := by
  refine pq_met hA l (own := RX10) 3 64 _ [(0, .ref ((SC g).1.2.1 55))] h _ hh (by decide +kernel) rfl (Nat.le_of_ble_eq_true rfl) rfl (fun X hXl hXA hB hK hR => ?_)
  refine V.cast (F' := f_X10_undo h) (res' := (rr, hh)) (fun _ => e) ?_
  unfold f_X10_undo
  refine v_aload_n hB 0 dX10_undo_0 rfl rfl ?_
  refine v_getA hB hK (fl_X10_54 g) (cCA_55_6 g) dX10_undo_1 ?_
  refine v_getI hB hK (fl_X10_105 g) (cCI_74_0 g) dX10_undo_4 ?_
  refine v_if_gt (tgt := 17) hB dX10_undo_7 rfl ?_ ?_
  · refine v_aload_n hB 0 dX10_undo_17 rfl rfl ?_
    refine v_getA hB hK (fl_X10_54 g) (cCA_55_6 g) dX10_undo_18 ?_
    refine v_aload_n hB 0 dX10_undo_21 rfl rfl ?_
    refine v_getA hB hK (fl_X10_10 g) (cCA_55_0 g) dX10_undo_22 ?_
    refine v_bV (fun h25 e25 => v_callV hB hK hR.rm [.ref ((SC g).1.2.1 56)] [] (oC_74 g) lb_X8_takeBack lv_X10_280 (c_X8_takeBack g hK.A X.1.2.1 h e25) dX10_undo_25 rfl rfl (Nat.le_of_ble_eq_true rfl) (by decide) (by decide)) (fun h25 => ?_)
    refine v_aload_n hB 0 dX10_undo_28 rfl rfl ?_
    refine v_getA hB hK (fl_X10_54 g) (cCA_55_6 g) dX10_undo_29 ?_
    refine v_getI hB hK (fl_X10_105 g) (cCI_74_0 g) dX10_undo_32 ?_
    exact v_retWi (x := rI h25 74 0) hB hK hR dX10_undo_35
  · refine v_aload_n hB 0 dX10_undo_10 rfl rfl ?_
    refine v_bipush hB (-3) dX10_undo_11 (by decide) ?_
    refine v_bWi (fun r13 h13 e13 => v_callV hB hK hR.rm [.int (-3)] [] (oC_55 g) lb_X10_refuse lv_X10_69 (c_X10_refuse g hK.A X.1.2.1 (-3) h e13) dX10_undo_13 rfl rfl (Nat.le_of_ble_eq_true rfl) (by decide) (by decide)) (fun r13 h13 => ?_)
    exact v_retWi (x := r13) hB hK hR dX10_undo_16

def f_X10_image (h : pq_H) : Option (Int32 × pq_H) :=
  (f_X6_keepImage h).bind fun h4 => some (rI h4 56 3, h4)
set_option maxRecDepth 100000 in
set_option maxHeartbeats 4000000 in
theorem c_X10_image (g : pq_g) {A : Nat → Prop} (hA : pq_A (SC g) A) (l : Launch) (h : pq_H) {rr : Int32} {hh : pq_H} (e : f_X10_image h = some (rr, hh)) : pq_M (SC g) A l yX10_image cX10_image 1 (some .int) 2 43 [.ref ((SC g).1.2.1 55)] h (some (.int rr)) hh := by
  refine pq_met hA l (own := RX10) 2 43 _ [(0, .ref ((SC g).1.2.1 55))] h _ hh (by decide +kernel) rfl (Nat.le_of_ble_eq_true rfl) rfl (fun X hXl hXA hB hK hR => ?_)
  refine V.cast (F' := f_X10_image h) (res' := (rr, hh)) (fun _ => e) ?_
  unfold f_X10_image
  refine v_aload_n hB 0 dX10_image_0 rfl rfl ?_
  refine v_getA hB hK (fl_X10_10 g) (cCA_55_0 g) dX10_image_1 ?_
  refine v_bV (fun h4 e4 => v_callV hB hK hR.rm [] [] (oC_56 g) lb_X6_keepImage lv_X10_284 (c_X6_keepImage g hK.A X.1.2.1 h e4) dX10_image_4 rfl rfl (Nat.le_of_ble_eq_true rfl) (by decide) (by decide)) (fun h4 => ?_)
  refine v_aload_n hB 0 dX10_image_7 rfl rfl ?_
  refine v_getA hB hK (fl_X10_10 g) (cCA_55_0 g) dX10_image_8 ?_
  refine v_getI hB hK (fl_X10_89 g) (cCI_56_3 g) dX10_image_11 ?_
  exact v_retWi (x := rI h4 56 3) hB hK hR dX10_image_14

def f_X10_back (h : pq_H) : Option (Int32 × pq_H) :=
  if 0 ≤ (rI h 56 4) then ((f_X6_restoreImage h).bind fun h21 => hl (wI h21 74 0 0) fun h29 => some (rI h29 56 3, h29)) else (bd2 (f_X10_refuse (-3) h) fun r13 h13 => some (r13, h13))
set_option maxRecDepth 100000 in
set_option maxHeartbeats 4000000 in
theorem c_X10_back (g : pq_g) {A : Nat → Prop} (hA : pq_A (SC g) A) (l : Launch) (h : pq_H) {rr : Int32} {hh : pq_H} (e : f_X10_back h = some (rr, hh)) : pq_M (SC g) A l yX10_back cX10_back 1 (some .int) 2 43 [.ref ((SC g).1.2.1 55)] h (some (.int rr)) hh := by
  refine pq_met hA l (own := RX10) 2 43 _ [(0, .ref ((SC g).1.2.1 55))] h _ hh (by decide +kernel) rfl (Nat.le_of_ble_eq_true rfl) rfl (fun X hXl hXA hB hK hR => ?_)
  refine V.cast (F' := f_X10_back h) (res' := (rr, hh)) (fun _ => e) ?_
  unfold f_X10_back
  refine v_aload_n hB 0 dX10_back_0 rfl rfl ?_
  refine v_getA hB hK (fl_X10_10 g) (cCA_55_0 g) dX10_back_1 ?_
  refine v_getI hB hK (fl_X10_287 g) (cCI_56_4 g) dX10_back_4 ?_
  refine v_if_ge (tgt := 17) hB dX10_back_7 rfl ?_ ?_
  · refine v_aload_n hB 0 dX10_back_17 rfl rfl ?_
    refine v_getA hB hK (fl_X10_10 g) (cCA_55_0 g) dX10_back_18 ?_
    refine v_bV (fun h21 e21 => v_callV hB hK hR.rm [] [] (oC_56 g) lb_X6_restoreImage lv_X10_290 (c_X6_restoreImage g hK.A X.1.2.1 h e21) dX10_back_21 rfl rfl (Nat.le_of_ble_eq_true rfl) (by decide) (by decide)) (fun h21 => ?_)
    refine v_aload_n hB 0 dX10_back_24 rfl rfl ?_
    refine v_getA hB hK (fl_X10_54 g) (cCA_55_6 g) dX10_back_25 ?_
    refine v_iconst hB 0 dX10_back_28 (by decide) ?_
    refine v_putI hB hK (fl_X10_105 g) (fin_X8_0 g) (cCI_74_0 g) dX10_back_29 ?_
    refine v_hl (fun h29 => ?_)
    refine v_aload_n hB 0 dX10_back_32 rfl rfl ?_
    refine v_getA hB hK (fl_X10_10 g) (cCA_55_0 g) dX10_back_33 ?_
    refine v_getI hB hK (fl_X10_89 g) (cCI_56_3 g) dX10_back_36 ?_
    exact v_retWi (x := rI h29 56 3) hB hK hR dX10_back_39
  · refine v_aload_n hB 0 dX10_back_10 rfl rfl ?_
    refine v_bipush hB (-3) dX10_back_11 (by decide) ?_
    refine v_bWi (fun r13 h13 e13 => v_callV hB hK hR.rm [.int (-3)] [] (oC_55 g) lb_X10_refuse lv_X10_69 (c_X10_refuse g hK.A X.1.2.1 (-3) h e13) dX10_back_13 rfl rfl (Nat.le_of_ble_eq_true rfl) (by decide) (by decide)) (fun r13 h13 => ?_)
    exact v_retWi (x := r13) hB hK hR dX10_back_16

def f_X10_count (p1 : Int32) (h : pq_H) : Option Int32 :=
  if p1 = 0 then (some (rI h 56 3)) else (if p1 = 1 then (some (rI h 61 1)) else (if p1 = 2 then ((f_X6_termsOfAll h).bind fun r56 => some r56) else (if p1 = 3 then (some (rI h 74 0)) else (if p1 = 4 then ((f_X6_clearForms h).bind fun r72 => some r72) else (if p1 < 11 then (some (-9)) else (if 16 < p1 then (some (-9)) else (gd (inb (p1 - 10) 7) (some (rI h 82 (p1 - 10).toNatClampNeg)))))))))
set_option maxRecDepth 100000 in
set_option maxHeartbeats 4000000 in
theorem c_X10_count (g : pq_g) {A : Nat → Prop} (hA : pq_A (SC g) A) (l : Launch) (p1 : Int32) (h : pq_H) {rr : Int32} (e : f_X10_count p1 h = some rr) : pq_M (SC g) A l yX10_count cX10_count 2 (some .int) 5 113 [.ref ((SC g).1.2.1 55), .int p1] h (some (.int rr)) h := by
  refine pq_met hA l (own := RX10) 5 113 _ [(0, .ref ((SC g).1.2.1 55)), (1, .int p1)] h _ h (by decide +kernel) rfl (Nat.le_of_ble_eq_true rfl) rfl (fun X hXl hXA hB hK hR => ?_)
  refine V.cast (F' := f_X10_count p1 h) (res' := rr) (fun _ => e) ?_
  unfold f_X10_count
  refine v_iload_n hB 1 dX10_count_0 rfl rfl ?_
  refine v_tcase (tgt := 36) hB 0 dX10_count_1 (by decide) (by decide) rfl rfl ?_ (fun n1_0 => ?_)
  · refine v_aload_n hB 0 dX10_count_36 rfl rfl ?_
    refine v_getA hB hK (fl_X10_10 g) (cCA_55_0 g) dX10_count_37 ?_
    refine v_getI hB hK (fl_X10_89 g) (cCI_56_3 g) dX10_count_40 ?_
    exact v_retRi (x := rI h 56 3) hB hK hR dX10_count_43
  · refine v_tcase (tgt := 44) hB 1 dX10_count_1 (by decide) (by decide) rfl rfl ?_ (fun n1_1 => ?_)
    · refine v_aload_n hB 0 dX10_count_44 rfl rfl ?_
      refine v_getA hB hK (fl_X10_19 g) (cCA_55_1 g) dX10_count_45 ?_
      refine v_getI hB hK (fl_X10_73 g) (cCI_61_1 g) dX10_count_48 ?_
      exact v_retRi (x := rI h 61 1) hB hK hR dX10_count_51
    · refine v_tcase (tgt := 52) hB 2 dX10_count_1 (by decide) (by decide) rfl rfl ?_ (fun n1_2 => ?_)
      · refine v_aload_n hB 0 dX10_count_52 rfl rfl ?_
        refine v_getA hB hK (fl_X10_10 g) (cCA_55_0 g) dX10_count_53 ?_
        refine v_bRi (fun r56 e56 => v_callV hB hK hR.rm [] [] (oC_56 g) lb_X6_termsOfAll lv_X10_293 (c_X6_termsOfAll g hK.A X.1.2.1 h e56) dX10_count_56 rfl rfl (Nat.le_of_ble_eq_true rfl) (by decide) (by decide)) (fun r56 => ?_)
        exact v_retRi (x := r56) hB hK hR dX10_count_59
      · refine v_tcase (tgt := 60) hB 3 dX10_count_1 (by decide) (by decide) rfl rfl ?_ (fun n1_3 => ?_)
        · refine v_aload_n hB 0 dX10_count_60 rfl rfl ?_
          refine v_getA hB hK (fl_X10_54 g) (cCA_55_6 g) dX10_count_61 ?_
          refine v_getI hB hK (fl_X10_105 g) (cCI_74_0 g) dX10_count_64 ?_
          exact v_retRi (x := rI h 74 0) hB hK hR dX10_count_67
        · refine v_tcase (tgt := 68) hB 4 dX10_count_1 (by decide) (by decide) rfl rfl ?_ (fun n1_4 => ?_)
          · refine v_aload_n hB 0 dX10_count_68 rfl rfl ?_
            refine v_getA hB hK (fl_X10_10 g) (cCA_55_0 g) dX10_count_69 ?_
            refine v_bRi (fun r72 e72 => v_callV hB hK hR.rm [] [] (oC_56 g) lb_X6_clearForms lv_X10_297 (c_X6_clearForms g hK.A X.1.2.1 h e72) dX10_count_72 rfl rfl (Nat.le_of_ble_eq_true rfl) (by decide) (by decide)) (fun r72 => ?_)
            exact v_retRi (x := r72) hB hK hR dX10_count_75
          · refine v_tdef (tgt := 76) hB dX10_count_1 (by have z0 := lv_neT n1_0 (a := 0) (by decide); have z1 := lv_neT n1_1 (a := 1) (by decide); have z2 := lv_neT n1_2 (a := 2) (by decide); have z3 := lv_neT n1_3 (a := 3) (by decide); have z4 := lv_neT n1_4 (a := 4) (by decide); omega) rfl ?_
            refine v_iload_n hB 1 dX10_count_76 rfl rfl ?_
            refine v_bipush hB 11 dX10_count_77 (by decide) ?_
            refine v_icmp_lt (tgt := 100) hB dX10_count_79 rfl ?_ ?_
            · refine v_bipush hB (-9) dX10_count_100 (by decide) ?_
              exact v_retRi (x := (-9)) hB hK hR dX10_count_102
            · refine v_iload_n hB 1 dX10_count_82 rfl rfl ?_
              refine v_bipush hB 16 dX10_count_83 (by decide) ?_
              refine v_icmp_gt (tgt := 100) hB dX10_count_85 rfl ?_ ?_
              · refine v_bipush hB (-9) dX10_count_100 (by decide) ?_
                exact v_retRi (x := (-9)) hB hK hR dX10_count_102
              · refine v_aload_n hB 0 dX10_count_88 rfl rfl ?_
                refine v_getA hB hK (fl_X10_65 g) (cCA_55_8 g) dX10_count_89 ?_
                refine v_iload_n hB 1 dX10_count_92 rfl rfl ?_
                refine v_bipush hB 10 dX10_count_93 (by decide) ?_
                refine v_isub hB dX10_count_95 ?_
                refine v_iald hB hK (aCI_82 g) dX10_count_96 ?_
                refine v_goto (tgt := 102) hB dX10_count_97 rfl ?_
                exact v_retRi (x := rI h 82 (p1 - 10).toNatClampNeg) hB hK hR dX10_count_102

