def f_X8_takeBack (h : pq_H) : Option pq_H :=
  hl (wI h 74 5 ((((rI h 74 5) + 16) - 1) - (((rI h 74 5) + 16) - 1) / 16 * 16)) fun h13 => hl (wI h13 74 0 ((rI h13 74 0) - 1)) fun h23 => gd (inb (rI h23 74 5) 16) (if (f_X6_lacks (rI h23 75 (rI h23 74 5).toNatClampNeg) h23) = true then (some h23) else (gd (inb (rI h23 74 5) 16) (gd (inb (rI h23 75 (rI h23 74 5).toNatClampNeg) 6) (gd (inb (rI h23 74 5) 16) (if (rI h23 76 (rI h23 74 5).toNatClampNeg) = (-1) then (gd (inb (rI h23 74 5) 16) (hl (wI h23 ((rI h23 75 (rI h23 74 5).toNatClampNeg).toNatClampNeg) 1 (rI h23 77 (rI h23 74 5).toNatClampNeg)) fun h81 => gd (inb (rI h81 74 5) 16) (some (wI h81 ((rI h23 75 (rI h23 74 5).toNatClampNeg).toNatClampNeg) 2 (rI h81 78 (rI h81 74 5).toNatClampNeg))))) else (gd (inb (rI h23 74 5) 16) (gd (inb (rI h23 74 5) 16) (gd (inb (rI h23 76 (rI h23 74 5).toNatClampNeg) 28) (some (wI h23 (((rI h23 75 (rI h23 74 5).toNatClampNeg).toNatClampNeg) + 12) (rI h23 76 (rI h23 74 5).toNatClampNeg).toNatClampNeg (rI h23 77 (rI h23 74 5).toNatClampNeg)))))))))))
set_option maxRecDepth 100000 in
set_option maxHeartbeats 4000000 in
theorem c_X8_takeBack (g : pq_g) {A : Nat → Prop} (hA : pq_A (SC g) A) (l : Launch) (h : pq_H) {hh : pq_H} (e : f_X8_takeBack h = some hh) : pq_M (SC g) A l yX8_takeBack cX8_takeBack 3 none 2 42 [.ref ((SC g).1.2.1 74), .ref ((SC g).1.2.1 56)] h none hh := by
  refine pq_met hA l (own := RX8) 2 42 _ [(0, .ref ((SC g).1.2.1 74)), (1, .ref ((SC g).1.2.1 56))] h _ hh (by decide +kernel) rfl (Nat.le_of_ble_eq_true rfl) rfl (fun X hXl hXA hB hK hR => ?_)
  refine V.cast (F' := f_X8_takeBack h) (res' := hh) (fun _ => e) ?_
  unfold f_X8_takeBack
  refine v_aload_n hB 0 dX8_takeBack_0 rfl rfl ?_
  refine v_aload_n hB 0 dX8_takeBack_1 rfl rfl ?_
  refine v_getI hB hK (fl_X8_24 g) (cCI_74_5 g) dX8_takeBack_2 ?_
  refine v_bipush hB 16 dX8_takeBack_5 (by decide) ?_
  refine v_iadd hB dX8_takeBack_7 ?_
  refine v_iconst hB 1 dX8_takeBack_8 (by decide) ?_
  refine v_isub hB dX8_takeBack_9 ?_
  refine v_bipush hB 16 dX8_takeBack_10 (by decide) ?_
  refine v_irem hB dX8_takeBack_12 (by decide) ?_
  refine v_putI hB hK (fl_X8_24 g) (fin_X8_5 g) (cCI_74_5 g) dX8_takeBack_13 ?_
  refine v_hl (fun h13 => ?_)
  refine v_aload_n hB 0 dX8_takeBack_16 rfl rfl ?_
  refine v_dup hB dX8_takeBack_17 rfl ?_
  refine v_getI hB hK (fl_X8_28 g) (cCI_74_0 g) dX8_takeBack_18 ?_
  refine v_iconst hB 1 dX8_takeBack_21 (by decide) ?_
  refine v_isub hB dX8_takeBack_22 ?_
  refine v_putI hB hK (fl_X8_28 g) (fin_X8_0 g) (cCI_74_0 g) dX8_takeBack_23 ?_
  refine v_hl (fun h23 => ?_)
  refine v_aload_n hB 1 dX8_takeBack_26 rfl rfl ?_
  refine v_aload_n hB 0 dX8_takeBack_27 rfl rfl ?_
  refine v_getA hB hK (fl_X8_9 g) (cCA_74_1 g) dX8_takeBack_28 ?_
  refine v_aload_n hB 0 dX8_takeBack_31 rfl rfl ?_
  refine v_getI hB hK (fl_X8_24 g) (cCI_74_5 g) dX8_takeBack_32 ?_
  refine v_iald hB hK (aCI_75 g) dX8_takeBack_35 ?_
  refine v_bT (v_callV hB hK hR.rm [.int (rI h23 75 (rI h23 74 5).toNatClampNeg)] [] (oC_56 g) lb_X6_lacks lv_X8_37 (c_X6_lacks g hK.A X.1.2.1 (rI h23 75 (rI h23 74 5).toNatClampNeg) h23) dX8_takeBack_36 rfl rfl (Nat.le_of_ble_eq_true rfl) (by decide) (by decide)) ?_
  refine v_ifz_eq (r := f_X6_lacks (rI h23 75 (rI h23 74 5).toNatClampNeg) h23) (tgt := 43) hB dX8_takeBack_39 rfl ?_ ?_
  · refine v_aload_n hB 1 dX8_takeBack_43 rfl rfl ?_
    refine v_getA hB hK (fl_X8_43 g) (cCA_56_0 g) dX8_takeBack_44 ?_
    refine v_aload_n hB 0 dX8_takeBack_47 rfl rfl ?_
    refine v_getA hB hK (fl_X8_9 g) (cCA_74_1 g) dX8_takeBack_48 ?_
    refine v_aload_n hB 0 dX8_takeBack_51 rfl rfl ?_
    refine v_getI hB hK (fl_X8_24 g) (cCI_74_5 g) dX8_takeBack_52 ?_
    refine v_iald hB hK (aCI_75 g) dX8_takeBack_55 ?_
    refine v_aa57 hB hK dX8_takeBack_56 (fun q56 => ?_)
    refine v_astore_n hB [(0, .ref ((SC g).1.2.1 74)), (1, .ref ((SC g).1.2.1 56)), (2, .ref ((SC g).1.2.1 ((rI h23 75 (rI h23 74 5).toNatClampNeg).toNatClampNeg)))] [1, 2, 0] dX8_takeBack_57 rfl (by decide) rfl ?_
    refine v_aload_n hB 0 dX8_takeBack_58 rfl rfl ?_
    refine v_getA hB hK (fl_X8_15 g) (cCA_74_2 g) dX8_takeBack_59 ?_
    refine v_aload_n hB 0 dX8_takeBack_62 rfl rfl ?_
    refine v_getI hB hK (fl_X8_24 g) (cCI_74_5 g) dX8_takeBack_63 ?_
    refine v_iald hB hK (aCI_76 g) dX8_takeBack_66 ?_
    refine v_iconst hB (-1) dX8_takeBack_67 (by decide) ?_
    refine v_icmp_ne (tgt := 100) hB dX8_takeBack_68 rfl ?_ ?_
    · refine v_aload_n hB 2 dX8_takeBack_100 rfl rfl ?_
      refine v_getA hB hK (fl_X8_55 g) (cA_Form_0 g ((rI h23 75 (rI h23 74 5).toNatClampNeg).toNatClampNeg) (lt6_12 q56)) dX8_takeBack_101 ?_
      refine v_aload_n hB 0 dX8_takeBack_104 rfl rfl ?_
      refine v_getA hB hK (fl_X8_15 g) (cCA_74_2 g) dX8_takeBack_105 ?_
      refine v_aload_n hB 0 dX8_takeBack_108 rfl rfl ?_
      refine v_getI hB hK (fl_X8_24 g) (cCI_74_5 g) dX8_takeBack_109 ?_
      refine v_iald hB hK (aCI_76 g) dX8_takeBack_112 ?_
      refine v_aload_n hB 0 dX8_takeBack_113 rfl rfl ?_
      refine v_getA hB hK (fl_X8_18 g) (cCA_74_3 g) dX8_takeBack_114 ?_
      refine v_aload_n hB 0 dX8_takeBack_117 rfl rfl ?_
      refine v_getI hB hK (fl_X8_24 g) (cCI_74_5 g) dX8_takeBack_118 ?_
      refine v_iald hB hK (aCI_77 g) dX8_takeBack_121 ?_
      refine v_iast hB hK (aI_told g ((rI h23 75 (rI h23 74 5).toNatClampNeg).toNatClampNeg) (lt6_12 q56)) dX8_takeBack_122 ?_
      exact v_retWv hB hK hR dX8_takeBack_123
    · refine v_aload_n hB 2 dX8_takeBack_71 rfl rfl ?_
      refine v_aload_n hB 0 dX8_takeBack_72 rfl rfl ?_
      refine v_getA hB hK (fl_X8_18 g) (cCA_74_3 g) dX8_takeBack_73 ?_
      refine v_aload_n hB 0 dX8_takeBack_76 rfl rfl ?_
      refine v_getI hB hK (fl_X8_24 g) (cCI_74_5 g) dX8_takeBack_77 ?_
      refine v_iald hB hK (aCI_77 g) dX8_takeBack_80 ?_
      refine v_putI hB hK (fl_X8_47 g) (fin_X1_1 g) (cI_Form_1 g ((rI h23 75 (rI h23 74 5).toNatClampNeg).toNatClampNeg) (lt6_12 q56)) dX8_takeBack_81 ?_
      refine v_hl (fun h81 => ?_)
      refine v_aload_n hB 2 dX8_takeBack_84 rfl rfl ?_
      refine v_aload_n hB 0 dX8_takeBack_85 rfl rfl ?_
      refine v_getA hB hK (fl_X8_21 g) (cCA_74_4 g) dX8_takeBack_86 ?_
      refine v_aload_n hB 0 dX8_takeBack_89 rfl rfl ?_
      refine v_getI hB hK (fl_X8_24 g) (cCI_74_5 g) dX8_takeBack_90 ?_
      refine v_iald hB hK (aCI_78 g) dX8_takeBack_93 ?_
      refine v_putI hB hK (fl_X8_52 g) (fin_X1_2 g) (cI_Form_2 g ((rI h23 75 (rI h23 74 5).toNatClampNeg).toNatClampNeg) (lt6_12 q56)) dX8_takeBack_94 ?_
      refine v_goto (tgt := 123) hB dX8_takeBack_97 rfl ?_
      exact v_retWv hB hK hR dX8_takeBack_123
  · exact v_retWv hB hK hR dX8_takeBack_42

def f_X10_numberOn (p0 : Int32) (p1 : Int32) (p2 : Int32) : Int32 :=
  if p0 = 1 then (0) else (if p0 = 2 then (f_X10_termOf p1 0) else (if p0 = 3 then (f_X10_termOf p2 0) else (if p0 = 4 then (f_X10_termOf 0 p1) else (if p0 = 5 then (f_X10_termOf 0 p2) else (if p0 = 6 then (f_X10_termOf (p1 - p2) p2) else (p2))))))
set_option maxRecDepth 100000 in
set_option maxHeartbeats 4000000 in
theorem c_X10_numberOn (g : pq_g) {A : Nat → Prop} (hA : pq_A (SC g) A) (l : Launch) (p0 : Int32) (p1 : Int32) (p2 : Int32) (h : pq_H) : pq_M (SC g) A l yX10_numberOn cX10_numberOn 3 (some .int) 1 21 [.int p0, .int p1, .int p2] h (some (.int (f_X10_numberOn p0 p1 p2))) h := by
  refine pq_met hA l (own := RX10) 1 21 _ [(0, .int p0), (1, .int p1), (2, .int p2)] h _ h (by decide +kernel) rfl (Nat.le_of_ble_eq_true rfl) rfl (fun X hXl hXA hB hK hR => ?_)
  refine V.cast (F' := some (f_X10_numberOn p0 p1 p2)) (res' := (f_X10_numberOn p0 p1 p2)) (fun _ => rfl) ?_
  unfold f_X10_numberOn
  refine v_iload_n hB 0 dX10_numberOn_0 rfl rfl ?_
  refine v_tcaseT (tgt := 40) hB 1 dX10_numberOn_1 (by decide) (by decide) rfl rfl ?_ (fun n1_1 => ?_)
  · refine v_iconst hB 0 dX10_numberOn_40 (by decide) ?_
    exact v_retRi (x := 0) hB hK hR dX10_numberOn_41
  · refine v_tcaseT (tgt := 42) hB 2 dX10_numberOn_1 (by decide) (by decide) rfl rfl ?_ (fun n1_2 => ?_)
    · refine v_iload_n hB 1 dX10_numberOn_42 rfl rfl ?_
      refine v_iconst hB 0 dX10_numberOn_43 (by decide) ?_
      refine v_bT (v_callS hB hK hR.rm [.int p1, .int 0] [] lb_X10_termOf lv_X10_310 (c_X10_termOf g hK.A X.1.2.1 p1 0 h) dX10_numberOn_44 rfl rfl (Nat.le_of_ble_eq_true rfl) (by decide) (by decide)) ?_
      exact v_retRi (x := f_X10_termOf p1 0) hB hK hR dX10_numberOn_47
    · refine v_tcaseT (tgt := 48) hB 3 dX10_numberOn_1 (by decide) (by decide) rfl rfl ?_ (fun n1_3 => ?_)
      · refine v_iload_n hB 2 dX10_numberOn_48 rfl rfl ?_
        refine v_iconst hB 0 dX10_numberOn_49 (by decide) ?_
        refine v_bT (v_callS hB hK hR.rm [.int p2, .int 0] [] lb_X10_termOf lv_X10_310 (c_X10_termOf g hK.A X.1.2.1 p2 0 h) dX10_numberOn_50 rfl rfl (Nat.le_of_ble_eq_true rfl) (by decide) (by decide)) ?_
        exact v_retRi (x := f_X10_termOf p2 0) hB hK hR dX10_numberOn_53
      · refine v_tcaseT (tgt := 54) hB 4 dX10_numberOn_1 (by decide) (by decide) rfl rfl ?_ (fun n1_4 => ?_)
        · refine v_iconst hB 0 dX10_numberOn_54 (by decide) ?_
          refine v_iload_n hB 1 dX10_numberOn_55 rfl rfl ?_
          refine v_bT (v_callS hB hK hR.rm [.int 0, .int p1] [] lb_X10_termOf lv_X10_310 (c_X10_termOf g hK.A X.1.2.1 0 p1 h) dX10_numberOn_56 rfl rfl (Nat.le_of_ble_eq_true rfl) (by decide) (by decide)) ?_
          exact v_retRi (x := f_X10_termOf 0 p1) hB hK hR dX10_numberOn_59
        · refine v_tcaseT (tgt := 60) hB 5 dX10_numberOn_1 (by decide) (by decide) rfl rfl ?_ (fun n1_5 => ?_)
          · refine v_iconst hB 0 dX10_numberOn_60 (by decide) ?_
            refine v_iload_n hB 2 dX10_numberOn_61 rfl rfl ?_
            refine v_bT (v_callS hB hK hR.rm [.int 0, .int p2] [] lb_X10_termOf lv_X10_310 (c_X10_termOf g hK.A X.1.2.1 0 p2 h) dX10_numberOn_62 rfl rfl (Nat.le_of_ble_eq_true rfl) (by decide) (by decide)) ?_
            exact v_retRi (x := f_X10_termOf 0 p2) hB hK hR dX10_numberOn_65
          · refine v_tcaseT (tgt := 66) hB 6 dX10_numberOn_1 (by decide) (by decide) rfl rfl ?_ (fun n1_6 => ?_)
            · refine v_iload_n hB 1 dX10_numberOn_66 rfl rfl ?_
              refine v_iload_n hB 2 dX10_numberOn_67 rfl rfl ?_
              refine v_isub hB dX10_numberOn_68 ?_
              refine v_iload_n hB 2 dX10_numberOn_69 rfl rfl ?_
              refine v_bT (v_callS hB hK hR.rm [.int (p1 - p2), .int p2] [] lb_X10_termOf lv_X10_310 (c_X10_termOf g hK.A X.1.2.1 (p1 - p2) p2 h) dX10_numberOn_70 rfl rfl (Nat.le_of_ble_eq_true rfl) (by decide) (by decide)) ?_
              exact v_retRi (x := f_X10_termOf (p1 - p2) p2) hB hK hR dX10_numberOn_73
            · refine v_tdef (tgt := 74) hB dX10_numberOn_1 (by have z1 := lv_neT n1_1 (a := 1) (by decide); have z2 := lv_neT n1_2 (a := 2) (by decide); have z3 := lv_neT n1_3 (a := 3) (by decide); have z4 := lv_neT n1_4 (a := 4) (by decide); have z5 := lv_neT n1_5 (a := 5) (by decide); have z6 := lv_neT n1_6 (a := 6) (by decide); omega) rfl ?_
              refine v_iload_n hB 2 dX10_numberOn_74 rfl rfl ?_
              exact v_retRi (x := p2) hB hK hR dX10_numberOn_75

def f_X9_among (p1 : Int32) (p2 : Int32) (h : pq_H) : Option Int64 :=
  gd (inb (f_X10_numberOn p1 (rI h 59 1) p2) 190) (some (rJ h 60 (f_X10_numberOn p1 (rI h 59 1) p2).toNatClampNeg))
set_option maxRecDepth 100000 in
set_option maxHeartbeats 4000000 in
theorem c_X9_among (g : pq_g) {A : Nat → Prop} (hA : pq_A (SC g) A) (l : Launch) (p1 : Int32) (p2 : Int32) (h : pq_H) {rr : Int64} (e : f_X9_among p1 p2 h = some rr) : pq_M (SC g) A l yX9_among cX9_among 3 (some .long) 2 43 [.ref ((SC g).1.2.1 59), .int p1, .int p2] h (some (.long rr)) h := by
  refine pq_met hA l (own := RX9) 2 43 _ [(0, .ref ((SC g).1.2.1 59)), (1, .int p1), (2, .int p2)] h _ h (by decide +kernel) rfl (Nat.le_of_ble_eq_true rfl) rfl (fun X hXl hXA hB hK hR => ?_)
  refine V.cast (F' := f_X9_among p1 p2 h) (res' := rr) (fun _ => e) ?_
  unfold f_X9_among
  refine v_aload_n hB 0 dX9_among_0 rfl rfl ?_
  refine v_getA hB hK (fl_X9_9 g) (cCA_59_0 g) dX9_among_1 ?_
  refine v_iload_n hB 1 dX9_among_4 rfl rfl ?_
  refine v_aload_n hB 0 dX9_among_5 rfl rfl ?_
  refine v_getI hB hK (fl_X9_15 g) (cCI_59_1 g) dX9_among_6 ?_
  refine v_iload_n hB 2 dX9_among_9 rfl rfl ?_
  refine v_bT (v_callSN hB hK hR.rm [.int p1, .int (rI h 59 1), .int p2] [.ref ((SC g).1.2.1 60)] lb_X10_numberOn (nk_X9_42 g) lv_X9_42 (c_X10_numberOn g hK.A X.1.2.1 p1 (rI h 59 1) p2 h) dX9_among_10 rfl rfl (Nat.le_of_ble_eq_true rfl) (by decide) (by decide)) ?_
  refine v_lald hB hK (aCJ_60 g) dX9_among_13 ?_
  exact v_retRj (x := rJ h 60 (f_X10_numberOn p1 (rI h 59 1) p2).toNatClampNeg) hB hK hR dX9_among_14

def f_J6_bitCount_0f7a4 (p0 : Int32) : Int32 :=
  (((((((p0 - (((p0.toUInt32 >>> ((1 : Int32).toUInt32 &&& Int32.toUInt32 31)).toInt32) &&& 1431655765)) &&& 858993459) + ((((p0 - (((p0.toUInt32 >>> ((1 : Int32).toUInt32 &&& Int32.toUInt32 31)).toInt32) &&& 1431655765)).toUInt32 >>> ((2 : Int32).toUInt32 &&& Int32.toUInt32 31)).toInt32) &&& 858993459)) + (((((p0 - (((p0.toUInt32 >>> ((1 : Int32).toUInt32 &&& Int32.toUInt32 31)).toInt32) &&& 1431655765)) &&& 858993459) + ((((p0 - (((p0.toUInt32 >>> ((1 : Int32).toUInt32 &&& Int32.toUInt32 31)).toInt32) &&& 1431655765)).toUInt32 >>> ((2 : Int32).toUInt32 &&& Int32.toUInt32 31)).toInt32) &&& 858993459)).toUInt32 >>> ((4 : Int32).toUInt32 &&& Int32.toUInt32 31)).toInt32)) &&& 252645135) + (((((((p0 - (((p0.toUInt32 >>> ((1 : Int32).toUInt32 &&& Int32.toUInt32 31)).toInt32) &&& 1431655765)) &&& 858993459) + ((((p0 - (((p0.toUInt32 >>> ((1 : Int32).toUInt32 &&& Int32.toUInt32 31)).toInt32) &&& 1431655765)).toUInt32 >>> ((2 : Int32).toUInt32 &&& Int32.toUInt32 31)).toInt32) &&& 858993459)) + (((((p0 - (((p0.toUInt32 >>> ((1 : Int32).toUInt32 &&& Int32.toUInt32 31)).toInt32) &&& 1431655765)) &&& 858993459) + ((((p0 - (((p0.toUInt32 >>> ((1 : Int32).toUInt32 &&& Int32.toUInt32 31)).toInt32) &&& 1431655765)).toUInt32 >>> ((2 : Int32).toUInt32 &&& Int32.toUInt32 31)).toInt32) &&& 858993459)).toUInt32 >>> ((4 : Int32).toUInt32 &&& Int32.toUInt32 31)).toInt32)) &&& 252645135).toUInt32 >>> ((8 : Int32).toUInt32 &&& Int32.toUInt32 31)).toInt32)) + ((((((((p0 - (((p0.toUInt32 >>> ((1 : Int32).toUInt32 &&& Int32.toUInt32 31)).toInt32) &&& 1431655765)) &&& 858993459) + ((((p0 - (((p0.toUInt32 >>> ((1 : Int32).toUInt32 &&& Int32.toUInt32 31)).toInt32) &&& 1431655765)).toUInt32 >>> ((2 : Int32).toUInt32 &&& Int32.toUInt32 31)).toInt32) &&& 858993459)) + (((((p0 - (((p0.toUInt32 >>> ((1 : Int32).toUInt32 &&& Int32.toUInt32 31)).toInt32) &&& 1431655765)) &&& 858993459) + ((((p0 - (((p0.toUInt32 >>> ((1 : Int32).toUInt32 &&& Int32.toUInt32 31)).toInt32) &&& 1431655765)).toUInt32 >>> ((2 : Int32).toUInt32 &&& Int32.toUInt32 31)).toInt32) &&& 858993459)).toUInt32 >>> ((4 : Int32).toUInt32 &&& Int32.toUInt32 31)).toInt32)) &&& 252645135) + (((((((p0 - (((p0.toUInt32 >>> ((1 : Int32).toUInt32 &&& Int32.toUInt32 31)).toInt32) &&& 1431655765)) &&& 858993459) + ((((p0 - (((p0.toUInt32 >>> ((1 : Int32).toUInt32 &&& Int32.toUInt32 31)).toInt32) &&& 1431655765)).toUInt32 >>> ((2 : Int32).toUInt32 &&& Int32.toUInt32 31)).toInt32) &&& 858993459)) + (((((p0 - (((p0.toUInt32 >>> ((1 : Int32).toUInt32 &&& Int32.toUInt32 31)).toInt32) &&& 1431655765)) &&& 858993459) + ((((p0 - (((p0.toUInt32 >>> ((1 : Int32).toUInt32 &&& Int32.toUInt32 31)).toInt32) &&& 1431655765)).toUInt32 >>> ((2 : Int32).toUInt32 &&& Int32.toUInt32 31)).toInt32) &&& 858993459)).toUInt32 >>> ((4 : Int32).toUInt32 &&& Int32.toUInt32 31)).toInt32)) &&& 252645135).toUInt32 >>> ((8 : Int32).toUInt32 &&& Int32.toUInt32 31)).toInt32)).toUInt32 >>> ((16 : Int32).toUInt32 &&& Int32.toUInt32 31)).toInt32)) &&& 63
set_option maxRecDepth 100000 in
set_option maxHeartbeats 4000000 in
theorem c_J6_bitCount_0f7a4 (g : pq_g) {A : Nat → Prop} (hA : pq_A (SC g) A) (l : Launch) (p0 : Int32) (h : pq_H) : pq_M (SC g) A l yJ6_bitCount_0f7a4 cJ6_bitCount_0f7a4 1 (some .int) 0 0 [.int p0] h (some (.int (f_J6_bitCount_0f7a4 p0))) h := by
  refine pq_met hA l (own := RJ6) 0 0 _ [(0, .int p0)] h _ h (by decide +kernel) rfl (Nat.le_of_ble_eq_true rfl) rfl (fun X hXl hXA hB hK hR => ?_)
  refine V.cast (F' := some (f_J6_bitCount_0f7a4 p0)) (res' := (f_J6_bitCount_0f7a4 p0)) (fun _ => rfl) ?_
  unfold f_J6_bitCount_0f7a4
  refine v_iload_n hB 0 dJ6_bitCount_0f7a4_0 rfl rfl ?_
  refine v_iload_n hB 0 dJ6_bitCount_0f7a4_1 rfl rfl ?_
  refine v_iconst hB 1 dJ6_bitCount_0f7a4_2 (by decide) ?_
  refine v_iushr hB dJ6_bitCount_0f7a4_3 ?_
  refine v_ldcw hB 1431655765 k_J6_265 dJ6_bitCount_0f7a4_4 ?_
  refine v_iand hB dJ6_bitCount_0f7a4_7 ?_
  refine v_isub hB dJ6_bitCount_0f7a4_8 ?_
  refine v_istore_n hB [(0, .int (p0 - (((p0.toUInt32 >>> ((1 : Int32).toUInt32 &&& Int32.toUInt32 31)).toInt32) &&& 1431655765)))] [0] dJ6_bitCount_0f7a4_9 rfl (by decide) rfl ?_
  refine v_iload_n hB 0 dJ6_bitCount_0f7a4_10 rfl rfl ?_
  refine v_ldcw hB 858993459 k_J6_266 dJ6_bitCount_0f7a4_11 ?_
  refine v_iand hB dJ6_bitCount_0f7a4_14 ?_
  refine v_iload_n hB 0 dJ6_bitCount_0f7a4_15 rfl rfl ?_
  refine v_iconst hB 2 dJ6_bitCount_0f7a4_16 (by decide) ?_
  refine v_iushr hB dJ6_bitCount_0f7a4_17 ?_
  refine v_ldcw hB 858993459 k_J6_266 dJ6_bitCount_0f7a4_18 ?_
  refine v_iand hB dJ6_bitCount_0f7a4_21 ?_
  refine v_iadd hB dJ6_bitCount_0f7a4_22 ?_
  refine v_istore_n hB [(0, .int (((p0 - (((p0.toUInt32 >>> ((1 : Int32).toUInt32 &&& Int32.toUInt32 31)).toInt32) &&& 1431655765)) &&& 858993459) + ((((p0 - (((p0.toUInt32 >>> ((1 : Int32).toUInt32 &&& Int32.toUInt32 31)).toInt32) &&& 1431655765)).toUInt32 >>> ((2 : Int32).toUInt32 &&& Int32.toUInt32 31)).toInt32) &&& 858993459)))] [0] dJ6_bitCount_0f7a4_23 rfl (by decide) rfl ?_
  refine v_iload_n hB 0 dJ6_bitCount_0f7a4_24 rfl rfl ?_
  refine v_iload_n hB 0 dJ6_bitCount_0f7a4_25 rfl rfl ?_
  refine v_iconst hB 4 dJ6_bitCount_0f7a4_26 (by decide) ?_
  refine v_iushr hB dJ6_bitCount_0f7a4_27 ?_
  refine v_iadd hB dJ6_bitCount_0f7a4_28 ?_
  refine v_ldcw hB 252645135 k_J6_267 dJ6_bitCount_0f7a4_29 ?_
  refine v_iand hB dJ6_bitCount_0f7a4_32 ?_
  refine v_istore_n hB [(0, .int (((((p0 - (((p0.toUInt32 >>> ((1 : Int32).toUInt32 &&& Int32.toUInt32 31)).toInt32) &&& 1431655765)) &&& 858993459) + ((((p0 - (((p0.toUInt32 >>> ((1 : Int32).toUInt32 &&& Int32.toUInt32 31)).toInt32) &&& 1431655765)).toUInt32 >>> ((2 : Int32).toUInt32 &&& Int32.toUInt32 31)).toInt32) &&& 858993459)) + (((((p0 - (((p0.toUInt32 >>> ((1 : Int32).toUInt32 &&& Int32.toUInt32 31)).toInt32) &&& 1431655765)) &&& 858993459) + ((((p0 - (((p0.toUInt32 >>> ((1 : Int32).toUInt32 &&& Int32.toUInt32 31)).toInt32) &&& 1431655765)).toUInt32 >>> ((2 : Int32).toUInt32 &&& Int32.toUInt32 31)).toInt32) &&& 858993459)).toUInt32 >>> ((4 : Int32).toUInt32 &&& Int32.toUInt32 31)).toInt32)) &&& 252645135))] [0] dJ6_bitCount_0f7a4_33 rfl (by decide) rfl ?_
  refine v_iload_n hB 0 dJ6_bitCount_0f7a4_34 rfl rfl ?_
  refine v_iload_n hB 0 dJ6_bitCount_0f7a4_35 rfl rfl ?_
  refine v_bipush hB 8 dJ6_bitCount_0f7a4_36 (by decide) ?_
  refine v_iushr hB dJ6_bitCount_0f7a4_38 ?_
  refine v_iadd hB dJ6_bitCount_0f7a4_39 ?_
  refine v_istore_n hB [(0, .int ((((((p0 - (((p0.toUInt32 >>> ((1 : Int32).toUInt32 &&& Int32.toUInt32 31)).toInt32) &&& 1431655765)) &&& 858993459) + ((((p0 - (((p0.toUInt32 >>> ((1 : Int32).toUInt32 &&& Int32.toUInt32 31)).toInt32) &&& 1431655765)).toUInt32 >>> ((2 : Int32).toUInt32 &&& Int32.toUInt32 31)).toInt32) &&& 858993459)) + (((((p0 - (((p0.toUInt32 >>> ((1 : Int32).toUInt32 &&& Int32.toUInt32 31)).toInt32) &&& 1431655765)) &&& 858993459) + ((((p0 - (((p0.toUInt32 >>> ((1 : Int32).toUInt32 &&& Int32.toUInt32 31)).toInt32) &&& 1431655765)).toUInt32 >>> ((2 : Int32).toUInt32 &&& Int32.toUInt32 31)).toInt32) &&& 858993459)).toUInt32 >>> ((4 : Int32).toUInt32 &&& Int32.toUInt32 31)).toInt32)) &&& 252645135) + (((((((p0 - (((p0.toUInt32 >>> ((1 : Int32).toUInt32 &&& Int32.toUInt32 31)).toInt32) &&& 1431655765)) &&& 858993459) + ((((p0 - (((p0.toUInt32 >>> ((1 : Int32).toUInt32 &&& Int32.toUInt32 31)).toInt32) &&& 1431655765)).toUInt32 >>> ((2 : Int32).toUInt32 &&& Int32.toUInt32 31)).toInt32) &&& 858993459)) + (((((p0 - (((p0.toUInt32 >>> ((1 : Int32).toUInt32 &&& Int32.toUInt32 31)).toInt32) &&& 1431655765)) &&& 858993459) + ((((p0 - (((p0.toUInt32 >>> ((1 : Int32).toUInt32 &&& Int32.toUInt32 31)).toInt32) &&& 1431655765)).toUInt32 >>> ((2 : Int32).toUInt32 &&& Int32.toUInt32 31)).toInt32) &&& 858993459)).toUInt32 >>> ((4 : Int32).toUInt32 &&& Int32.toUInt32 31)).toInt32)) &&& 252645135).toUInt32 >>> ((8 : Int32).toUInt32 &&& Int32.toUInt32 31)).toInt32)))] [0] dJ6_bitCount_0f7a4_40 rfl (by decide) rfl ?_
  refine v_iload_n hB 0 dJ6_bitCount_0f7a4_41 rfl rfl ?_
  refine v_iload_n hB 0 dJ6_bitCount_0f7a4_42 rfl rfl ?_
  refine v_bipush hB 16 dJ6_bitCount_0f7a4_43 (by decide) ?_
  refine v_iushr hB dJ6_bitCount_0f7a4_45 ?_
  refine v_iadd hB dJ6_bitCount_0f7a4_46 ?_
  refine v_istore_n hB [(0, .int (((((((p0 - (((p0.toUInt32 >>> ((1 : Int32).toUInt32 &&& Int32.toUInt32 31)).toInt32) &&& 1431655765)) &&& 858993459) + ((((p0 - (((p0.toUInt32 >>> ((1 : Int32).toUInt32 &&& Int32.toUInt32 31)).toInt32) &&& 1431655765)).toUInt32 >>> ((2 : Int32).toUInt32 &&& Int32.toUInt32 31)).toInt32) &&& 858993459)) + (((((p0 - (((p0.toUInt32 >>> ((1 : Int32).toUInt32 &&& Int32.toUInt32 31)).toInt32) &&& 1431655765)) &&& 858993459) + ((((p0 - (((p0.toUInt32 >>> ((1 : Int32).toUInt32 &&& Int32.toUInt32 31)).toInt32) &&& 1431655765)).toUInt32 >>> ((2 : Int32).toUInt32 &&& Int32.toUInt32 31)).toInt32) &&& 858993459)).toUInt32 >>> ((4 : Int32).toUInt32 &&& Int32.toUInt32 31)).toInt32)) &&& 252645135) + (((((((p0 - (((p0.toUInt32 >>> ((1 : Int32).toUInt32 &&& Int32.toUInt32 31)).toInt32) &&& 1431655765)) &&& 858993459) + ((((p0 - (((p0.toUInt32 >>> ((1 : Int32).toUInt32 &&& Int32.toUInt32 31)).toInt32) &&& 1431655765)).toUInt32 >>> ((2 : Int32).toUInt32 &&& Int32.toUInt32 31)).toInt32) &&& 858993459)) + (((((p0 - (((p0.toUInt32 >>> ((1 : Int32).toUInt32 &&& Int32.toUInt32 31)).toInt32) &&& 1431655765)) &&& 858993459) + ((((p0 - (((p0.toUInt32 >>> ((1 : Int32).toUInt32 &&& Int32.toUInt32 31)).toInt32) &&& 1431655765)).toUInt32 >>> ((2 : Int32).toUInt32 &&& Int32.toUInt32 31)).toInt32) &&& 858993459)).toUInt32 >>> ((4 : Int32).toUInt32 &&& Int32.toUInt32 31)).toInt32)) &&& 252645135).toUInt32 >>> ((8 : Int32).toUInt32 &&& Int32.toUInt32 31)).toInt32)) + ((((((((p0 - (((p0.toUInt32 >>> ((1 : Int32).toUInt32 &&& Int32.toUInt32 31)).toInt32) &&& 1431655765)) &&& 858993459) + ((((p0 - (((p0.toUInt32 >>> ((1 : Int32).toUInt32 &&& Int32.toUInt32 31)).toInt32) &&& 1431655765)).toUInt32 >>> ((2 : Int32).toUInt32 &&& Int32.toUInt32 31)).toInt32) &&& 858993459)) + (((((p0 - (((p0.toUInt32 >>> ((1 : Int32).toUInt32 &&& Int32.toUInt32 31)).toInt32) &&& 1431655765)) &&& 858993459) + ((((p0 - (((p0.toUInt32 >>> ((1 : Int32).toUInt32 &&& Int32.toUInt32 31)).toInt32) &&& 1431655765)).toUInt32 >>> ((2 : Int32).toUInt32 &&& Int32.toUInt32 31)).toInt32) &&& 858993459)).toUInt32 >>> ((4 : Int32).toUInt32 &&& Int32.toUInt32 31)).toInt32)) &&& 252645135) + (((((((p0 - (((p0.toUInt32 >>> ((1 : Int32).toUInt32 &&& Int32.toUInt32 31)).toInt32) &&& 1431655765)) &&& 858993459) + ((((p0 - (((p0.toUInt32 >>> ((1 : Int32).toUInt32 &&& Int32.toUInt32 31)).toInt32) &&& 1431655765)).toUInt32 >>> ((2 : Int32).toUInt32 &&& Int32.toUInt32 31)).toInt32) &&& 858993459)) + (((((p0 - (((p0.toUInt32 >>> ((1 : Int32).toUInt32 &&& Int32.toUInt32 31)).toInt32) &&& 1431655765)) &&& 858993459) + ((((p0 - (((p0.toUInt32 >>> ((1 : Int32).toUInt32 &&& Int32.toUInt32 31)).toInt32) &&& 1431655765)).toUInt32 >>> ((2 : Int32).toUInt32 &&& Int32.toUInt32 31)).toInt32) &&& 858993459)).toUInt32 >>> ((4 : Int32).toUInt32 &&& Int32.toUInt32 31)).toInt32)) &&& 252645135).toUInt32 >>> ((8 : Int32).toUInt32 &&& Int32.toUInt32 31)).toInt32)).toUInt32 >>> ((16 : Int32).toUInt32 &&& Int32.toUInt32 31)).toInt32)))] [0] dJ6_bitCount_0f7a4_47 rfl (by decide) rfl ?_
  refine v_iload_n hB 0 dJ6_bitCount_0f7a4_48 rfl rfl ?_
  refine v_bipush hB 63 dJ6_bitCount_0f7a4_49 (by decide) ?_
  refine v_iand hB dJ6_bitCount_0f7a4_51 ?_
  exact v_retRi (x := (((((((p0 - (((p0.toUInt32 >>> ((1 : Int32).toUInt32 &&& Int32.toUInt32 31)).toInt32) &&& 1431655765)) &&& 858993459) + ((((p0 - (((p0.toUInt32 >>> ((1 : Int32).toUInt32 &&& Int32.toUInt32 31)).toInt32) &&& 1431655765)).toUInt32 >>> ((2 : Int32).toUInt32 &&& Int32.toUInt32 31)).toInt32) &&& 858993459)) + (((((p0 - (((p0.toUInt32 >>> ((1 : Int32).toUInt32 &&& Int32.toUInt32 31)).toInt32) &&& 1431655765)) &&& 858993459) + ((((p0 - (((p0.toUInt32 >>> ((1 : Int32).toUInt32 &&& Int32.toUInt32 31)).toInt32) &&& 1431655765)).toUInt32 >>> ((2 : Int32).toUInt32 &&& Int32.toUInt32 31)).toInt32) &&& 858993459)).toUInt32 >>> ((4 : Int32).toUInt32 &&& Int32.toUInt32 31)).toInt32)) &&& 252645135) + (((((((p0 - (((p0.toUInt32 >>> ((1 : Int32).toUInt32 &&& Int32.toUInt32 31)).toInt32) &&& 1431655765)) &&& 858993459) + ((((p0 - (((p0.toUInt32 >>> ((1 : Int32).toUInt32 &&& Int32.toUInt32 31)).toInt32) &&& 1431655765)).toUInt32 >>> ((2 : Int32).toUInt32 &&& Int32.toUInt32 31)).toInt32) &&& 858993459)) + (((((p0 - (((p0.toUInt32 >>> ((1 : Int32).toUInt32 &&& Int32.toUInt32 31)).toInt32) &&& 1431655765)) &&& 858993459) + ((((p0 - (((p0.toUInt32 >>> ((1 : Int32).toUInt32 &&& Int32.toUInt32 31)).toInt32) &&& 1431655765)).toUInt32 >>> ((2 : Int32).toUInt32 &&& Int32.toUInt32 31)).toInt32) &&& 858993459)).toUInt32 >>> ((4 : Int32).toUInt32 &&& Int32.toUInt32 31)).toInt32)) &&& 252645135).toUInt32 >>> ((8 : Int32).toUInt32 &&& Int32.toUInt32 31)).toInt32)) + ((((((((p0 - (((p0.toUInt32 >>> ((1 : Int32).toUInt32 &&& Int32.toUInt32 31)).toInt32) &&& 1431655765)) &&& 858993459) + ((((p0 - (((p0.toUInt32 >>> ((1 : Int32).toUInt32 &&& Int32.toUInt32 31)).toInt32) &&& 1431655765)).toUInt32 >>> ((2 : Int32).toUInt32 &&& Int32.toUInt32 31)).toInt32) &&& 858993459)) + (((((p0 - (((p0.toUInt32 >>> ((1 : Int32).toUInt32 &&& Int32.toUInt32 31)).toInt32) &&& 1431655765)) &&& 858993459) + ((((p0 - (((p0.toUInt32 >>> ((1 : Int32).toUInt32 &&& Int32.toUInt32 31)).toInt32) &&& 1431655765)).toUInt32 >>> ((2 : Int32).toUInt32 &&& Int32.toUInt32 31)).toInt32) &&& 858993459)).toUInt32 >>> ((4 : Int32).toUInt32 &&& Int32.toUInt32 31)).toInt32)) &&& 252645135) + (((((((p0 - (((p0.toUInt32 >>> ((1 : Int32).toUInt32 &&& Int32.toUInt32 31)).toInt32) &&& 1431655765)) &&& 858993459) + ((((p0 - (((p0.toUInt32 >>> ((1 : Int32).toUInt32 &&& Int32.toUInt32 31)).toInt32) &&& 1431655765)).toUInt32 >>> ((2 : Int32).toUInt32 &&& Int32.toUInt32 31)).toInt32) &&& 858993459)) + (((((p0 - (((p0.toUInt32 >>> ((1 : Int32).toUInt32 &&& Int32.toUInt32 31)).toInt32) &&& 1431655765)) &&& 858993459) + ((((p0 - (((p0.toUInt32 >>> ((1 : Int32).toUInt32 &&& Int32.toUInt32 31)).toInt32) &&& 1431655765)).toUInt32 >>> ((2 : Int32).toUInt32 &&& Int32.toUInt32 31)).toInt32) &&& 858993459)).toUInt32 >>> ((4 : Int32).toUInt32 &&& Int32.toUInt32 31)).toInt32)) &&& 252645135).toUInt32 >>> ((8 : Int32).toUInt32 &&& Int32.toUInt32 31)).toInt32)).toUInt32 >>> ((16 : Int32).toUInt32 &&& Int32.toUInt32 31)).toInt32)) &&& 63) hB hK hR dJ6_bitCount_0f7a4_52

def f_X10_placesOn (p0 : Int32) (p1 : Int32) : Int32 :=
  if (f_J6_bitCount_0f7a4 p0) = 1 then (1) else (if (f_J6_bitCount_0f7a4 p0) = 2 then (p1 + 1) else (f_X10_termsOf p1))
set_option maxRecDepth 100000 in
set_option maxHeartbeats 4000000 in
theorem c_X10_placesOn (g : pq_g) {A : Nat → Prop} (hA : pq_A (SC g) A) (l : Launch) (p0 : Int32) (p1 : Int32) (h : pq_H) : pq_M (SC g) A l yX10_placesOn cX10_placesOn 3 (some .int) 1 20 [.int p0, .int p1] h (some (.int (f_X10_placesOn p0 p1))) h := by
  refine pq_met hA l (own := RX10) 1 20 _ [(0, .int p0), (1, .int p1)] h _ h (by decide +kernel) rfl (Nat.le_of_ble_eq_true rfl) rfl (fun X hXl hXA hB hK hR => ?_)
  refine V.cast (F' := some (f_X10_placesOn p0 p1)) (res' := (f_X10_placesOn p0 p1)) (fun _ => rfl) ?_
  unfold f_X10_placesOn
  refine v_iload_n hB 0 dX10_placesOn_0 rfl rfl ?_
  refine v_bT (v_callS hB hK hR.rm [.int p0] [] lb_J6_bitCount_0f7a4 lv_X10_316 (c_J6_bitCount_0f7a4 g hK.A X.1.2.1 p0 h) dX10_placesOn_1 rfl rfl (Nat.le_of_ble_eq_true rfl) (by decide) (by decide)) ?_
  refine v_istore_n hB [(0, .int p0), (1, .int p1), (2, .int (f_J6_bitCount_0f7a4 p0))] [1, 2, 0] dX10_placesOn_4 rfl (by decide) rfl ?_
  refine v_iload_n hB 2 dX10_placesOn_5 rfl rfl ?_
  refine v_iconst hB 1 dX10_placesOn_6 (by decide) ?_
  refine v_icmp_neT (tgt := 12) hB dX10_placesOn_7 rfl ?_ ?_
  · refine v_iload_n hB 2 dX10_placesOn_12 rfl rfl ?_
    refine v_iconst hB 2 dX10_placesOn_13 (by decide) ?_
    refine v_icmp_neT (tgt := 23) hB dX10_placesOn_14 rfl ?_ ?_
    · refine v_iload_n hB 1 dX10_placesOn_23 rfl rfl ?_
      refine v_bT (v_callS hB hK hR.rm [.int p1] [] lb_X10_termsOf lv_X10_140 (c_X10_termsOf g hK.A X.1.2.1 p1 h) dX10_placesOn_24 rfl rfl (Nat.le_of_ble_eq_true rfl) (by decide) (by decide)) ?_
      exact v_retRi (x := f_X10_termsOf p1) hB hK hR dX10_placesOn_27
    · refine v_iload_n hB 1 dX10_placesOn_17 rfl rfl ?_
      refine v_iconst hB 1 dX10_placesOn_18 (by decide) ?_
      refine v_iadd hB dX10_placesOn_19 ?_
      refine v_goto (tgt := 27) hB dX10_placesOn_20 rfl ?_
      exact v_retRi (x := p1 + 1) hB hK hR dX10_placesOn_27
  · refine v_iconst hB 1 dX10_placesOn_10 (by decide) ?_
    exact v_retRi (x := 1) hB hK hR dX10_placesOn_11

def f_X9_firstFault_l2 (p1 : Int32) (p2 : Int32) (h : pq_H) (w2 : Int32 → Option Int32) (v3 : Int32) : Option Int32 :=
  if (f_X10_placesOn p1 (rI h 59 1)) ≤ v3 then (some (-9)) else ((f_X9_among p1 v3 h).bind fun r17 => if (f_X10_fails r17 p2) = true then (some v3) else (w2 (v3 + 1)))
def f_X9_firstFault (p1 : Int32) (p2 : Int32) (h : pq_H) : Option Int32 :=
  lp (fun _ => none) (f_X9_firstFault_l2 p1 p2 h) 1000 0
set_option maxRecDepth 100000 in
set_option maxHeartbeats 4000000 in
theorem c_X9_firstFault (g : pq_g) {A : Nat → Prop} (hA : pq_A (SC g) A) (l : Launch) (p1 : Int32) (p2 : Int32) (h : pq_H) {rr : Int32} (e : f_X9_firstFault p1 p2 h = some rr) : pq_M (SC g) A l yX9_firstFault cX9_firstFault 4 (some .int) 3 65 [.ref ((SC g).1.2.1 59), .int p1, .int p2] h (some (.int rr)) h := by
  refine pq_met hA l (own := RX9) 3 65 _ [(0, .ref ((SC g).1.2.1 59)), (1, .int p1), (2, .int p2)] h _ h (by decide +kernel) rfl (Nat.le_of_ble_eq_true rfl) rfl (fun X hXl hXA hB hK hR => ?_)
  refine V.cast (F' := f_X9_firstFault p1 p2 h) (res' := rr) (fun _ => e) ?_
  have hn2 : ∀ (n : Nat), ∀ (v3 : Int32), V X (SC g) rr 4 2 [(0, .ref ((SC g).1.2.1 59)), (1, .int p1), (2, .int p2), (3, .int v3)] [] h (lp (fun _ => none) (f_X9_firstFault_l2 p1 p2 h) n v3) := by
    refine lp_ind (fun (w2 : Int32 → Option Int32) => ∀ (v3 : Int32), V X (SC g) rr 4 2 [(0, .ref ((SC g).1.2.1 59)), (1, .int p1), (2, .int p2), (3, .int v3)] [] h (w2 v3)) (fun _ => V.none _ _ _ _) (fun w2 ih2 => ?_)
    intro v3
    unfold f_X9_firstFault_l2
    refine v_iload_n hB 3 dX9_firstFault_2 rfl rfl ?_
    refine v_iload_n hB 1 dX9_firstFault_3 rfl rfl ?_
    refine v_aload_n hB 0 dX9_firstFault_4 rfl rfl ?_
    refine v_getI hB hK (fl_X9_15 g) (cCI_59_1 g) dX9_firstFault_5 ?_
    refine v_bT (v_callSN hB hK hR.rm [.int p1, .int (rI h 59 1)] [.int v3] lb_X10_placesOn (nk_X9_45 g) lv_X9_45 (c_X10_placesOn g hK.A X.1.2.1 p1 (rI h 59 1) h) dX9_firstFault_8 rfl rfl (Nat.le_of_ble_eq_true rfl) (by decide) (by decide)) ?_
    refine v_icmp_ge (tgt := 35) hB dX9_firstFault_11 rfl ?_ ?_
    · refine v_bipush hB (-9) dX9_firstFault_35 (by decide) ?_
      exact v_retRi (x := (-9)) hB hK hR dX9_firstFault_37
    · refine v_aload_n hB 0 dX9_firstFault_14 rfl rfl ?_
      refine v_iload_n hB 1 dX9_firstFault_15 rfl rfl ?_
      refine v_iload_n hB 3 dX9_firstFault_16 rfl rfl ?_
      refine v_bRj (fun r17 e17 => v_callV hB hK hR.rm [.int p1, .int v3] [] (oC_59 g) lb_X9_among lv_X9_48 (c_X9_among g hK.A X.1.2.1 p1 v3 h e17) dX9_firstFault_17 rfl rfl (Nat.le_of_ble_eq_true rfl) (by decide) (by decide)) (fun r17 => ?_)
      refine v_iload_n hB 2 dX9_firstFault_20 rfl rfl ?_
      refine v_bT (v_callSN hB hK hR.rm [.long r17, .int p2] [] lb_X10_fails (nk_X9_52 g) lv_X9_52 (c_X10_fails g hK.A X.1.2.1 r17 p2 h) dX9_firstFault_21 rfl rfl (Nat.le_of_ble_eq_true rfl) (by decide) (by decide)) ?_
      refine v_ifz_eq (r := f_X10_fails r17 p2) (tgt := 29) hB dX9_firstFault_24 rfl ?_ ?_
      · refine v_iinc hB (v3 + 1) [(0, .ref ((SC g).1.2.1 59)), (1, .int p1), (2, .int p2), (3, .int (v3 + 1))] 3 [1, 2, 3, 0] dX9_firstFault_29 rfl rfl (by decide) rfl ?_
        refine v_goto (tgt := 2) hB dX9_firstFault_32 rfl ?_
        exact V.sub [0, 1, 2, 3] rfl (ih2 (v3 + 1))
      · refine v_iload_n hB 3 dX9_firstFault_27 rfl rfl ?_
        exact v_retRi (x := v3) hB hK hR dX9_firstFault_28
  unfold f_X9_firstFault
  refine v_iconst hB 0 dX9_firstFault_0 (by decide) ?_
  refine v_istore_n hB [(0, .ref ((SC g).1.2.1 59)), (1, .int p1), (2, .int p2), (3, .int 0)] [1, 2, 3, 0] dX9_firstFault_1 rfl (by decide) rfl ?_
  exact V.sub [0, 1, 2, 3] rfl (hn2 1000 0)

def f_X9_leastLift_j17 (p1 : Int32) (p2 : Int32) (w2 : Int32 → pq_H → Option (Int32 × pq_H)) (v3 : Int32) (h : pq_H) : Option (Int32 × pq_H) :=
  (f_X9_firstFault p1 p2 h).bind fun r20 => if r20 = (-9) then (some (v3, h)) else (w2 (v3 + 1) h)
def f_X9_leastLift_l2 (p1 : Int32) (p2 : Int32) (w2 : Int32 → pq_H → Option (Int32 × pq_H)) (v3 : Int32) (h : pq_H) : Option (Int32 × pq_H) :=
  if 12 < v3 then (some ((-9), h)) else (if v3 ≤ 0 then (f_X9_leastLift_j17 p1 p2 w2 v3 h) else ((f_X9_raiseOnce p1 h).bind fun h14 => f_X9_leastLift_j17 p1 p2 w2 v3 h14))
def f_X9_leastLift (p1 : Int32) (p2 : Int32) (h : pq_H) : Option (Int32 × pq_H) :=
  lp (fun _ _ => none) (f_X9_leastLift_l2 p1 p2) 1000 0 h
set_option maxRecDepth 100000 in
set_option maxHeartbeats 4000000 in
theorem c_X9_leastLift (g : pq_g) {A : Nat → Prop} (hA : pq_A (SC g) A) (l : Launch) (p1 : Int32) (p2 : Int32) (h : pq_H) {rr : Int32} {hh : pq_H} (e : f_X9_leastLift p1 p2 h = some (rr, hh)) : pq_M (SC g) A l yX9_leastLift cX9_leastLift 4 (some .int) 4 88 [.ref ((SC g).1.2.1 59), .int p1, .int p2] h (some (.int rr)) hh := by
  refine pq_met hA l (own := RX9) 4 88 _ [(0, .ref ((SC g).1.2.1 59)), (1, .int p1), (2, .int p2)] h _ hh (by decide +kernel) rfl (Nat.le_of_ble_eq_true rfl) rfl (fun X hXl hXA hB hK hR => ?_)
  refine V.cast (F' := f_X9_leastLift p1 p2 h) (res' := (rr, hh)) (fun _ => e) ?_
  have hn2 : ∀ (n : Nat), ∀ (v3 : Int32) (h : pq_H), V X (SC g) (rr, hh) 4 2 [(0, .ref ((SC g).1.2.1 59)), (1, .int p1), (2, .int p2), (3, .int v3)] [] h (lp (fun _ _ => none) (f_X9_leastLift_l2 p1 p2) n v3 h) := by
    refine lp_ind (fun (w2 : Int32 → pq_H → Option (Int32 × pq_H)) => ∀ (v3 : Int32) (h : pq_H), V X (SC g) (rr, hh) 4 2 [(0, .ref ((SC g).1.2.1 59)), (1, .int p1), (2, .int p2), (3, .int v3)] [] h (w2 v3 h)) (fun _ _ => V.none _ _ _ _) (fun w2 ih2 => ?_)
    have hn17 : ∀ (v3 : Int32) (h : pq_H), V X (SC g) (rr, hh) 4 17 [(0, .ref ((SC g).1.2.1 59)), (1, .int p1), (2, .int p2), (3, .int v3)] [] h (f_X9_leastLift_j17 p1 p2 w2 v3 h) := by
      intro v3 h
      unfold f_X9_leastLift_j17
      refine v_aload_n hB 0 dX9_leastLift_17 rfl rfl ?_
      refine v_iload_n hB 1 dX9_leastLift_18 rfl rfl ?_
      refine v_iload_n hB 2 dX9_leastLift_19 rfl rfl ?_
      refine v_bRi (fun r20 e20 => v_callV hB hK hR.rm [.int p1, .int p2] [] (oC_59 g) lb_X9_firstFault lv_X9_56 (c_X9_firstFault g hK.A X.1.2.1 p1 p2 h e20) dX9_leastLift_20 rfl rfl (Nat.le_of_ble_eq_true rfl) (by decide) (by decide)) (fun r20 => ?_)
      refine v_bipush hB (-9) dX9_leastLift_23 (by decide) ?_
      refine v_icmp_ne (tgt := 30) hB dX9_leastLift_25 rfl ?_ ?_
      · refine v_iinc hB (v3 + 1) [(0, .ref ((SC g).1.2.1 59)), (1, .int p1), (2, .int p2), (3, .int (v3 + 1))] 3 [1, 2, 3, 0] dX9_leastLift_30 rfl rfl (by decide) rfl ?_
        refine v_goto (tgt := 2) hB dX9_leastLift_33 rfl ?_
        exact V.sub [0, 1, 2, 3] rfl (ih2 (v3 + 1) h)
      · refine v_iload_n hB 3 dX9_leastLift_28 rfl rfl ?_
        exact v_retWi (x := v3) hB hK hR dX9_leastLift_29
    intro v3 h
    unfold f_X9_leastLift_l2
    refine v_iload_n hB 3 dX9_leastLift_2 rfl rfl ?_
    refine v_bipush hB 12 dX9_leastLift_3 (by decide) ?_
    refine v_icmp_gt (tgt := 36) hB dX9_leastLift_5 rfl ?_ ?_
    · refine v_bipush hB (-9) dX9_leastLift_36 (by decide) ?_
      exact v_retWi (x := (-9)) hB hK hR dX9_leastLift_38
    · refine v_iload_n hB 3 dX9_leastLift_8 rfl rfl ?_
      refine v_if_le (tgt := 17) hB dX9_leastLift_9 rfl ?_ ?_
      · exact V.sub [0, 1, 2, 3] rfl (hn17 v3 h)
      · refine v_aload_n hB 0 dX9_leastLift_12 rfl rfl ?_
        refine v_iload_n hB 1 dX9_leastLift_13 rfl rfl ?_
        refine v_bV (fun h14 e14 => v_callV hB hK hR.rm [.int p1] [] (oC_59 g) lb_X9_raiseOnce lv_X9_38 (c_X9_raiseOnce g hK.A X.1.2.1 p1 h e14) dX9_leastLift_14 rfl rfl (Nat.le_of_ble_eq_true rfl) (by decide) (by decide)) (fun h14 => ?_)
        exact V.sub [0, 1, 2, 3] rfl (hn17 v3 h14)
  unfold f_X9_leastLift
  refine v_iconst hB 0 dX9_leastLift_0 (by decide) ?_
  refine v_istore_n hB [(0, .ref ((SC g).1.2.1 59)), (1, .int p1), (2, .int p2), (3, .int 0)] [1, 2, 3, 0] dX9_leastLift_1 rfl (by decide) rfl ?_
  exact V.sub [0, 1, 2, 3] rfl (hn2 1000 0 h)

def f_X9_worth_j68 (p1 : Int32) (w9 : Int64 → Int32 → Int32 → Option Int64) (v4 : Int64) (v6 : Int32) (v7 : Int32) (v8 : Int64) : Option Int64 :=
  w9 ((v4 * p1.toInt64) + v8) v6 (v7 + 1)
def f_X9_worth_l27 (p1 : Int32) (p2 : Int32) (p3 : Int32) (h : pq_H) (w9 : Int64 → Int32 → Int32 → Option Int64) (v4 : Int64) (v7 : Int32) (w27 : Int32 → Int64 → Int64 → Int32 → Option Int64) (v6 : Int32) (v8 : Int64) (v10 : Int64) (v12 : Int32) : Option Int64 :=
  if v7 < v12 then (f_X9_worth_j68 p1 w9 v4 v6 v7 v8) else (gd (inb v6 190) (w27 (v6 + 1) ((v8 * p2.toInt64) + ((rJ h 60 v6.toNatClampNeg) * v10)) (v10 * p3.toInt64) (v12 + 1)))
def f_X9_worth_l9 (p1 : Int32) (p2 : Int32) (p3 : Int32) (h : pq_H) (w9 : Int64 → Int32 → Int32 → Option Int64) (v4 : Int64) (v6 : Int32) (v7 : Int32) : Option Int64 :=
  if (rI h 59 1) < v7 then (some v4) else (lp (fun _ _ _ _ => none) (f_X9_worth_l27 p1 p2 p3 h w9 v4 v7) 1000 v6 0 1 0)
def f_X9_worth (p1 : Int32) (p2 : Int32) (p3 : Int32) (h : pq_H) : Option Int64 :=
  lp (fun _ _ _ => none) (f_X9_worth_l9 p1 p2 p3 h) 1000 0 0 0
set_option maxRecDepth 100000 in
set_option maxHeartbeats 4000000 in
theorem c_X9_worth (g : pq_g) {A : Nat → Prop} (hA : pq_A (SC g) A) (l : Launch) (p1 : Int32) (p2 : Int32) (p3 : Int32) (h : pq_H) {rr : Int64} (e : f_X9_worth p1 p2 p3 h = some rr) : pq_M (SC g) A l yX9_worth cX9_worth 13 (some .long) 0 0 [.ref ((SC g).1.2.1 59), .int p1, .int p2, .int p3] h (some (.long rr)) h := by
  refine pq_met hA l (own := RX9) 0 0 _ [(0, .ref ((SC g).1.2.1 59)), (1, .int p1), (2, .int p2), (3, .int p3)] h _ h (by decide +kernel) rfl (Nat.le_of_ble_eq_true rfl) rfl (fun X hXl hXA hB hK hR => ?_)
  refine V.cast (F' := f_X9_worth p1 p2 p3 h) (res' := rr) (fun _ => e) ?_
  have hn9 : ∀ (n : Nat), ∀ (v4 : Int64) (v6 : Int32) (v7 : Int32), V X (SC g) rr 13 9 [(0, .ref ((SC g).1.2.1 59)), (1, .int p1), (2, .int p2), (3, .int p3), (4, .long v4), (6, .int v6), (7, .int v7)] [] h (lp (fun _ _ _ => none) (f_X9_worth_l9 p1 p2 p3 h) n v4 v6 v7) := by
    refine lp_ind (fun (w9 : Int64 → Int32 → Int32 → Option Int64) => ∀ (v4 : Int64) (v6 : Int32) (v7 : Int32), V X (SC g) rr 13 9 [(0, .ref ((SC g).1.2.1 59)), (1, .int p1), (2, .int p2), (3, .int p3), (4, .long v4), (6, .int v6), (7, .int v7)] [] h (w9 v4 v6 v7)) (fun _ _ _ => V.none _ _ _ _) (fun w9 ih9 => ?_)
    have hn68 : ∀ (v4 : Int64) (v6 : Int32) (v7 : Int32) (v8 : Int64), V X (SC g) rr 13 68 [(0, .ref ((SC g).1.2.1 59)), (1, .int p1), (2, .int p2), (3, .int p3), (4, .long v4), (6, .int v6), (7, .int v7), (8, .long v8)] [] h (f_X9_worth_j68 p1 w9 v4 v6 v7 v8) := by
      intro v4 v6 v7 v8
      unfold f_X9_worth_j68
      refine v_lload hB 4 dX9_worth_68 rfl ?_
      refine v_iload_n hB 1 dX9_worth_70 rfl rfl ?_
      refine v_i2l hB dX9_worth_71 ?_
      refine v_lmul hB dX9_worth_72 ?_
      refine v_lload hB 7 dX9_worth_73 rfl ?_
      refine v_ladd hB dX9_worth_75 ?_
      refine v_lstore hB [(0, .ref ((SC g).1.2.1 59)), (1, .int p1), (2, .int p2), (3, .int p3), (4, .long ((v4 * p1.toInt64) + v8)), (6, .int v6), (7, .int v7), (8, .long v8)] [1, 2, 3, 4, 0, 5, 6, 7] dX9_worth_76 (by decide) rfl ?_
      refine v_iinc hB (v7 + 1) [(0, .ref ((SC g).1.2.1 59)), (1, .int p1), (2, .int p2), (3, .int p3), (4, .long ((v4 * p1.toInt64) + v8)), (6, .int v6), (7, .int (v7 + 1)), (8, .long v8)] 6 [1, 2, 3, 4, 5, 6, 0, 7] dX9_worth_78 rfl rfl (by decide) rfl ?_
      refine v_goto (tgt := 9) hB dX9_worth_81 rfl ?_
      exact V.sub [0, 1, 2, 3, 4, 5, 6] rfl (ih9 ((v4 * p1.toInt64) + v8) v6 (v7 + 1))
    have hn27 : ∀ (v4 : Int64) (v7 : Int32) (n : Nat), ∀ (v6 : Int32) (v8 : Int64) (v10 : Int64) (v12 : Int32), V X (SC g) rr 13 27 [(0, .ref ((SC g).1.2.1 59)), (1, .int p1), (2, .int p2), (3, .int p3), (4, .long v4), (6, .int v6), (7, .int v7), (8, .long v8), (10, .long v10), (12, .int v12)] [] h (lp (fun _ _ _ _ => none) (f_X9_worth_l27 p1 p2 p3 h w9 v4 v7) n v6 v8 v10 v12) := by
      intro v4 v7
      refine lp_ind (fun (w27 : Int32 → Int64 → Int64 → Int32 → Option Int64) => ∀ (v6 : Int32) (v8 : Int64) (v10 : Int64) (v12 : Int32), V X (SC g) rr 13 27 [(0, .ref ((SC g).1.2.1 59)), (1, .int p1), (2, .int p2), (3, .int p3), (4, .long v4), (6, .int v6), (7, .int v7), (8, .long v8), (10, .long v10), (12, .int v12)] [] h (w27 v6 v8 v10 v12)) (fun _ _ _ _ => V.none _ _ _ _) (fun w27 ih27 => ?_)
      intro v6 v8 v10 v12
      unfold f_X9_worth_l27
      refine v_iload hB 9 dX9_worth_27 rfl ?_
      refine v_iload hB 6 dX9_worth_29 rfl ?_
      refine v_icmp_gt (tgt := 68) hB dX9_worth_31 rfl ?_ ?_
      · exact V.sub [0, 1, 2, 3, 4, 5, 6, 7] rfl (hn68 v4 v6 v7 v8)
      · refine v_lload hB 7 dX9_worth_34 rfl ?_
        refine v_iload_n hB 2 dX9_worth_36 rfl rfl ?_
        refine v_i2l hB dX9_worth_37 ?_
        refine v_lmul hB dX9_worth_38 ?_
        refine v_aload_n hB 0 dX9_worth_39 rfl rfl ?_
        refine v_getA hB hK (fl_X9_9 g) (cCA_59_0 g) dX9_worth_40 ?_
        refine v_iload hB 5 dX9_worth_43 rfl ?_
        refine v_lald hB hK (aCJ_60 g) dX9_worth_45 ?_
        refine v_lload hB 8 dX9_worth_46 rfl ?_
        refine v_lmul hB dX9_worth_48 ?_
        refine v_ladd hB dX9_worth_49 ?_
        refine v_lstore hB [(0, .ref ((SC g).1.2.1 59)), (1, .int p1), (2, .int p2), (3, .int p3), (4, .long v4), (6, .int v6), (7, .int v7), (8, .long ((v8 * p2.toInt64) + ((rJ h 60 v6.toNatClampNeg) * v10))), (10, .long v10), (12, .int v12)] [1, 2, 3, 4, 5, 6, 7, 0, 8, 9] dX9_worth_50 (by decide) rfl ?_
        refine v_lload hB 8 dX9_worth_52 rfl ?_
        refine v_iload_n hB 3 dX9_worth_54 rfl rfl ?_
        refine v_i2l hB dX9_worth_55 ?_
        refine v_lmul hB dX9_worth_56 ?_
        refine v_lstore hB [(0, .ref ((SC g).1.2.1 59)), (1, .int p1), (2, .int p2), (3, .int p3), (4, .long v4), (6, .int v6), (7, .int v7), (8, .long ((v8 * p2.toInt64) + ((rJ h 60 v6.toNatClampNeg) * v10))), (10, .long (v10 * p3.toInt64)), (12, .int v12)] [1, 2, 3, 4, 5, 6, 7, 8, 0, 9] dX9_worth_57 (by decide) rfl ?_
        refine v_iinc hB (v6 + 1) [(0, .ref ((SC g).1.2.1 59)), (1, .int p1), (2, .int p2), (3, .int p3), (4, .long v4), (6, .int (v6 + 1)), (7, .int v7), (8, .long ((v8 * p2.toInt64) + ((rJ h 60 v6.toNatClampNeg) * v10))), (10, .long (v10 * p3.toInt64)), (12, .int v12)] 5 [1, 2, 3, 4, 5, 0, 6, 7, 8, 9] dX9_worth_59 rfl rfl (by decide) rfl ?_
        refine v_iinc hB (v12 + 1) [(0, .ref ((SC g).1.2.1 59)), (1, .int p1), (2, .int p2), (3, .int p3), (4, .long v4), (6, .int (v6 + 1)), (7, .int v7), (8, .long ((v8 * p2.toInt64) + ((rJ h 60 v6.toNatClampNeg) * v10))), (10, .long (v10 * p3.toInt64)), (12, .int (v12 + 1))] 9 [1, 2, 3, 4, 5, 6, 7, 8, 9, 0] dX9_worth_62 rfl rfl (by decide) rfl ?_
        refine v_goto (tgt := 27) hB dX9_worth_65 rfl ?_
        exact V.sub [0, 1, 2, 3, 4, 5, 6, 7, 8, 9] rfl (ih27 (v6 + 1) ((v8 * p2.toInt64) + ((rJ h 60 v6.toNatClampNeg) * v10)) (v10 * p3.toInt64) (v12 + 1))
    intro v4 v6 v7
    unfold f_X9_worth_l9
    refine v_iload hB 6 dX9_worth_9 rfl ?_
    refine v_aload_n hB 0 dX9_worth_11 rfl rfl ?_
    refine v_getI hB hK (fl_X9_15 g) (cCI_59_1 g) dX9_worth_12 ?_
    refine v_icmp_gt (tgt := 84) hB dX9_worth_15 rfl ?_ ?_
    · refine v_lload hB 4 dX9_worth_84 rfl ?_
      exact v_retRj (x := v4) hB hK hR dX9_worth_86
    · refine v_lconst hB 0 dX9_worth_18 (by decide) ?_
      refine v_lstore hB [(0, .ref ((SC g).1.2.1 59)), (1, .int p1), (2, .int p2), (3, .int p3), (4, .long v4), (6, .int v6), (7, .int v7), (8, .long 0)] [1, 2, 3, 4, 5, 6, 7, 0] dX9_worth_19 (by decide) rfl ?_
      refine v_lconst hB 1 dX9_worth_21 (by decide) ?_
      refine v_lstore hB [(0, .ref ((SC g).1.2.1 59)), (1, .int p1), (2, .int p2), (3, .int p3), (4, .long v4), (6, .int v6), (7, .int v7), (8, .long 0), (10, .long 1)] [1, 2, 3, 4, 5, 6, 7, 8, 0] dX9_worth_22 (by decide) rfl ?_
      refine v_iconst hB 0 dX9_worth_24 (by decide) ?_
      refine v_istore hB [(0, .ref ((SC g).1.2.1 59)), (1, .int p1), (2, .int p2), (3, .int p3), (4, .long v4), (6, .int v6), (7, .int v7), (8, .long 0), (10, .long 1), (12, .int 0)] [1, 2, 3, 4, 5, 6, 7, 8, 9, 0] dX9_worth_25 (by decide) rfl ?_
      exact V.sub [0, 1, 2, 3, 4, 5, 6, 7, 8, 9] rfl (hn27 v4 v7 1000 v6 0 1 0)
  unfold f_X9_worth
  refine v_lconst hB 0 dX9_worth_0 (by decide) ?_
  refine v_lstore hB [(0, .ref ((SC g).1.2.1 59)), (1, .int p1), (2, .int p2), (3, .int p3), (4, .long 0)] [1, 2, 3, 4, 0] dX9_worth_1 (by decide) rfl ?_
  refine v_iconst hB 0 dX9_worth_3 (by decide) ?_
  refine v_istore hB [(0, .ref ((SC g).1.2.1 59)), (1, .int p1), (2, .int p2), (3, .int p3), (4, .long 0), (6, .int 0)] [1, 2, 3, 4, 5, 0] dX9_worth_4 (by decide) rfl ?_
  refine v_iconst hB 0 dX9_worth_6 (by decide) ?_
  refine v_istore hB [(0, .ref ((SC g).1.2.1 59)), (1, .int p1), (2, .int p2), (3, .int p3), (4, .long 0), (6, .int 0), (7, .int 0)] [1, 2, 3, 4, 5, 6, 0] dX9_worth_7 (by decide) rfl ?_
  exact V.sub [0, 1, 2, 3, 4, 5, 6] rfl (hn9 1000 0 0 0)

def f_X9_worthAt (p1 : Int32) (p2 : Int32) (p3 : Int32) (h : pq_H) : Option Int64 :=
  (f_X10_behindA (f_X10_numberOn p1 p2 p3)).bind fun r10 => (f_X9_worth (p2 - r10) (r10 - ((f_X10_numberOn p1 p2 p3) - (f_X10_termOf r10 0))) ((f_X10_numberOn p1 p2 p3) - (f_X10_termOf r10 0)) h).bind fun r38 => some r38
set_option maxRecDepth 100000 in
set_option maxHeartbeats 4000000 in
theorem c_X9_worthAt (g : pq_g) {A : Nat → Prop} (hA : pq_A (SC g) A) (l : Launch) (p1 : Int32) (p2 : Int32) (p3 : Int32) (h : pq_H) {rr : Int64} (e : f_X9_worthAt p1 p2 p3 h = some rr) : pq_M (SC g) A l yX9_worthAt cX9_worthAt 7 (some .long) 2 43 [.ref ((SC g).1.2.1 59), .int p1, .int p2, .int p3] h (some (.long rr)) h := by
  refine pq_met hA l (own := RX9) 2 43 _ [(0, .ref ((SC g).1.2.1 59)), (1, .int p1), (2, .int p2), (3, .int p3)] h _ h (by decide +kernel) rfl (Nat.le_of_ble_eq_true rfl) rfl (fun X hXl hXA hB hK hR => ?_)
  refine V.cast (F' := f_X9_worthAt p1 p2 p3 h) (res' := rr) (fun _ => e) ?_
  unfold f_X9_worthAt
  refine v_iload_n hB 1 dX9_worthAt_0 rfl rfl ?_
  refine v_iload_n hB 2 dX9_worthAt_1 rfl rfl ?_
  refine v_iload_n hB 3 dX9_worthAt_2 rfl rfl ?_
  refine v_bT (v_callSN hB hK hR.rm [.int p1, .int p2, .int p3] [] lb_X10_numberOn (nk_X9_42 g) lv_X9_42 (c_X10_numberOn g hK.A X.1.2.1 p1 p2 p3 h) dX9_worthAt_3 rfl rfl (Nat.le_of_ble_eq_true rfl) (by decide) (by decide)) ?_
  refine v_istore hB [(0, .ref ((SC g).1.2.1 59)), (1, .int p1), (2, .int p2), (3, .int p3), (4, .int (f_X10_numberOn p1 p2 p3))] [1, 2, 3, 4, 0] dX9_worthAt_6 (by decide) rfl ?_
  refine v_iload hB 4 dX9_worthAt_8 rfl ?_
  refine v_bRi (fun r10 e10 => v_callSN hB hK hR.rm [.int (f_X10_numberOn p1 p2 p3)] [] lb_X10_behindA (nk_X9_59 g) lv_X9_59 (c_X10_behindA g hK.A X.1.2.1 (f_X10_numberOn p1 p2 p3) h e10) dX9_worthAt_10 rfl rfl (Nat.le_of_ble_eq_true rfl) (by decide) (by decide)) (fun r10 => ?_)
  refine v_istore hB [(0, .ref ((SC g).1.2.1 59)), (1, .int p1), (2, .int p2), (3, .int p3), (4, .int (f_X10_numberOn p1 p2 p3)), (5, .int r10)] [1, 2, 3, 4, 5, 0] dX9_worthAt_13 (by decide) rfl ?_
  refine v_iload hB 4 dX9_worthAt_15 rfl ?_
  refine v_iload hB 5 dX9_worthAt_17 rfl ?_
  refine v_iconst hB 0 dX9_worthAt_19 (by decide) ?_
  refine v_bT (v_callSN hB hK hR.rm [.int r10, .int 0] [.int (f_X10_numberOn p1 p2 p3)] lb_X10_termOf (nk_X9_26 g) lv_X9_26 (c_X10_termOf g hK.A X.1.2.1 r10 0 h) dX9_worthAt_20 rfl rfl (Nat.le_of_ble_eq_true rfl) (by decide) (by decide)) ?_
  refine v_isub hB dX9_worthAt_23 ?_
  refine v_istore hB [(0, .ref ((SC g).1.2.1 59)), (1, .int p1), (2, .int p2), (3, .int p3), (4, .int (f_X10_numberOn p1 p2 p3)), (5, .int r10), (6, .int ((f_X10_numberOn p1 p2 p3) - (f_X10_termOf r10 0)))] [1, 2, 3, 4, 5, 6, 0] dX9_worthAt_24 (by decide) rfl ?_
  refine v_aload_n hB 0 dX9_worthAt_26 rfl rfl ?_
  refine v_iload_n hB 2 dX9_worthAt_27 rfl rfl ?_
  refine v_iload hB 5 dX9_worthAt_28 rfl ?_
  refine v_isub hB dX9_worthAt_30 ?_
  refine v_iload hB 5 dX9_worthAt_31 rfl ?_
  refine v_iload hB 6 dX9_worthAt_33 rfl ?_
  refine v_isub hB dX9_worthAt_35 ?_
  refine v_iload hB 6 dX9_worthAt_36 rfl ?_
  refine v_bRj (fun r38 e38 => v_callV hB hK hR.rm [.int (p2 - r10), .int (r10 - ((f_X10_numberOn p1 p2 p3) - (f_X10_termOf r10 0))), .int ((f_X10_numberOn p1 p2 p3) - (f_X10_termOf r10 0))] [] (oC_59 g) lb_X9_worth lv_X9_62 (c_X9_worth g hK.A X.1.2.1 (p2 - r10) (r10 - ((f_X10_numberOn p1 p2 p3) - (f_X10_termOf r10 0))) ((f_X10_numberOn p1 p2 p3) - (f_X10_termOf r10 0)) h e38) dX9_worthAt_38 rfl rfl (Nat.le_of_ble_eq_true rfl) (by decide) (by decide)) (fun r38 => ?_)
  exact v_retRj (x := r38) hB hK hR dX9_worthAt_41

def f_X9_failingPoint_l3 (p1 : Int32) (p2 : Int32) (p3 : Int32) (h : pq_H) (w3 : Int32 → Option Int32) (v4 : Int32) : Option Int32 :=
  if (f_X10_placesOn p1 p3) ≤ v4 then (some (-9)) else ((f_X9_worthAt p1 p3 v4 h).bind fun r18 => if (f_X10_fails r18 p2) = true then (some v4) else (w3 (v4 + 1)))
def f_X9_failingPoint (p1 : Int32) (p2 : Int32) (p3 : Int32) (h : pq_H) : Option Int32 :=
  lp (fun _ => none) (f_X9_failingPoint_l3 p1 p2 p3 h) 1000 0
set_option maxRecDepth 100000 in
set_option maxHeartbeats 4000000 in
theorem c_X9_failingPoint (g : pq_g) {A : Nat → Prop} (hA : pq_A (SC g) A) (l : Launch) (p1 : Int32) (p2 : Int32) (p3 : Int32) (h : pq_H) {rr : Int32} (e : f_X9_failingPoint p1 p2 p3 h = some rr) : pq_M (SC g) A l yX9_failingPoint cX9_failingPoint 5 (some .int) 3 69 [.ref ((SC g).1.2.1 59), .int p1, .int p2, .int p3] h (some (.int rr)) h := by
  refine pq_met hA l (own := RX9) 3 69 _ [(0, .ref ((SC g).1.2.1 59)), (1, .int p1), (2, .int p2), (3, .int p3)] h _ h (by decide +kernel) rfl (Nat.le_of_ble_eq_true rfl) rfl (fun X hXl hXA hB hK hR => ?_)
  refine V.cast (F' := f_X9_failingPoint p1 p2 p3 h) (res' := rr) (fun _ => e) ?_
  have hn3 : ∀ (n : Nat), ∀ (v4 : Int32), V X (SC g) rr 5 3 [(0, .ref ((SC g).1.2.1 59)), (1, .int p1), (2, .int p2), (3, .int p3), (4, .int v4)] [] h (lp (fun _ => none) (f_X9_failingPoint_l3 p1 p2 p3 h) n v4) := by
    refine lp_ind (fun (w3 : Int32 → Option Int32) => ∀ (v4 : Int32), V X (SC g) rr 5 3 [(0, .ref ((SC g).1.2.1 59)), (1, .int p1), (2, .int p2), (3, .int p3), (4, .int v4)] [] h (w3 v4)) (fun _ => V.none _ _ _ _) (fun w3 ih3 => ?_)
    intro v4
    unfold f_X9_failingPoint_l3
    refine v_iload hB 4 dX9_failingPoint_3 rfl ?_
    refine v_iload_n hB 1 dX9_failingPoint_5 rfl rfl ?_
    refine v_iload_n hB 3 dX9_failingPoint_6 rfl rfl ?_
    refine v_bT (v_callSN hB hK hR.rm [.int p1, .int p3] [.int v4] lb_X10_placesOn (nk_X9_45 g) lv_X9_45 (c_X10_placesOn g hK.A X.1.2.1 p1 p3 h) dX9_failingPoint_7 rfl rfl (Nat.le_of_ble_eq_true rfl) (by decide) (by decide)) ?_
    refine v_icmp_ge (tgt := 37) hB dX9_failingPoint_10 rfl ?_ ?_
    · refine v_bipush hB (-9) dX9_failingPoint_37 (by decide) ?_
      exact v_retRi (x := (-9)) hB hK hR dX9_failingPoint_39
    · refine v_aload_n hB 0 dX9_failingPoint_13 rfl rfl ?_
      refine v_iload_n hB 1 dX9_failingPoint_14 rfl rfl ?_
      refine v_iload_n hB 3 dX9_failingPoint_15 rfl rfl ?_
      refine v_iload hB 4 dX9_failingPoint_16 rfl ?_
      refine v_bRj (fun r18 e18 => v_callV hB hK hR.rm [.int p1, .int p3, .int v4] [] (oC_59 g) lb_X9_worthAt lv_X9_69 (c_X9_worthAt g hK.A X.1.2.1 p1 p3 v4 h e18) dX9_failingPoint_18 rfl rfl (Nat.le_of_ble_eq_true rfl) (by decide) (by decide)) (fun r18 => ?_)
      refine v_iload_n hB 2 dX9_failingPoint_21 rfl rfl ?_
      refine v_bT (v_callSN hB hK hR.rm [.long r18, .int p2] [] lb_X10_fails (nk_X9_52 g) lv_X9_52 (c_X10_fails g hK.A X.1.2.1 r18 p2 h) dX9_failingPoint_22 rfl rfl (Nat.le_of_ble_eq_true rfl) (by decide) (by decide)) ?_
      refine v_ifz_eq (r := f_X10_fails r18 p2) (tgt := 31) hB dX9_failingPoint_25 rfl ?_ ?_
      · refine v_iinc hB (v4 + 1) [(0, .ref ((SC g).1.2.1 59)), (1, .int p1), (2, .int p2), (3, .int p3), (4, .int (v4 + 1))] 4 [1, 2, 3, 4, 0] dX9_failingPoint_31 rfl rfl (by decide) rfl ?_
        refine v_goto (tgt := 3) hB dX9_failingPoint_34 rfl ?_
        exact V.sub [0, 1, 2, 3, 4] rfl (ih3 (v4 + 1))
      · refine v_iload hB 4 dX9_failingPoint_28 rfl ?_
        exact v_retRi (x := v4) hB hK hR dX9_failingPoint_30
  unfold f_X9_failingPoint
  refine v_iconst hB 0 dX9_failingPoint_0 (by decide) ?_
  refine v_istore hB [(0, .ref ((SC g).1.2.1 59)), (1, .int p1), (2, .int p2), (3, .int p3), (4, .int 0)] [1, 2, 3, 4, 0] dX9_failingPoint_1 (by decide) rfl ?_
  exact V.sub [0, 1, 2, 3, 4] rfl (hn3 1000 0)

def f_X9_failingSize_l2 (p1 : Int32) (p2 : Int32) (h : pq_H) (w2 : Int32 → Option Int32) (v3 : Int32) : Option Int32 :=
  if 12 < v3 then (some (-9)) else ((f_X9_failingPoint p1 p2 v3 h).bind fun r12 => if r12 = (-9) then (w2 (v3 + 1)) else (some v3))
def f_X9_failingSize (p1 : Int32) (p2 : Int32) (h : pq_H) : Option Int32 :=
  lp (fun _ => none) (f_X9_failingSize_l2 p1 p2 h) 1000 1
set_option maxRecDepth 100000 in
set_option maxHeartbeats 4000000 in
theorem c_X9_failingSize (g : pq_g) {A : Nat → Prop} (hA : pq_A (SC g) A) (l : Launch) (p1 : Int32) (p2 : Int32) (h : pq_H) {rr : Int32} (e : f_X9_failingSize p1 p2 h = some rr) : pq_M (SC g) A l yX9_failingSize cX9_failingSize 4 (some .int) 4 93 [.ref ((SC g).1.2.1 59), .int p1, .int p2] h (some (.int rr)) h := by
  refine pq_met hA l (own := RX9) 4 93 _ [(0, .ref ((SC g).1.2.1 59)), (1, .int p1), (2, .int p2)] h _ h (by decide +kernel) rfl (Nat.le_of_ble_eq_true rfl) rfl (fun X hXl hXA hB hK hR => ?_)
  refine V.cast (F' := f_X9_failingSize p1 p2 h) (res' := rr) (fun _ => e) ?_
  have hn2 : ∀ (n : Nat), ∀ (v3 : Int32), V X (SC g) rr 4 2 [(0, .ref ((SC g).1.2.1 59)), (1, .int p1), (2, .int p2), (3, .int v3)] [] h (lp (fun _ => none) (f_X9_failingSize_l2 p1 p2 h) n v3) := by
    refine lp_ind (fun (w2 : Int32 → Option Int32) => ∀ (v3 : Int32), V X (SC g) rr 4 2 [(0, .ref ((SC g).1.2.1 59)), (1, .int p1), (2, .int p2), (3, .int v3)] [] h (w2 v3)) (fun _ => V.none _ _ _ _) (fun w2 ih2 => ?_)
    intro v3
    unfold f_X9_failingSize_l2
    refine v_iload_n hB 3 dX9_failingSize_2 rfl rfl ?_
    refine v_bipush hB 12 dX9_failingSize_3 (by decide) ?_
    refine v_icmp_gt (tgt := 28) hB dX9_failingSize_5 rfl ?_ ?_
    · refine v_bipush hB (-9) dX9_failingSize_28 (by decide) ?_
      exact v_retRi (x := (-9)) hB hK hR dX9_failingSize_30
    · refine v_aload_n hB 0 dX9_failingSize_8 rfl rfl ?_
      refine v_iload_n hB 1 dX9_failingSize_9 rfl rfl ?_
      refine v_iload_n hB 2 dX9_failingSize_10 rfl rfl ?_
      refine v_iload_n hB 3 dX9_failingSize_11 rfl rfl ?_
      refine v_bRi (fun r12 e12 => v_callV hB hK hR.rm [.int p1, .int p2, .int v3] [] (oC_59 g) lb_X9_failingPoint lv_X9_66 (c_X9_failingPoint g hK.A X.1.2.1 p1 p2 v3 h e12) dX9_failingSize_12 rfl rfl (Nat.le_of_ble_eq_true rfl) (by decide) (by decide)) (fun r12 => ?_)
      refine v_bipush hB (-9) dX9_failingSize_15 (by decide) ?_
      refine v_icmp_eq (tgt := 22) hB dX9_failingSize_17 rfl ?_ ?_
      · refine v_iinc hB (v3 + 1) [(0, .ref ((SC g).1.2.1 59)), (1, .int p1), (2, .int p2), (3, .int (v3 + 1))] 3 [1, 2, 3, 0] dX9_failingSize_22 rfl rfl (by decide) rfl ?_
        refine v_goto (tgt := 2) hB dX9_failingSize_25 rfl ?_
        exact V.sub [0, 1, 2, 3] rfl (ih2 (v3 + 1))
      · refine v_iload_n hB 3 dX9_failingSize_20 rfl rfl ?_
        exact v_retRi (x := v3) hB hK hR dX9_failingSize_21
  unfold f_X9_failingSize
  refine v_iconst hB 1 dX9_failingSize_0 (by decide) ?_
  refine v_istore_n hB [(0, .ref ((SC g).1.2.1 59)), (1, .int p1), (2, .int p2), (3, .int 1)] [1, 2, 3, 0] dX9_failingSize_1 rfl (by decide) rfl ?_
  exact V.sub [0, 1, 2, 3] rfl (hn2 1000 1)

def f_X9_lowestPoint_j49 (w14 : Int32 → Int64 → Int32 → Option Int32) (v3 : Int32) (v4 : Int64) (v6 : Int32) : Option Int32 :=
  w14 v3 v4 (v6 + 1)
def f_X9_lowestPoint_l14 (p1 : Int32) (p2 : Int32) (h : pq_H) (w14 : Int32 → Int64 → Int32 → Option Int32) (v3 : Int32) (v4 : Int64) (v6 : Int32) : Option Int32 :=
  if (f_X10_placesOn p1 p2) ≤ v6 then (some v3) else ((f_X9_worthAt p1 p2 v6 h).bind fun r29 => if v4 ≤ r29 then (f_X9_lowestPoint_j49 w14 v3 v4 v6) else (f_X9_lowestPoint_j49 w14 v6 r29 v6))
def f_X9_lowestPoint (p1 : Int32) (p2 : Int32) (h : pq_H) : Option Int32 :=
  (f_X9_worthAt p1 p2 0 h).bind fun r6 => lp (fun _ _ _ => none) (f_X9_lowestPoint_l14 p1 p2 h) 1000 0 r6 1
set_option maxRecDepth 100000 in
set_option maxHeartbeats 4000000 in
theorem c_X9_lowestPoint (g : pq_g) {A : Nat → Prop} (hA : pq_A (SC g) A) (l : Launch) (p1 : Int32) (p2 : Int32) (h : pq_H) {rr : Int32} (e : f_X9_lowestPoint p1 p2 h = some rr) : pq_M (SC g) A l yX9_lowestPoint cX9_lowestPoint 9 (some .int) 3 69 [.ref ((SC g).1.2.1 59), .int p1, .int p2] h (some (.int rr)) h := by
  refine pq_met hA l (own := RX9) 3 69 _ [(0, .ref ((SC g).1.2.1 59)), (1, .int p1), (2, .int p2)] h _ h (by decide +kernel) rfl (Nat.le_of_ble_eq_true rfl) rfl (fun X hXl hXA hB hK hR => ?_)
  refine V.cast (F' := f_X9_lowestPoint p1 p2 h) (res' := rr) (fun _ => e) ?_
  have hn14 : ∀ (n : Nat), ∀ (v3 : Int32) (v4 : Int64) (v6 : Int32), V X (SC g) rr 9 14 [(0, .ref ((SC g).1.2.1 59)), (1, .int p1), (2, .int p2), (3, .int v3), (4, .long v4), (6, .int v6)] [] h (lp (fun _ _ _ => none) (f_X9_lowestPoint_l14 p1 p2 h) n v3 v4 v6) := by
    refine lp_ind (fun (w14 : Int32 → Int64 → Int32 → Option Int32) => ∀ (v3 : Int32) (v4 : Int64) (v6 : Int32), V X (SC g) rr 9 14 [(0, .ref ((SC g).1.2.1 59)), (1, .int p1), (2, .int p2), (3, .int v3), (4, .long v4), (6, .int v6)] [] h (w14 v3 v4 v6)) (fun _ _ _ => V.none _ _ _ _) (fun w14 ih14 => ?_)
    have hn49 : ∀ (v3 : Int32) (v4 : Int64) (v6 : Int32), V X (SC g) rr 9 49 [(0, .ref ((SC g).1.2.1 59)), (1, .int p1), (2, .int p2), (3, .int v3), (4, .long v4), (6, .int v6)] [] h (f_X9_lowestPoint_j49 w14 v3 v4 v6) := by
      intro v3 v4 v6
      unfold f_X9_lowestPoint_j49
      refine v_iinc hB (v6 + 1) [(0, .ref ((SC g).1.2.1 59)), (1, .int p1), (2, .int p2), (3, .int v3), (4, .long v4), (6, .int (v6 + 1))] 5 [1, 2, 3, 4, 5, 0] dX9_lowestPoint_49 rfl rfl (by decide) rfl ?_
      refine v_goto (tgt := 14) hB dX9_lowestPoint_52 rfl ?_
      exact V.sub [0, 1, 2, 3, 4, 5] rfl (ih14 v3 v4 (v6 + 1))
    intro v3 v4 v6
    unfold f_X9_lowestPoint_l14
    refine v_iload hB 5 dX9_lowestPoint_14 rfl ?_
    refine v_iload_n hB 1 dX9_lowestPoint_16 rfl rfl ?_
    refine v_iload_n hB 2 dX9_lowestPoint_17 rfl rfl ?_
    refine v_bT (v_callSN hB hK hR.rm [.int p1, .int p2] [.int v6] lb_X10_placesOn (nk_X9_45 g) lv_X9_45 (c_X10_placesOn g hK.A X.1.2.1 p1 p2 h) dX9_lowestPoint_18 rfl rfl (Nat.le_of_ble_eq_true rfl) (by decide) (by decide)) ?_
    refine v_icmp_ge (tgt := 55) hB dX9_lowestPoint_21 rfl ?_ ?_
    · refine v_iload_n hB 3 dX9_lowestPoint_55 rfl rfl ?_
      exact v_retRi (x := v3) hB hK hR dX9_lowestPoint_56
    · refine v_aload_n hB 0 dX9_lowestPoint_24 rfl rfl ?_
      refine v_iload_n hB 1 dX9_lowestPoint_25 rfl rfl ?_
      refine v_iload_n hB 2 dX9_lowestPoint_26 rfl rfl ?_
      refine v_iload hB 5 dX9_lowestPoint_27 rfl ?_
      refine v_bRj (fun r29 e29 => v_callV hB hK hR.rm [.int p1, .int p2, .int v6] [] (oC_59 g) lb_X9_worthAt lv_X9_69 (c_X9_worthAt g hK.A X.1.2.1 p1 p2 v6 h e29) dX9_lowestPoint_29 rfl rfl (Nat.le_of_ble_eq_true rfl) (by decide) (by decide)) (fun r29 => ?_)
      refine v_lstore hB [(0, .ref ((SC g).1.2.1 59)), (1, .int p1), (2, .int p2), (3, .int v3), (4, .long v4), (6, .int v6), (7, .long r29)] [1, 2, 3, 4, 5, 6, 0] dX9_lowestPoint_32 (by decide) rfl ?_
      refine v_lload hB 6 dX9_lowestPoint_34 rfl ?_
      refine v_lload hB 4 dX9_lowestPoint_36 rfl ?_
      refine v_lcmp_ge (tgt := 49) hB dX9_lowestPoint_38 dX9_lowestPoint_39 rfl ?_ ?_
      · exact V.sub [0, 1, 2, 3, 4, 5] rfl (hn49 v3 v4 v6)
      · refine v_iload hB 5 dX9_lowestPoint_42 rfl ?_
        refine v_istore_n hB [(0, .ref ((SC g).1.2.1 59)), (1, .int p1), (2, .int p2), (3, .int v6), (4, .long v4), (6, .int v6), (7, .long r29)] [1, 2, 3, 0, 4, 5, 6] dX9_lowestPoint_44 rfl (by decide) rfl ?_
        refine v_lload hB 6 dX9_lowestPoint_45 rfl ?_
        refine v_lstore hB [(0, .ref ((SC g).1.2.1 59)), (1, .int p1), (2, .int p2), (3, .int v6), (4, .long r29), (6, .int v6), (7, .long r29)] [1, 2, 3, 4, 0, 5, 6] dX9_lowestPoint_47 (by decide) rfl ?_
        exact V.sub [0, 1, 2, 3, 4, 5] rfl (hn49 v6 r29 v6)
  unfold f_X9_lowestPoint
  refine v_iconst hB 0 dX9_lowestPoint_0 (by decide) ?_
  refine v_istore_n hB [(0, .ref ((SC g).1.2.1 59)), (1, .int p1), (2, .int p2), (3, .int 0)] [1, 2, 3, 0] dX9_lowestPoint_1 rfl (by decide) rfl ?_
  refine v_aload_n hB 0 dX9_lowestPoint_2 rfl rfl ?_
  refine v_iload_n hB 1 dX9_lowestPoint_3 rfl rfl ?_
  refine v_iload_n hB 2 dX9_lowestPoint_4 rfl rfl ?_
  refine v_iconst hB 0 dX9_lowestPoint_5 (by decide) ?_
  refine v_bRj (fun r6 e6 => v_callV hB hK hR.rm [.int p1, .int p2, .int 0] [] (oC_59 g) lb_X9_worthAt lv_X9_69 (c_X9_worthAt g hK.A X.1.2.1 p1 p2 0 h e6) dX9_lowestPoint_6 rfl rfl (Nat.le_of_ble_eq_true rfl) (by decide) (by decide)) (fun r6 => ?_)
  refine v_lstore hB [(0, .ref ((SC g).1.2.1 59)), (1, .int p1), (2, .int p2), (3, .int 0), (4, .long r6)] [1, 2, 3, 4, 0] dX9_lowestPoint_9 (by decide) rfl ?_
  refine v_iconst hB 1 dX9_lowestPoint_11 (by decide) ?_
  refine v_istore hB [(0, .ref ((SC g).1.2.1 59)), (1, .int p1), (2, .int p2), (3, .int 0), (4, .long r6), (6, .int 1)] [1, 2, 3, 4, 5, 0] dX9_lowestPoint_12 (by decide) rfl ?_
  exact V.sub [0, 1, 2, 3, 4, 5] rfl (hn14 1000 0 r6 1)

def f_X10_refuse (p1 : Int32) (h : pq_H) : Option (Int32 × pq_H) :=
  if 0 ≤ p1 then (some (p1, h)) else (if p1 < (-6) then (some (p1, h)) else (gd (inb (-p1) 7) (gd (inb (-p1) 7) (some (p1, wI h 82 (-p1).toNatClampNeg ((rI h 82 (-p1).toNatClampNeg) + 1))))))
set_option maxRecDepth 100000 in
set_option maxHeartbeats 4000000 in
theorem c_X10_refuse (g : pq_g) {A : Nat → Prop} (hA : pq_A (SC g) A) (l : Launch) (p1 : Int32) (h : pq_H) {rr : Int32} {hh : pq_H} (e : f_X10_refuse p1 h = some (rr, hh)) : pq_M (SC g) A l yX10_refuse cX10_refuse 2 (some .int) 0 0 [.ref ((SC g).1.2.1 55), .int p1] h (some (.int rr)) hh := by
  refine pq_met hA l (own := RX10) 0 0 _ [(0, .ref ((SC g).1.2.1 55)), (1, .int p1)] h _ hh (by decide +kernel) rfl (Nat.le_of_ble_eq_true rfl) rfl (fun X hXl hXA hB hK hR => ?_)
  refine V.cast (F' := f_X10_refuse p1 h) (res' := (rr, hh)) (fun _ => e) ?_
  unfold f_X10_refuse
  refine v_iload_n hB 1 dX10_refuse_0 rfl rfl ?_
  refine v_if_ge (tgt := 21) hB dX10_refuse_1 rfl ?_ ?_
  · refine v_iload_n hB 1 dX10_refuse_21 rfl rfl ?_
    exact v_retWi (x := p1) hB hK hR dX10_refuse_22
  · refine v_iload_n hB 1 dX10_refuse_4 rfl rfl ?_
    refine v_bipush hB (-6) dX10_refuse_5 (by decide) ?_
    refine v_icmp_lt (tgt := 21) hB dX10_refuse_7 rfl ?_ ?_
    · refine v_iload_n hB 1 dX10_refuse_21 rfl rfl ?_
      exact v_retWi (x := p1) hB hK hR dX10_refuse_22
    · refine v_aload_n hB 0 dX10_refuse_10 rfl rfl ?_
      refine v_getA hB hK (fl_X10_65 g) (cCA_55_8 g) dX10_refuse_11 ?_
      refine v_iload_n hB 1 dX10_refuse_14 rfl rfl ?_
      refine v_ineg hB dX10_refuse_15 ?_
      refine v_dup2 hB dX10_refuse_16 rfl rfl ?_
      refine v_iald hB hK (aCI_82 g) dX10_refuse_17 ?_
      refine v_iconst hB 1 dX10_refuse_18 (by decide) ?_
      refine v_iadd hB dX10_refuse_19 ?_
      refine v_iast hB hK (aCI_82 g) dX10_refuse_20 ?_
      refine v_iload_n hB 1 dX10_refuse_21 rfl rfl ?_
      exact v_retWi (x := p1) hB hK hR dX10_refuse_22

def f_X10_letter_j30 (h : pq_H) : Option (Int32 × pq_H) :=
  bd2 (f_X10_refuse (-6) h) fun r33 h33 => some (r33, h33)
def f_X10_letter (p1 : Int32) (h : pq_H) : Option (Int32 × pq_H) :=
  if 0 ≤ p1 then (if 255 < p1 then (f_X10_letter_j30 h) else (if (rI h 61 1) < 72 then ((f_X3_add p1 h).bind fun h42 => some (rI h42 61 1, h42)) else (f_X10_letter_j30 h))) else (bd2 (f_X10_refuse (-4) h) fun r7 h7 => some (r7, h7))
set_option maxRecDepth 100000 in
set_option maxHeartbeats 4000000 in
theorem c_X10_letter (g : pq_g) {A : Nat → Prop} (hA : pq_A (SC g) A) (l : Launch) (p1 : Int32) (h : pq_H) {rr : Int32} {hh : pq_H} (e : f_X10_letter p1 h = some (rr, hh)) : pq_M (SC g) A l yX10_letter cX10_letter 2 (some .int) 1 21 [.ref ((SC g).1.2.1 55), .int p1] h (some (.int rr)) hh := by
  refine pq_met hA l (own := RX10) 1 21 _ [(0, .ref ((SC g).1.2.1 55)), (1, .int p1)] h _ hh (by decide +kernel) rfl (Nat.le_of_ble_eq_true rfl) rfl (fun X hXl hXA hB hK hR => ?_)
  refine V.cast (F' := f_X10_letter p1 h) (res' := (rr, hh)) (fun _ => e) ?_
  have hn30 : ∀ (h : pq_H), V X (SC g) (rr, hh) 2 30 [(0, .ref ((SC g).1.2.1 55))] [] h (f_X10_letter_j30 h) := by
    intro h
    unfold f_X10_letter_j30
    refine v_aload_n hB 0 dX10_letter_30 rfl rfl ?_
    refine v_bipush hB (-6) dX10_letter_31 (by decide) ?_
    refine v_bWi (fun r33 h33 e33 => v_callV hB hK hR.rm [.int (-6)] [] (oC_55 g) lb_X10_refuse lv_X10_69 (c_X10_refuse g hK.A X.1.2.1 (-6) h e33) dX10_letter_33 rfl rfl (Nat.le_of_ble_eq_true rfl) (by decide) (by decide)) (fun r33 h33 => ?_)
    exact v_retWi (x := r33) hB hK hR dX10_letter_36
  unfold f_X10_letter
  refine v_iload_n hB 1 dX10_letter_0 rfl rfl ?_
  refine v_if_ge (tgt := 11) hB dX10_letter_1 rfl ?_ ?_
  · refine v_iload_n hB 1 dX10_letter_11 rfl rfl ?_
    refine v_sipush hB 255 dX10_letter_12 (by decide) ?_
    refine v_icmp_gt (tgt := 30) hB dX10_letter_15 rfl ?_ ?_
    · exact V.sub [0] rfl (hn30 h)
    · refine v_aload_n hB 0 dX10_letter_18 rfl rfl ?_
      refine v_getA hB hK (fl_X10_19 g) (cCA_55_1 g) dX10_letter_19 ?_
      refine v_getI hB hK (fl_X10_73 g) (cCI_61_1 g) dX10_letter_22 ?_
      refine v_bipush hB 72 dX10_letter_25 (by decide) ?_
      refine v_icmp_lt (tgt := 37) hB dX10_letter_27 rfl ?_ ?_
      · refine v_aload_n hB 0 dX10_letter_37 rfl rfl ?_
        refine v_getA hB hK (fl_X10_19 g) (cCA_55_1 g) dX10_letter_38 ?_
        refine v_iload_n hB 1 dX10_letter_41 rfl rfl ?_
        refine v_bV (fun h42 e42 => v_callV hB hK hR.rm [.int p1] [] (oC_61 g) lb_X3_add lv_X10_77 (c_X3_add g hK.A X.1.2.1 p1 h e42) dX10_letter_42 rfl rfl (Nat.le_of_ble_eq_true rfl) (by decide) (by decide)) (fun h42 => ?_)
        refine v_aload_n hB 0 dX10_letter_45 rfl rfl ?_
        refine v_getA hB hK (fl_X10_19 g) (cCA_55_1 g) dX10_letter_46 ?_
        refine v_getI hB hK (fl_X10_73 g) (cCI_61_1 g) dX10_letter_49 ?_
        exact v_retWi (x := rI h42 61 1) hB hK hR dX10_letter_52
      · exact V.sub [0] rfl (hn30 h)
  · refine v_aload_n hB 0 dX10_letter_4 rfl rfl ?_
    refine v_bipush hB (-4) dX10_letter_5 (by decide) ?_
    refine v_bWi (fun r7 h7 e7 => v_callV hB hK hR.rm [.int (-4)] [] (oC_55 g) lb_X10_refuse lv_X10_69 (c_X10_refuse g hK.A X.1.2.1 (-4) h e7) dX10_letter_7 rfl rfl (Nat.le_of_ble_eq_true rfl) (by decide) (by decide)) (fun r7 h7 => ?_)
    exact v_retWi (x := r7) hB hK hR dX10_letter_10

def f_X10_cameOr (p1 : Bool) (h : pq_H) : Option (Int32 × pq_H) :=
  if p1 = true then (hl (wI h 74 0 0) fun h16 => some ((rI h16 56 3) - 1, h16)) else (bd2 (f_X10_refuse (-6) h) fun r7 h7 => some (r7, h7))
set_option maxRecDepth 100000 in
set_option maxHeartbeats 4000000 in
theorem c_X10_cameOr (g : pq_g) {A : Nat → Prop} (hA : pq_A (SC g) A) (l : Launch) (p1 : Bool) (h : pq_H) {rr : Int32} {hh : pq_H} (e : f_X10_cameOr p1 h = some (rr, hh)) : pq_M (SC g) A l yX10_cameOr cX10_cameOr 2 (some .int) 1 21 [.ref ((SC g).1.2.1 55), .int (b2i p1)] h (some (.int rr)) hh := by
  refine pq_met hA l (own := RX10) 1 21 _ [(0, .ref ((SC g).1.2.1 55)), (1, .int (b2i p1))] h _ hh (by decide +kernel) rfl (Nat.le_of_ble_eq_true rfl) rfl (fun X hXl hXA hB hK hR => ?_)
  refine V.cast (F' := f_X10_cameOr p1 h) (res' := (rr, hh)) (fun _ => e) ?_
  unfold f_X10_cameOr
  refine v_iload_n hB 1 dX10_cameOr_0 rfl rfl ?_
  refine v_ifz_ne (r := p1) (tgt := 11) hB dX10_cameOr_1 rfl ?_ ?_
  · refine v_aload_n hB 0 dX10_cameOr_11 rfl rfl ?_
    refine v_getA hB hK (fl_X10_54 g) (cCA_55_6 g) dX10_cameOr_12 ?_
    refine v_iconst hB 0 dX10_cameOr_15 (by decide) ?_
    refine v_putI hB hK (fl_X10_105 g) (fin_X8_0 g) (cCI_74_0 g) dX10_cameOr_16 ?_
    refine v_hl (fun h16 => ?_)
    refine v_aload_n hB 0 dX10_cameOr_19 rfl rfl ?_
    refine v_getA hB hK (fl_X10_10 g) (cCA_55_0 g) dX10_cameOr_20 ?_
    refine v_getI hB hK (fl_X10_89 g) (cCI_56_3 g) dX10_cameOr_23 ?_
    refine v_iconst hB 1 dX10_cameOr_26 (by decide) ?_
    refine v_isub hB dX10_cameOr_27 ?_
    exact v_retWi (x := (rI h16 56 3) - 1) hB hK hR dX10_cameOr_28
  · refine v_aload_n hB 0 dX10_cameOr_4 rfl rfl ?_
    refine v_bipush hB (-6) dX10_cameOr_5 (by decide) ?_
    refine v_bWi (fun r7 h7 e7 => v_callV hB hK hR.rm [.int (-6)] [] (oC_55 g) lb_X10_refuse lv_X10_69 (c_X10_refuse g hK.A X.1.2.1 (-6) h e7) dX10_cameOr_7 rfl rfl (Nat.le_of_ble_eq_true rfl) (by decide) (by decide)) (fun r7 h7 => ?_)
    exact v_retWi (x := r7) hB hK hR dX10_cameOr_10

def f_X10_form (h : pq_H) : Option (Int32 × pq_H) :=
  if (f_X6_isFull h) = true then (bd2 (f_X10_refuse (-6) h) fun r13 h13 => some (r13, h13)) else (gd (inb (rI h 56 3) 6) (bd2 (f_X2_read ((rI h 56 3).toNatClampNeg) h) fun r40 h40 => hl (wI h40 61 1 0) fun h49 => if r40 = (-1) then (hl (wI h49 56 3 ((rI h49 56 3) + 1)) fun h73 => bd2 (f_X10_cameOr true h73) fun r78 h78 => some (r78, h78)) else (some ((-1000) - r40, h49))))
set_option maxRecDepth 100000 in
set_option maxHeartbeats 4000000 in
theorem c_X10_form (g : pq_g) {A : Nat → Prop} (hA : pq_A (SC g) A) (l : Launch) (h : pq_H) {rr : Int32} {hh : pq_H} (e : f_X10_form h = some (rr, hh)) : pq_M (SC g) A l yX10_form cX10_form 2 (some .int) 6 135 [.ref ((SC g).1.2.1 55)] h (some (.int rr)) hh := by
  refine pq_met hA l (own := RX10) 6 135 _ [(0, .ref ((SC g).1.2.1 55))] h _ hh (by decide +kernel) rfl (Nat.le_of_ble_eq_true rfl) rfl (fun X hXl hXA hB hK hR => ?_)
  refine V.cast (F' := f_X10_form h) (res' := (rr, hh)) (fun _ => e) ?_
  unfold f_X10_form
  refine v_aload_n hB 0 dX10_form_0 rfl rfl ?_
  refine v_getA hB hK (fl_X10_10 g) (cCA_55_0 g) dX10_form_1 ?_
  refine v_bT (v_callV hB hK hR.rm [] [] (oC_56 g) lb_X6_isFull lv_X10_81 (c_X6_isFull g hK.A X.1.2.1 h) dX10_form_4 rfl rfl (Nat.le_of_ble_eq_true rfl) (by decide) (by decide)) ?_
  refine v_ifz_eq (r := f_X6_isFull h) (tgt := 17) hB dX10_form_7 rfl ?_ ?_
  · refine v_aload_n hB 0 dX10_form_17 rfl rfl ?_
    refine v_getA hB hK (fl_X10_26 g) (cCA_55_2 g) dX10_form_18 ?_
    refine v_aload_n hB 0 dX10_form_21 rfl rfl ?_
    refine v_getA hB hK (fl_X10_19 g) (cCA_55_1 g) dX10_form_22 ?_
    refine v_aload_n hB 0 dX10_form_25 rfl rfl ?_
    refine v_getA hB hK (fl_X10_10 g) (cCA_55_0 g) dX10_form_26 ?_
    refine v_getA hB hK (fl_X10_85 g) (cCA_56_0 g) dX10_form_29 ?_
    refine v_aload_n hB 0 dX10_form_32 rfl rfl ?_
    refine v_getA hB hK (fl_X10_10 g) (cCA_55_0 g) dX10_form_33 ?_
    refine v_getI hB hK (fl_X10_89 g) (cCI_56_3 g) dX10_form_36 ?_
    refine v_aa57 hB hK dX10_form_39 (fun q39 => ?_)
    refine v_bWi (fun r40 h40 e40 => v_callV hB hK hR.rm [.ref ((SC g).1.2.1 61), .ref ((SC g).1.2.1 ((rI h 56 3).toNatClampNeg))] [] (oC_63 g) lb_X2_read lv_X10_90 (c_X2_read g hK.A X.1.2.1 ((rI h 56 3).toNatClampNeg) (lt6_12 q39) h e40) dX10_form_40 rfl rfl (Nat.le_of_ble_eq_true rfl) (by decide) (by decide)) (fun r40 h40 => ?_)
    refine v_istore_n hB [(0, .ref ((SC g).1.2.1 55)), (1, .int r40)] [1, 0] dX10_form_43 rfl (by decide) rfl ?_
    refine v_aload_n hB 0 dX10_form_44 rfl rfl ?_
    refine v_getA hB hK (fl_X10_19 g) (cCA_55_1 g) dX10_form_45 ?_
    refine v_iconst hB 0 dX10_form_48 (by decide) ?_
    refine v_putI hB hK (fl_X10_73 g) (fin_X3_1 g) (cCI_61_1 g) dX10_form_49 ?_
    refine v_hl (fun h49 => ?_)
    refine v_iload_n hB 1 dX10_form_52 rfl rfl ?_
    refine v_iconst hB (-1) dX10_form_53 (by decide) ?_
    refine v_icmp_eq (tgt := 63) hB dX10_form_54 rfl ?_ ?_
    · refine v_aload_n hB 0 dX10_form_63 rfl rfl ?_
      refine v_getA hB hK (fl_X10_10 g) (cCA_55_0 g) dX10_form_64 ?_
      refine v_dup hB dX10_form_67 rfl ?_
      refine v_getI hB hK (fl_X10_89 g) (cCI_56_3 g) dX10_form_68 ?_
      refine v_iconst hB 1 dX10_form_71 (by decide) ?_
      refine v_iadd hB dX10_form_72 ?_
      refine v_putI hB hK (fl_X10_89 g) (fin_X6_3 g) (cCI_56_3 g) dX10_form_73 ?_
      refine v_hl (fun h73 => ?_)
      refine v_aload_n hB 0 dX10_form_76 rfl rfl ?_
      refine v_iconst hB 1 dX10_form_77 (by decide) ?_
      refine v_bWi (fun r78 h78 e78 => v_callV hB hK hR.rm [.int (b2i true)] [] (oC_55 g) lb_X10_cameOr lv_X10_94 (c_X10_cameOr g hK.A X.1.2.1 true h73 e78) dX10_form_78 rfl rfl (Nat.le_of_ble_eq_true rfl) (by decide) (by decide)) (fun r78 h78 => ?_)
      exact v_retWi (x := r78) hB hK hR dX10_form_81
    · refine v_sipush hB (-1000) dX10_form_57 (by decide) ?_
      refine v_iload_n hB 1 dX10_form_60 rfl rfl ?_
      refine v_isub hB dX10_form_61 ?_
      exact v_retWi (x := (-1000) - r40) hB hK hR dX10_form_62
  · refine v_aload_n hB 0 dX10_form_10 rfl rfl ?_
    refine v_bipush hB (-6) dX10_form_11 (by decide) ?_
    refine v_bWi (fun r13 h13 e13 => v_callV hB hK hR.rm [.int (-6)] [] (oC_55 g) lb_X10_refuse lv_X10_69 (c_X10_refuse g hK.A X.1.2.1 (-6) h e13) dX10_form_13 rfl rfl (Nat.le_of_ble_eq_true rfl) (by decide) (by decide)) (fun r13 h13 => ?_)
    exact v_retWi (x := r13) hB hK hR dX10_form_16

def f_X10_drop (h : pq_H) : Option (Int32 × pq_H) :=
  if 0 < (rI h 56 3) then (hl (wI h 56 3 ((rI h 56 3) - 1)) fun h27 => hl (wI h27 74 0 0) fun h35 => some (rI h35 56 3, h35)) else (bd2 (f_X10_refuse (-3) h) fun r13 h13 => some (r13, h13))
set_option maxRecDepth 100000 in
set_option maxHeartbeats 4000000 in
theorem c_X10_drop (g : pq_g) {A : Nat → Prop} (hA : pq_A (SC g) A) (l : Launch) (h : pq_H) {rr : Int32} {hh : pq_H} (e : f_X10_drop h = some (rr, hh)) : pq_M (SC g) A l yX10_drop cX10_drop 1 (some .int) 1 21 [.ref ((SC g).1.2.1 55)] h (some (.int rr)) hh := by
  refine pq_met hA l (own := RX10) 1 21 _ [(0, .ref ((SC g).1.2.1 55))] h _ hh (by decide +kernel) rfl (Nat.le_of_ble_eq_true rfl) rfl (fun X hXl hXA hB hK hR => ?_)
  refine V.cast (F' := f_X10_drop h) (res' := (rr, hh)) (fun _ => e) ?_
  unfold f_X10_drop
  refine v_aload_n hB 0 dX10_drop_0 rfl rfl ?_
  refine v_getA hB hK (fl_X10_10 g) (cCA_55_0 g) dX10_drop_1 ?_
  refine v_getI hB hK (fl_X10_89 g) (cCI_56_3 g) dX10_drop_4 ?_
  refine v_if_gt (tgt := 17) hB dX10_drop_7 rfl ?_ ?_
  · refine v_aload_n hB 0 dX10_drop_17 rfl rfl ?_
    refine v_getA hB hK (fl_X10_10 g) (cCA_55_0 g) dX10_drop_18 ?_
    refine v_dup hB dX10_drop_21 rfl ?_
    refine v_getI hB hK (fl_X10_89 g) (cCI_56_3 g) dX10_drop_22 ?_
    refine v_iconst hB 1 dX10_drop_25 (by decide) ?_
    refine v_isub hB dX10_drop_26 ?_
    refine v_putI hB hK (fl_X10_89 g) (fin_X6_3 g) (cCI_56_3 g) dX10_drop_27 ?_
    refine v_hl (fun h27 => ?_)
    refine v_aload_n hB 0 dX10_drop_30 rfl rfl ?_
    refine v_getA hB hK (fl_X10_54 g) (cCA_55_6 g) dX10_drop_31 ?_
    refine v_iconst hB 0 dX10_drop_34 (by decide) ?_
    refine v_putI hB hK (fl_X10_105 g) (fin_X8_0 g) (cCI_74_0 g) dX10_drop_35 ?_
    refine v_hl (fun h35 => ?_)
    refine v_aload_n hB 0 dX10_drop_38 rfl rfl ?_
    refine v_getA hB hK (fl_X10_10 g) (cCA_55_0 g) dX10_drop_39 ?_
    refine v_getI hB hK (fl_X10_89 g) (cCI_56_3 g) dX10_drop_42 ?_
    exact v_retWi (x := rI h35 56 3) hB hK hR dX10_drop_45
  · refine v_aload_n hB 0 dX10_drop_10 rfl rfl ?_
    refine v_bipush hB (-3) dX10_drop_11 (by decide) ?_
    refine v_bWi (fun r13 h13 e13 => v_callV hB hK hR.rm [.int (-3)] [] (oC_55 g) lb_X10_refuse lv_X10_69 (c_X10_refuse g hK.A X.1.2.1 (-3) h e13) dX10_drop_13 rfl rfl (Nat.le_of_ble_eq_true rfl) (by decide) (by decide)) (fun r13 h13 => ?_)
    exact v_retWi (x := r13) hB hK hR dX10_drop_16

def f_X10_lacksTerm (p1 : Int32) (p2 : Int32) (h : pq_H) : Option Bool :=
  gd (inb p1 6) (some (f_X10_notBelow p2 (f_X10_termsOf (rI h p1.toNatClampNeg 3))))
set_option maxRecDepth 100000 in
set_option maxHeartbeats 4000000 in
theorem c_X10_lacksTerm (g : pq_g) {A : Nat → Prop} (hA : pq_A (SC g) A) (l : Launch) (p1 : Int32) (p2 : Int32) (h : pq_H) {rr : Bool} (e : f_X10_lacksTerm p1 p2 h = some rr) : pq_M (SC g) A l yX10_lacksTerm cX10_lacksTerm 3 (some .boolean) 1 21 [.ref ((SC g).1.2.1 55), .int p1, .int p2] h (some (.int (b2i rr))) h := by
  refine pq_met hA l (own := RX10) 1 21 _ [(0, .ref ((SC g).1.2.1 55)), (1, .int p1), (2, .int p2)] h _ h (by decide +kernel) rfl (Nat.le_of_ble_eq_true rfl) rfl (fun X hXl hXA hB hK hR => ?_)
  refine V.cast (F' := f_X10_lacksTerm p1 p2 h) (res' := rr) (fun _ => e) ?_
  unfold f_X10_lacksTerm
  refine v_iload_n hB 2 dX10_lacksTerm_0 rfl rfl ?_
  refine v_aload_n hB 0 dX10_lacksTerm_1 rfl rfl ?_
  refine v_getA hB hK (fl_X10_10 g) (cCA_55_0 g) dX10_lacksTerm_2 ?_
  refine v_getA hB hK (fl_X10_85 g) (cCA_56_0 g) dX10_lacksTerm_5 ?_
  refine v_iload_n hB 1 dX10_lacksTerm_8 rfl rfl ?_
  refine v_aa57 hB hK dX10_lacksTerm_9 (fun q9 => ?_)
  refine v_getI hB hK (fl_X10_137 g) (cI_Form_3 g p1.toNatClampNeg (lt6_12 q9)) dX10_lacksTerm_10 ?_
  refine v_bT (v_callS hB hK hR.rm [.int (rI h p1.toNatClampNeg 3)] [.int p2] lb_X10_termsOf lv_X10_140 (c_X10_termsOf g hK.A X.1.2.1 (rI h p1.toNatClampNeg 3) h) dX10_lacksTerm_13 rfl rfl (Nat.le_of_ble_eq_true rfl) (by decide) (by decide)) ?_
  refine v_bT (v_callS hB hK hR.rm [.int p2, .int (f_X10_termsOf (rI h p1.toNatClampNeg 3))] [] lb_X10_notBelow lv_X10_128 (c_X10_notBelow g hK.A X.1.2.1 p2 (f_X10_termsOf (rI h p1.toNatClampNeg 3)) h) dX10_lacksTerm_16 rfl rfl (Nat.le_of_ble_eq_true rfl) (by decide) (by decide)) ?_
  exact v_retRz (x := f_X10_notBelow p2 (f_X10_termsOf (rI h p1.toNatClampNeg 3))) hB hK hR dX10_lacksTerm_19

def f_X10_refuseFarInt (p1 : Int32) (h : pq_H) : Option (Int32 × pq_H) :=
  bd2 (f_X10_refuse p1 h) fun r5 h5 => some (1000000000 - r5, h5)
set_option maxRecDepth 100000 in
set_option maxHeartbeats 4000000 in
theorem c_X10_refuseFarInt (g : pq_g) {A : Nat → Prop} (hA : pq_A (SC g) A) (l : Launch) (p1 : Int32) (h : pq_H) {rr : Int32} {hh : pq_H} (e : f_X10_refuseFarInt p1 h = some (rr, hh)) : pq_M (SC g) A l yX10_refuseFarInt cX10_refuseFarInt 2 (some .int) 1 21 [.ref ((SC g).1.2.1 55), .int p1] h (some (.int rr)) hh := by
  refine pq_met hA l (own := RX10) 1 21 _ [(0, .ref ((SC g).1.2.1 55)), (1, .int p1)] h _ hh (by decide +kernel) rfl (Nat.le_of_ble_eq_true rfl) rfl (fun X hXl hXA hB hK hR => ?_)
  refine V.cast (F' := f_X10_refuseFarInt p1 h) (res' := (rr, hh)) (fun _ => e) ?_
  unfold f_X10_refuseFarInt
  refine v_ldcw hB 1000000000 k_X10_300 dX10_refuseFarInt_0 ?_
  refine v_aload_n hB 0 dX10_refuseFarInt_3 rfl rfl ?_
  refine v_iload_n hB 1 dX10_refuseFarInt_4 rfl rfl ?_
  refine v_bWi (fun r5 h5 e5 => v_callV hB hK hR.rm [.int p1] [.int 1000000000] (oC_55 g) lb_X10_refuse lv_X10_69 (c_X10_refuse g hK.A X.1.2.1 p1 h e5) dX10_refuseFarInt_5 rfl rfl (Nat.le_of_ble_eq_true rfl) (by decide) (by decide)) (fun r5 h5 => ?_)
  refine v_isub hB dX10_refuseFarInt_8 ?_
  exact v_retWi (x := 1000000000 - r5) hB hK hR dX10_refuseFarInt_9

def f_X10_change_j20 (h : pq_H) : Option (Int32 × pq_H) :=
  bd2 (f_X10_refuseFarInt (-1) h) fun r22 h22 => some (r22, h22)
def f_X10_change (p1 : Int32) (p2 : Int32) (p3 : Int32) (h : pq_H) : Option (Int32 × pq_H) :=
  if (f_X6_lacks p1 h) = true then (f_X10_change_j20 h) else ((f_X10_lacksTerm p1 p2 h).bind fun r14 => if r14 = true then (f_X10_change_j20 h) else (if (-1000000) ≤ p3 then (if p3 ≤ 1000000 then (gd (inb p1 6) (gd (inb p2 28) (gd (inb p2 28) (hl (wI h (p1.toNatClampNeg + 12) p2.toNatClampNeg p3) fun h76 => (f_X8_add p1 p2 (rI h (p1.toNatClampNeg + 12) p2.toNatClampNeg) 0 h76).bind fun h86 => some (rI h (p1.toNatClampNeg + 12) p2.toNatClampNeg, h86))))) else (bd2 (f_X10_refuseFarInt (-6) h) fun r48 h48 => some (r48, h48))) else (bd2 (f_X10_refuseFarInt (-4) h) fun r35 h35 => some (r35, h35))))
set_option maxRecDepth 100000 in
set_option maxHeartbeats 4000000 in
theorem c_X10_change (g : pq_g) {A : Nat → Prop} (hA : pq_A (SC g) A) (l : Launch) (p1 : Int32) (p2 : Int32) (p3 : Int32) (h : pq_H) {rr : Int32} {hh : pq_H} (e : f_X10_change p1 p2 p3 h = some (rr, hh)) : pq_M (SC g) A l yX10_change cX10_change 6 (some .int) 2 47 [.ref ((SC g).1.2.1 55), .int p1, .int p2, .int p3] h (some (.int rr)) hh := by
  refine pq_met hA l (own := RX10) 2 47 _ [(0, .ref ((SC g).1.2.1 55)), (1, .int p1), (2, .int p2), (3, .int p3)] h _ hh (by decide +kernel) rfl (Nat.le_of_ble_eq_true rfl) rfl (fun X hXl hXA hB hK hR => ?_)
  refine V.cast (F' := f_X10_change p1 p2 p3 h) (res' := (rr, hh)) (fun _ => e) ?_
  have hn20 : ∀ (h : pq_H), V X (SC g) (rr, hh) 6 20 [(0, .ref ((SC g).1.2.1 55))] [] h (f_X10_change_j20 h) := by
    intro h
    unfold f_X10_change_j20
    refine v_aload_n hB 0 dX10_change_20 rfl rfl ?_
    refine v_iconst hB (-1) dX10_change_21 (by decide) ?_
    refine v_bWi (fun r22 h22 e22 => v_callV hB hK hR.rm [.int (-1)] [] (oC_55 g) lb_X10_refuseFarInt lv_X10_115 (c_X10_refuseFarInt g hK.A X.1.2.1 (-1) h e22) dX10_change_22 rfl rfl (Nat.le_of_ble_eq_true rfl) (by decide) (by decide)) (fun r22 h22 => ?_)
    exact v_retWi (x := r22) hB hK hR dX10_change_25
  unfold f_X10_change
  refine v_aload_n hB 0 dX10_change_0 rfl rfl ?_
  refine v_getA hB hK (fl_X10_10 g) (cCA_55_0 g) dX10_change_1 ?_
  refine v_iload_n hB 1 dX10_change_4 rfl rfl ?_
  refine v_bT (v_callV hB hK hR.rm [.int p1] [] (oC_56 g) lb_X6_lacks lv_X10_107 (c_X6_lacks g hK.A X.1.2.1 p1 h) dX10_change_5 rfl rfl (Nat.le_of_ble_eq_true rfl) (by decide) (by decide)) ?_
  refine v_ifz_ne (r := f_X6_lacks p1 h) (tgt := 20) hB dX10_change_8 rfl ?_ ?_
  · exact V.sub [0] rfl (hn20 h)
  · refine v_aload_n hB 0 dX10_change_11 rfl rfl ?_
    refine v_iload_n hB 1 dX10_change_12 rfl rfl ?_
    refine v_iload_n hB 2 dX10_change_13 rfl rfl ?_
    refine v_bRz (fun r14 e14 => v_callV hB hK hR.rm [.int p1, .int p2] [] (oC_55 g) lb_X10_lacksTerm lv_X10_111 (c_X10_lacksTerm g hK.A X.1.2.1 p1 p2 h e14) dX10_change_14 rfl rfl (Nat.le_of_ble_eq_true rfl) (by decide) (by decide)) (fun r14 => ?_)
    refine v_ifz_eq (r := r14) (tgt := 26) hB dX10_change_17 rfl ?_ ?_
    · refine v_iload_n hB 3 dX10_change_26 rfl rfl ?_
      refine v_ldc hB (-1000000) k_X10_118 dX10_change_27 ?_
      refine v_icmp_ge (tgt := 39) hB dX10_change_29 rfl ?_ ?_
      · refine v_iload_n hB 3 dX10_change_39 rfl rfl ?_
        refine v_ldc hB 1000000 k_X10_119 dX10_change_40 ?_
        refine v_icmp_le (tgt := 52) hB dX10_change_42 rfl ?_ ?_
        · refine v_aload_n hB 0 dX10_change_52 rfl rfl ?_
          refine v_getA hB hK (fl_X10_10 g) (cCA_55_0 g) dX10_change_53 ?_
          refine v_getA hB hK (fl_X10_85 g) (cCA_56_0 g) dX10_change_56 ?_
          refine v_iload_n hB 1 dX10_change_59 rfl rfl ?_
          refine v_aa57 hB hK dX10_change_60 (fun q60 => ?_)
          refine v_getA hB hK (fl_X10_120 g) (cA_Form_0 g p1.toNatClampNeg (lt6_12 q60)) dX10_change_61 ?_
          refine v_astore hB [(0, .ref ((SC g).1.2.1 55)), (1, .int p1), (2, .int p2), (3, .int p3), (4, .ref ((SC g).1.2.1 (p1.toNatClampNeg + 12)))] [1, 2, 3, 4, 0] dX10_change_64 (by decide) rfl ?_
          refine v_aload hB 4 dX10_change_66 rfl ?_
          refine v_iload_n hB 2 dX10_change_68 rfl rfl ?_
          refine v_iald hB hK (aI_told g p1.toNatClampNeg (lt6_12 q60)) dX10_change_69 ?_
          refine v_istore hB [(0, .ref ((SC g).1.2.1 55)), (1, .int p1), (2, .int p2), (3, .int p3), (4, .ref ((SC g).1.2.1 (p1.toNatClampNeg + 12))), (5, .int (rI h (p1.toNatClampNeg + 12) p2.toNatClampNeg))] [1, 2, 3, 4, 5, 0] dX10_change_70 (by decide) rfl ?_
          refine v_aload hB 4 dX10_change_72 rfl ?_
          refine v_iload_n hB 2 dX10_change_74 rfl rfl ?_
          refine v_iload_n hB 3 dX10_change_75 rfl rfl ?_
          refine v_iast hB hK (aI_told g p1.toNatClampNeg (lt6_12 q60)) dX10_change_76 ?_
          refine v_hl (fun h76 => ?_)
          refine v_aload_n hB 0 dX10_change_77 rfl rfl ?_
          refine v_getA hB hK (fl_X10_54 g) (cCA_55_6 g) dX10_change_78 ?_
          refine v_iload_n hB 1 dX10_change_81 rfl rfl ?_
          refine v_iload_n hB 2 dX10_change_82 rfl rfl ?_
          refine v_iload hB 5 dX10_change_83 rfl ?_
          refine v_iconst hB 0 dX10_change_85 (by decide) ?_
          refine v_bV (fun h86 e86 => v_callV hB hK hR.rm [.int p1, .int p2, .int (rI h (p1.toNatClampNeg + 12) p2.toNatClampNeg), .int 0] [] (oC_74 g) lb_X8_add lv_X10_125 (c_X8_add g hK.A X.1.2.1 p1 p2 (rI h (p1.toNatClampNeg + 12) p2.toNatClampNeg) 0 h76 e86) dX10_change_86 rfl rfl (Nat.le_of_ble_eq_true rfl) (by decide) (by decide)) (fun h86 => ?_)
          refine v_iload hB 5 dX10_change_89 rfl ?_
          exact v_retWi (x := rI h (p1.toNatClampNeg + 12) p2.toNatClampNeg) hB hK hR dX10_change_91
        · refine v_aload_n hB 0 dX10_change_45 rfl rfl ?_
          refine v_bipush hB (-6) dX10_change_46 (by decide) ?_
          refine v_bWi (fun r48 h48 e48 => v_callV hB hK hR.rm [.int (-6)] [] (oC_55 g) lb_X10_refuseFarInt lv_X10_115 (c_X10_refuseFarInt g hK.A X.1.2.1 (-6) h e48) dX10_change_48 rfl rfl (Nat.le_of_ble_eq_true rfl) (by decide) (by decide)) (fun r48 h48 => ?_)
          exact v_retWi (x := r48) hB hK hR dX10_change_51
      · refine v_aload_n hB 0 dX10_change_32 rfl rfl ?_
        refine v_bipush hB (-4) dX10_change_33 (by decide) ?_
        refine v_bWi (fun r35 h35 e35 => v_callV hB hK hR.rm [.int (-4)] [] (oC_55 g) lb_X10_refuseFarInt lv_X10_115 (c_X10_refuseFarInt g hK.A X.1.2.1 (-4) h e35) dX10_change_35 rfl rfl (Nat.le_of_ble_eq_true rfl) (by decide) (by decide)) (fun r35 h35 => ?_)
        exact v_retWi (x := r35) hB hK hR dX10_change_38
    · exact V.sub [0] rfl (hn20 h)

def f_X10_turn (p1 : Int32) (p2 : Int32) (p3 : Int32) (h : pq_H) : Option (Int32 × pq_H) :=
  if (f_X6_lacks p1 h) = true then (bd2 (f_X10_refuse (-1) h) fun r13 h13 => some (r13, h13)) else (if (f_X10_notBelow p2 6) = true then (bd2 (f_X10_refuse (-2) h) fun r29 h29 => some (r29, h29)) else (if 0 ≤ p3 then (if p3 ≤ 9 then (gd (inb p1 6) ((f_X8_add p1 (-1) (rI h p1.toNatClampNeg 1) (rI h p1.toNatClampNeg 2) h).bind fun h84 => hl (wI h84 p1.toNatClampNeg 1 p2) fun h106 => some ((10 * (rI h84 p1.toNatClampNeg 1)) + (rI h84 p1.toNatClampNeg 2), wI h106 p1.toNatClampNeg 2 p3))) else (bd2 (f_X10_refuse (-6) h) fun r53 h53 => some (r53, h53))) else (bd2 (f_X10_refuse (-4) h) fun r40 h40 => some (r40, h40))))
set_option maxRecDepth 100000 in
set_option maxHeartbeats 4000000 in
theorem c_X10_turn (g : pq_g) {A : Nat → Prop} (hA : pq_A (SC g) A) (l : Launch) (p1 : Int32) (p2 : Int32) (p3 : Int32) (h : pq_H) {rr : Int32} {hh : pq_H} (e : f_X10_turn p1 p2 p3 h = some (rr, hh)) : pq_M (SC g) A l yX10_turn cX10_turn 6 (some .int) 2 47 [.ref ((SC g).1.2.1 55), .int p1, .int p2, .int p3] h (some (.int rr)) hh := by
  refine pq_met hA l (own := RX10) 2 47 _ [(0, .ref ((SC g).1.2.1 55)), (1, .int p1), (2, .int p2), (3, .int p3)] h _ hh (by decide +kernel) rfl (Nat.le_of_ble_eq_true rfl) rfl (fun X hXl hXA hB hK hR => ?_)
  refine V.cast (F' := f_X10_turn p1 p2 p3 h) (res' := (rr, hh)) (fun _ => e) ?_
  unfold f_X10_turn
  refine v_aload_n hB 0 dX10_turn_0 rfl rfl ?_
  refine v_getA hB hK (fl_X10_10 g) (cCA_55_0 g) dX10_turn_1 ?_
  refine v_iload_n hB 1 dX10_turn_4 rfl rfl ?_
  refine v_bT (v_callV hB hK hR.rm [.int p1] [] (oC_56 g) lb_X6_lacks lv_X10_107 (c_X6_lacks g hK.A X.1.2.1 p1 h) dX10_turn_5 rfl rfl (Nat.le_of_ble_eq_true rfl) (by decide) (by decide)) ?_
  refine v_ifz_eq (r := f_X6_lacks p1 h) (tgt := 17) hB dX10_turn_8 rfl ?_ ?_
  · refine v_iload_n hB 2 dX10_turn_17 rfl rfl ?_
    refine v_bipush hB 6 dX10_turn_18 (by decide) ?_
    refine v_bT (v_callS hB hK hR.rm [.int p2, .int 6] [] lb_X10_notBelow lv_X10_128 (c_X10_notBelow g hK.A X.1.2.1 p2 6 h) dX10_turn_20 rfl rfl (Nat.le_of_ble_eq_true rfl) (by decide) (by decide)) ?_
    refine v_ifz_eq (r := f_X10_notBelow p2 6) (tgt := 33) hB dX10_turn_23 rfl ?_ ?_
    · refine v_iload_n hB 3 dX10_turn_33 rfl rfl ?_
      refine v_if_ge (tgt := 44) hB dX10_turn_34 rfl ?_ ?_
      · refine v_iload_n hB 3 dX10_turn_44 rfl rfl ?_
        refine v_bipush hB 9 dX10_turn_45 (by decide) ?_
        refine v_icmp_le (tgt := 57) hB dX10_turn_47 rfl ?_ ?_
        · refine v_aload_n hB 0 dX10_turn_57 rfl rfl ?_
          refine v_getA hB hK (fl_X10_10 g) (cCA_55_0 g) dX10_turn_58 ?_
          refine v_getA hB hK (fl_X10_85 g) (cCA_56_0 g) dX10_turn_61 ?_
          refine v_iload_n hB 1 dX10_turn_64 rfl rfl ?_
          refine v_aa57 hB hK dX10_turn_65 (fun q65 => ?_)
          refine v_astore hB [(0, .ref ((SC g).1.2.1 55)), (1, .int p1), (2, .int p2), (3, .int p3), (4, .ref ((SC g).1.2.1 p1.toNatClampNeg))] [1, 2, 3, 4, 0] dX10_turn_66 (by decide) rfl ?_
          refine v_aload_n hB 0 dX10_turn_68 rfl rfl ?_
          refine v_getA hB hK (fl_X10_54 g) (cCA_55_6 g) dX10_turn_69 ?_
          refine v_iload_n hB 1 dX10_turn_72 rfl rfl ?_
          refine v_iconst hB (-1) dX10_turn_73 (by decide) ?_
          refine v_aload hB 4 dX10_turn_74 rfl ?_
          refine v_getI hB hK (fl_X10_131 g) (cI_Form_1 g p1.toNatClampNeg (lt6_12 q65)) dX10_turn_76 ?_
          refine v_aload hB 4 dX10_turn_79 rfl ?_
          refine v_getI hB hK (fl_X10_134 g) (cI_Form_2 g p1.toNatClampNeg (lt6_12 q65)) dX10_turn_81 ?_
          refine v_bV (fun h84 e84 => v_callV hB hK hR.rm [.int p1, .int (-1), .int (rI h p1.toNatClampNeg 1), .int (rI h p1.toNatClampNeg 2)] [] (oC_74 g) lb_X8_add lv_X10_125 (c_X8_add g hK.A X.1.2.1 p1 (-1) (rI h p1.toNatClampNeg 1) (rI h p1.toNatClampNeg 2) h e84) dX10_turn_84 rfl rfl (Nat.le_of_ble_eq_true rfl) (by decide) (by decide)) (fun h84 => ?_)
          refine v_bipush hB 10 dX10_turn_87 (by decide) ?_
          refine v_aload hB 4 dX10_turn_89 rfl ?_
          refine v_getI hB hK (fl_X10_131 g) (cI_Form_1 g p1.toNatClampNeg (lt6_12 q65)) dX10_turn_91 ?_
          refine v_imul hB dX10_turn_94 ?_
          refine v_aload hB 4 dX10_turn_95 rfl ?_
          refine v_getI hB hK (fl_X10_134 g) (cI_Form_2 g p1.toNatClampNeg (lt6_12 q65)) dX10_turn_97 ?_
          refine v_iadd hB dX10_turn_100 ?_
          refine v_istore hB [(0, .ref ((SC g).1.2.1 55)), (1, .int p1), (2, .int p2), (3, .int p3), (4, .ref ((SC g).1.2.1 p1.toNatClampNeg)), (5, .int ((10 * (rI h84 p1.toNatClampNeg 1)) + (rI h84 p1.toNatClampNeg 2)))] [1, 2, 3, 4, 5, 0] dX10_turn_101 (by decide) rfl ?_
          refine v_aload hB 4 dX10_turn_103 rfl ?_
          refine v_iload_n hB 2 dX10_turn_105 rfl rfl ?_
          refine v_putI hB hK (fl_X10_131 g) (fin_X1_1 g) (cI_Form_1 g p1.toNatClampNeg (lt6_12 q65)) dX10_turn_106 ?_
          refine v_hl (fun h106 => ?_)
          refine v_aload hB 4 dX10_turn_109 rfl ?_
          refine v_iload_n hB 3 dX10_turn_111 rfl rfl ?_
          refine v_putI hB hK (fl_X10_134 g) (fin_X1_2 g) (cI_Form_2 g p1.toNatClampNeg (lt6_12 q65)) dX10_turn_112 ?_
          refine v_iload hB 5 dX10_turn_115 rfl ?_
          exact v_retWi (x := (10 * (rI h84 p1.toNatClampNeg 1)) + (rI h84 p1.toNatClampNeg 2)) hB hK hR dX10_turn_117
        · refine v_aload_n hB 0 dX10_turn_50 rfl rfl ?_
          refine v_bipush hB (-6) dX10_turn_51 (by decide) ?_
          refine v_bWi (fun r53 h53 e53 => v_callV hB hK hR.rm [.int (-6)] [] (oC_55 g) lb_X10_refuse lv_X10_69 (c_X10_refuse g hK.A X.1.2.1 (-6) h e53) dX10_turn_53 rfl rfl (Nat.le_of_ble_eq_true rfl) (by decide) (by decide)) (fun r53 h53 => ?_)
          exact v_retWi (x := r53) hB hK hR dX10_turn_56
      · refine v_aload_n hB 0 dX10_turn_37 rfl rfl ?_
        refine v_bipush hB (-4) dX10_turn_38 (by decide) ?_
        refine v_bWi (fun r40 h40 e40 => v_callV hB hK hR.rm [.int (-4)] [] (oC_55 g) lb_X10_refuse lv_X10_69 (c_X10_refuse g hK.A X.1.2.1 (-4) h e40) dX10_turn_40 rfl rfl (Nat.le_of_ble_eq_true rfl) (by decide) (by decide)) (fun r40 h40 => ?_)
        exact v_retWi (x := r40) hB hK hR dX10_turn_43
    · refine v_aload_n hB 0 dX10_turn_26 rfl rfl ?_
      refine v_bipush hB (-2) dX10_turn_27 (by decide) ?_
      refine v_bWi (fun r29 h29 e29 => v_callV hB hK hR.rm [.int (-2)] [] (oC_55 g) lb_X10_refuse lv_X10_69 (c_X10_refuse g hK.A X.1.2.1 (-2) h e29) dX10_turn_29 rfl rfl (Nat.le_of_ble_eq_true rfl) (by decide) (by decide)) (fun r29 h29 => ?_)
      exact v_retWi (x := r29) hB hK hR dX10_turn_32
  · refine v_aload_n hB 0 dX10_turn_11 rfl rfl ?_
    refine v_iconst hB (-1) dX10_turn_12 (by decide) ?_
    refine v_bWi (fun r13 h13 e13 => v_callV hB hK hR.rm [.int (-1)] [] (oC_55 g) lb_X10_refuse lv_X10_69 (c_X10_refuse g hK.A X.1.2.1 (-1) h e13) dX10_turn_13 rfl rfl (Nat.le_of_ble_eq_true rfl) (by decide) (by decide)) (fun r13 h13 => ?_)
    exact v_retWi (x := r13) hB hK hR dX10_turn_16

def f_X10_of (p1 : Int32) (p2 : Int32) (h : pq_H) : Option (Int32 × pq_H) :=
  if (f_X6_lacks p1 h) = true then (bd2 (f_X10_refuse (-1) h) fun r13 h13 => some (r13, h13)) else (if (f_X10_notBelow p2 6) = true then (bd2 (f_X10_refuse (-2) h) fun r29 h29 => some (r29, h29)) else (gd (inb p1 6) (if p2 = 0 then (some (rI h p1.toNatClampNeg 1, h)) else (if p2 = 1 then (some (rI h p1.toNatClampNeg 2, h)) else (if p2 = 2 then (some (rI h p1.toNatClampNeg 3, h)) else (if p2 = 3 then (some (f_X10_termsOf (rI h p1.toNatClampNeg 3), h)) else (if p2 = 4 then ((f_X1_howMany p1.toNatClampNeg false h).bind fun r105 => some (r105, h)) else ((f_X1_howMany p1.toNatClampNeg true h).bind fun r111 => some (r111, h)))))))))
set_option maxRecDepth 100000 in
set_option maxHeartbeats 4000000 in
theorem c_X10_of (g : pq_g) {A : Nat → Prop} (hA : pq_A (SC g) A) (l : Launch) (p1 : Int32) (p2 : Int32) (h : pq_H) {rr : Int32} {hh : pq_H} (e : f_X10_of p1 p2 h = some (rr, hh)) : pq_M (SC g) A l yX10_of cX10_of 4 (some .int) 4 91 [.ref ((SC g).1.2.1 55), .int p1, .int p2] h (some (.int rr)) hh := by
  refine pq_met hA l (own := RX10) 4 91 _ [(0, .ref ((SC g).1.2.1 55)), (1, .int p1), (2, .int p2)] h _ hh (by decide +kernel) rfl (Nat.le_of_ble_eq_true rfl) rfl (fun X hXl hXA hB hK hR => ?_)
  refine V.cast (F' := f_X10_of p1 p2 h) (res' := (rr, hh)) (fun _ => e) ?_
  unfold f_X10_of
  refine v_aload_n hB 0 dX10_of_0 rfl rfl ?_
  refine v_getA hB hK (fl_X10_10 g) (cCA_55_0 g) dX10_of_1 ?_
  refine v_iload_n hB 1 dX10_of_4 rfl rfl ?_
  refine v_bT (v_callV hB hK hR.rm [.int p1] [] (oC_56 g) lb_X6_lacks lv_X10_107 (c_X6_lacks g hK.A X.1.2.1 p1 h) dX10_of_5 rfl rfl (Nat.le_of_ble_eq_true rfl) (by decide) (by decide)) ?_
  refine v_ifz_eq (r := f_X6_lacks p1 h) (tgt := 17) hB dX10_of_8 rfl ?_ ?_
  · refine v_iload_n hB 2 dX10_of_17 rfl rfl ?_
    refine v_bipush hB 6 dX10_of_18 (by decide) ?_
    refine v_bT (v_callS hB hK hR.rm [.int p2, .int 6] [] lb_X10_notBelow lv_X10_128 (c_X10_notBelow g hK.A X.1.2.1 p2 6 h) dX10_of_20 rfl rfl (Nat.le_of_ble_eq_true rfl) (by decide) (by decide)) ?_
    refine v_ifz_eq (r := f_X10_notBelow p2 6) (tgt := 33) hB dX10_of_23 rfl ?_ ?_
    · refine v_aload_n hB 0 dX10_of_33 rfl rfl ?_
      refine v_getA hB hK (fl_X10_10 g) (cCA_55_0 g) dX10_of_34 ?_
      refine v_getA hB hK (fl_X10_85 g) (cCA_56_0 g) dX10_of_37 ?_
      refine v_iload_n hB 1 dX10_of_40 rfl rfl ?_
      refine v_aa57 hB hK dX10_of_41 (fun q41 => ?_)
      refine v_astore_n hB [(0, .ref ((SC g).1.2.1 55)), (1, .int p1), (2, .int p2), (3, .ref ((SC g).1.2.1 p1.toNatClampNeg))] [1, 2, 3, 0] dX10_of_42 rfl (by decide) rfl ?_
      refine v_iload_n hB 2 dX10_of_43 rfl rfl ?_
      refine v_tcase (tgt := 80) hB 0 dX10_of_44 (by decide) (by decide) rfl rfl ?_ (fun n44_0 => ?_)
      · refine v_aload_n hB 3 dX10_of_80 rfl rfl ?_
        refine v_getI hB hK (fl_X10_131 g) (cI_Form_1 g p1.toNatClampNeg (lt6_12 q41)) dX10_of_81 ?_
        exact v_retWi (x := rI h p1.toNatClampNeg 1) hB hK hR dX10_of_84
      · refine v_tcase (tgt := 85) hB 1 dX10_of_44 (by decide) (by decide) rfl rfl ?_ (fun n44_1 => ?_)
        · refine v_aload_n hB 3 dX10_of_85 rfl rfl ?_
          refine v_getI hB hK (fl_X10_134 g) (cI_Form_2 g p1.toNatClampNeg (lt6_12 q41)) dX10_of_86 ?_
          exact v_retWi (x := rI h p1.toNatClampNeg 2) hB hK hR dX10_of_89
        · refine v_tcase (tgt := 90) hB 2 dX10_of_44 (by decide) (by decide) rfl rfl ?_ (fun n44_2 => ?_)
          · refine v_aload_n hB 3 dX10_of_90 rfl rfl ?_
            refine v_getI hB hK (fl_X10_137 g) (cI_Form_3 g p1.toNatClampNeg (lt6_12 q41)) dX10_of_91 ?_
            exact v_retWi (x := rI h p1.toNatClampNeg 3) hB hK hR dX10_of_94
          · refine v_tcase (tgt := 95) hB 3 dX10_of_44 (by decide) (by decide) rfl rfl ?_ (fun n44_3 => ?_)
            · refine v_aload_n hB 3 dX10_of_95 rfl rfl ?_
              refine v_getI hB hK (fl_X10_137 g) (cI_Form_3 g p1.toNatClampNeg (lt6_12 q41)) dX10_of_96 ?_
              refine v_bT (v_callS hB hK hR.rm [.int (rI h p1.toNatClampNeg 3)] [] lb_X10_termsOf lv_X10_140 (c_X10_termsOf g hK.A X.1.2.1 (rI h p1.toNatClampNeg 3) h) dX10_of_99 rfl rfl (Nat.le_of_ble_eq_true rfl) (by decide) (by decide)) ?_
              exact v_retWi (x := f_X10_termsOf (rI h p1.toNatClampNeg 3)) hB hK hR dX10_of_102
            · refine v_tcase (tgt := 103) hB 4 dX10_of_44 (by decide) (by decide) rfl rfl ?_ (fun n44_4 => ?_)
              · refine v_aload_n hB 3 dX10_of_103 rfl rfl ?_
                refine v_iconst hB 0 dX10_of_104 (by decide) ?_
                refine v_bRi (fun r105 e105 => v_callV hB hK hR.rm [.int (b2i false)] [] (o_Form g p1.toNatClampNeg (lt6_12 q41)) lb_X1_howMany lv_X10_143 (c_X1_howMany g hK.A X.1.2.1 p1.toNatClampNeg (lt6_12 q41) false h e105) dX10_of_105 rfl rfl (Nat.le_of_ble_eq_true rfl) (by decide) (by decide)) (fun r105 => ?_)
                exact v_retWi (x := r105) hB hK hR dX10_of_108
              · refine v_tdef (tgt := 109) hB dX10_of_44 (by have z0 := lv_neT n44_0 (a := 0) (by decide); have z1 := lv_neT n44_1 (a := 1) (by decide); have z2 := lv_neT n44_2 (a := 2) (by decide); have z3 := lv_neT n44_3 (a := 3) (by decide); have z4 := lv_neT n44_4 (a := 4) (by decide); omega) rfl ?_
                refine v_aload_n hB 3 dX10_of_109 rfl rfl ?_
                refine v_iconst hB 1 dX10_of_110 (by decide) ?_
                refine v_bRi (fun r111 e111 => v_callV hB hK hR.rm [.int (b2i true)] [] (o_Form g p1.toNatClampNeg (lt6_12 q41)) lb_X1_howMany lv_X10_143 (c_X1_howMany g hK.A X.1.2.1 p1.toNatClampNeg (lt6_12 q41) true h e111) dX10_of_111 rfl rfl (Nat.le_of_ble_eq_true rfl) (by decide) (by decide)) (fun r111 => ?_)
                exact v_retWi (x := r111) hB hK hR dX10_of_114
    · refine v_aload_n hB 0 dX10_of_26 rfl rfl ?_
      refine v_bipush hB (-2) dX10_of_27 (by decide) ?_
      refine v_bWi (fun r29 h29 e29 => v_callV hB hK hR.rm [.int (-2)] [] (oC_55 g) lb_X10_refuse lv_X10_69 (c_X10_refuse g hK.A X.1.2.1 (-2) h e29) dX10_of_29 rfl rfl (Nat.le_of_ble_eq_true rfl) (by decide) (by decide)) (fun r29 h29 => ?_)
      exact v_retWi (x := r29) hB hK hR dX10_of_32
  · refine v_aload_n hB 0 dX10_of_11 rfl rfl ?_
    refine v_iconst hB (-1) dX10_of_12 (by decide) ?_
    refine v_bWi (fun r13 h13 e13 => v_callV hB hK hR.rm [.int (-1)] [] (oC_55 g) lb_X10_refuse lv_X10_69 (c_X10_refuse g hK.A X.1.2.1 (-1) h e13) dX10_of_13 rfl rfl (Nat.le_of_ble_eq_true rfl) (by decide) (by decide)) (fun r13 h13 => ?_)
    exact v_retWi (x := r13) hB hK hR dX10_of_16

def f_X10_coefficient_j20 (h : pq_H) : Option (Int32 × pq_H) :=
  bd2 (f_X10_refuseFarInt (-1) h) fun r22 h22 => some (r22, h22)
def f_X10_coefficient (p1 : Int32) (p2 : Int32) (h : pq_H) : Option (Int32 × pq_H) :=
  if (f_X6_lacks p1 h) = true then (f_X10_coefficient_j20 h) else ((f_X10_lacksTerm p1 p2 h).bind fun r14 => if r14 = true then (f_X10_coefficient_j20 h) else (gd (inb p1 6) ((f_X1_at p1.toNatClampNeg p2 h).bind fun r36 => some (r36, h))))
set_option maxRecDepth 100000 in
set_option maxHeartbeats 4000000 in
theorem c_X10_coefficient (g : pq_g) {A : Nat → Prop} (hA : pq_A (SC g) A) (l : Launch) (p1 : Int32) (p2 : Int32) (h : pq_H) {rr : Int32} {hh : pq_H} (e : f_X10_coefficient p1 p2 h = some (rr, hh)) : pq_M (SC g) A l yX10_coefficient cX10_coefficient 3 (some .int) 3 67 [.ref ((SC g).1.2.1 55), .int p1, .int p2] h (some (.int rr)) hh := by
  refine pq_met hA l (own := RX10) 3 67 _ [(0, .ref ((SC g).1.2.1 55)), (1, .int p1), (2, .int p2)] h _ hh (by decide +kernel) rfl (Nat.le_of_ble_eq_true rfl) rfl (fun X hXl hXA hB hK hR => ?_)
  refine V.cast (F' := f_X10_coefficient p1 p2 h) (res' := (rr, hh)) (fun _ => e) ?_
  have hn20 : ∀ (h : pq_H), V X (SC g) (rr, hh) 3 20 [(0, .ref ((SC g).1.2.1 55))] [] h (f_X10_coefficient_j20 h) := by
    intro h
    unfold f_X10_coefficient_j20
    refine v_aload_n hB 0 dX10_coefficient_20 rfl rfl ?_
    refine v_iconst hB (-1) dX10_coefficient_21 (by decide) ?_
    refine v_bWi (fun r22 h22 e22 => v_callV hB hK hR.rm [.int (-1)] [] (oC_55 g) lb_X10_refuseFarInt lv_X10_115 (c_X10_refuseFarInt g hK.A X.1.2.1 (-1) h e22) dX10_coefficient_22 rfl rfl (Nat.le_of_ble_eq_true rfl) (by decide) (by decide)) (fun r22 h22 => ?_)
    exact v_retWi (x := r22) hB hK hR dX10_coefficient_25
  unfold f_X10_coefficient
  refine v_aload_n hB 0 dX10_coefficient_0 rfl rfl ?_
  refine v_getA hB hK (fl_X10_10 g) (cCA_55_0 g) dX10_coefficient_1 ?_
  refine v_iload_n hB 1 dX10_coefficient_4 rfl rfl ?_
  refine v_bT (v_callV hB hK hR.rm [.int p1] [] (oC_56 g) lb_X6_lacks lv_X10_107 (c_X6_lacks g hK.A X.1.2.1 p1 h) dX10_coefficient_5 rfl rfl (Nat.le_of_ble_eq_true rfl) (by decide) (by decide)) ?_
  refine v_ifz_ne (r := f_X6_lacks p1 h) (tgt := 20) hB dX10_coefficient_8 rfl ?_ ?_
  · exact V.sub [0] rfl (hn20 h)
  · refine v_aload_n hB 0 dX10_coefficient_11 rfl rfl ?_
    refine v_iload_n hB 1 dX10_coefficient_12 rfl rfl ?_
    refine v_iload_n hB 2 dX10_coefficient_13 rfl rfl ?_
    refine v_bRz (fun r14 e14 => v_callV hB hK hR.rm [.int p1, .int p2] [] (oC_55 g) lb_X10_lacksTerm lv_X10_111 (c_X10_lacksTerm g hK.A X.1.2.1 p1 p2 h e14) dX10_coefficient_14 rfl rfl (Nat.le_of_ble_eq_true rfl) (by decide) (by decide)) (fun r14 => ?_)
    refine v_ifz_eq (r := r14) (tgt := 26) hB dX10_coefficient_17 rfl ?_ ?_
    · refine v_aload_n hB 0 dX10_coefficient_26 rfl rfl ?_
      refine v_getA hB hK (fl_X10_10 g) (cCA_55_0 g) dX10_coefficient_27 ?_
      refine v_getA hB hK (fl_X10_85 g) (cCA_56_0 g) dX10_coefficient_30 ?_
      refine v_iload_n hB 1 dX10_coefficient_33 rfl rfl ?_
      refine v_aa57 hB hK dX10_coefficient_34 (fun q34 => ?_)
      refine v_iload_n hB 2 dX10_coefficient_35 rfl rfl ?_
      refine v_bRi (fun r36 e36 => v_callV hB hK hR.rm [.int p2] [] (o_Form g p1.toNatClampNeg (lt6_12 q34)) lb_X1_at lv_X10_149 (c_X1_at g hK.A X.1.2.1 p1.toNatClampNeg (lt6_12 q34) p2 h e36) dX10_coefficient_36 rfl rfl (Nat.le_of_ble_eq_true rfl) (by decide) (by decide)) (fun r36 => ?_)
      exact v_retWi (x := r36) hB hK hR dX10_coefficient_39
    · exact V.sub [0] rfl (hn20 h)

def f_X10_refuseFar (p1 : Int32) (h : pq_H) : Option (Int64 × pq_H) :=
  bd2 (f_X10_refuse p1 h) fun r5 h5 => some (4000000000000000000 - r5.toInt64, h5)
set_option maxRecDepth 100000 in
set_option maxHeartbeats 4000000 in
theorem c_X10_refuseFar (g : pq_g) {A : Nat → Prop} (hA : pq_A (SC g) A) (l : Launch) (p1 : Int32) (h : pq_H) {rr : Int64} {hh : pq_H} (e : f_X10_refuseFar p1 h = some (rr, hh)) : pq_M (SC g) A l yX10_refuseFar cX10_refuseFar 2 (some .long) 1 21 [.ref ((SC g).1.2.1 55), .int p1] h (some (.long rr)) hh := by
  refine pq_met hA l (own := RX10) 1 21 _ [(0, .ref ((SC g).1.2.1 55)), (1, .int p1)] h _ hh (by decide +kernel) rfl (Nat.le_of_ble_eq_true rfl) rfl (fun X hXl hXA hB hK hR => ?_)
  refine V.cast (F' := f_X10_refuseFar p1 h) (res' := (rr, hh)) (fun _ => e) ?_
  unfold f_X10_refuseFar
  refine v_ldc2 hB 4000000000000000000 k_X10_301 dX10_refuseFar_0 ?_
  refine v_aload_n hB 0 dX10_refuseFar_3 rfl rfl ?_
  refine v_iload_n hB 1 dX10_refuseFar_4 rfl rfl ?_
  refine v_bWi (fun r5 h5 e5 => v_callV hB hK hR.rm [.int p1] [.long 4000000000000000000] (oC_55 g) lb_X10_refuse lv_X10_69 (c_X10_refuse g hK.A X.1.2.1 p1 h e5) dX10_refuseFar_5 rfl rfl (Nat.le_of_ble_eq_true rfl) (by decide) (by decide)) (fun r5 h5 => ?_)
  refine v_i2l hB dX10_refuseFar_8 ?_
  refine v_lsub hB dX10_refuseFar_9 ?_
  exact v_retWj (x := 4000000000000000000 - r5.toInt64) hB hK hR dX10_refuseFar_10

def f_X10_workOn (p1 : Int32) (p2 : Int32) (h : pq_H) : Option pq_H :=
  gd (inb p1 6) ((f_X9_takeOn p1.toNatClampNeg p2 h).bind fun h17 => some h17)
set_option maxRecDepth 100000 in
set_option maxHeartbeats 4000000 in
theorem c_X10_workOn (g : pq_g) {A : Nat → Prop} (hA : pq_A (SC g) A) (l : Launch) (p1 : Int32) (p2 : Int32) (h : pq_H) {hh : pq_H} (e : f_X10_workOn p1 p2 h = some hh) : pq_M (SC g) A l yX10_workOn cX10_workOn 3 (some (.object "FormsAboveNought$Work")) 3 70 [.ref ((SC g).1.2.1 55), .int p1, .int p2] h (some (.ref ((SC g).1.2.1 59))) hh := by
  refine pq_met hA l (own := RX10) 3 70 _ [(0, .ref ((SC g).1.2.1 55)), (1, .int p1), (2, .int p2)] h _ hh (by decide +kernel) rfl (Nat.le_of_ble_eq_true rfl) rfl (fun X hXl hXA hB hK hR => ?_)
  refine V.cast (F' := f_X10_workOn p1 p2 h) (res' := hh) (fun _ => e) ?_
  unfold f_X10_workOn
  refine v_aload_n hB 0 dX10_workOn_0 rfl rfl ?_
  refine v_getA hB hK (fl_X10_10 g) (cCA_55_0 g) dX10_workOn_1 ?_
  refine v_getA hB hK (fl_X10_303 g) (cCA_56_2 g) dX10_workOn_4 ?_
  refine v_aload_n hB 0 dX10_workOn_7 rfl rfl ?_
  refine v_getA hB hK (fl_X10_10 g) (cCA_55_0 g) dX10_workOn_8 ?_
  refine v_getA hB hK (fl_X10_85 g) (cCA_56_0 g) dX10_workOn_11 ?_
  refine v_iload_n hB 1 dX10_workOn_14 rfl rfl ?_
  refine v_aa57 hB hK dX10_workOn_15 (fun q15 => ?_)
  refine v_iload_n hB 2 dX10_workOn_16 rfl rfl ?_
  refine v_bV (fun h17 e17 => v_callV hB hK hR.rm [.ref ((SC g).1.2.1 p1.toNatClampNeg), .int p2] [] (oC_59 g) lb_X9_takeOn lv_X10_307 (c_X9_takeOn g hK.A X.1.2.1 p1.toNatClampNeg (lt6_12 q15) p2 h e17) dX10_workOn_17 rfl rfl (Nat.le_of_ble_eq_true rfl) (by decide) (by decide)) (fun h17 => ?_)
  refine v_aload_n hB 0 dX10_workOn_20 rfl rfl ?_
  refine v_getA hB hK (fl_X10_10 g) (cCA_55_0 g) dX10_workOn_21 ?_
  refine v_getA hB hK (fl_X10_303 g) (cCA_56_2 g) dX10_workOn_24 ?_
  exact v_retWa hB hK hR dX10_workOn_27

