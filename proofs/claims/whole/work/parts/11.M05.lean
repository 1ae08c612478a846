def f_X11_put (p1 : Int32) (p2 : Int32) (p3 : Int32) (h : pq_H) : Option (Int32 × pq_H) :=
  if (f_X11_isList p1) = true then ((f_X11_notPlace p1 p2 h).bind fun r16 => if r16 = 0 then (gd (inb ((40 * p1) + p2) 120) (some (1, wI h 21 ((40 * p1) + p2).toNatClampNeg p3))) else (some (r16, h))) else (bd2 (f_X11_no (-1) h) fun r9 h9 => some (r9, h9))
set_option maxRecDepth 100000 in
set_option maxHeartbeats 4000000 in
theorem c_X11_put (g : pq_g) {A : Nat → Prop} (hA : pq_A (SM g) A) (l : Launch) (p1 : Int32) (p2 : Int32) (p3 : Int32) (h : pq_H) {rr : Int32} {hh : pq_H} (e : f_X11_put p1 p2 p3 h = some (rr, hh)) : pq_M (SM g) A l yX11_put cX11_put 5 (some .int) 2 44 [.ref ((SM g).1.2.1 0), .int p1, .int p2, .int p3] h (some (.int rr)) hh := by
  refine pq_met hA l (own := RX11) 2 44 _ [(0, .ref ((SM g).1.2.1 0)), (1, .int p1), (2, .int p2), (3, .int p3)] h _ hh (by decide +kernel) rfl (Nat.le_of_ble_eq_true rfl) rfl (fun X hXl hXA hB hK hR => ?_)
  refine V.cast (F' := f_X11_put p1 p2 p3 h) (res' := (rr, hh)) (fun _ => e) ?_
  unfold f_X11_put
  refine v_iload_n hB 1 dX11_put_0 rfl rfl ?_
  refine v_bT (v_callS hB hK hR.rm [.int p1] [] lb_X11_isList lv_X11_310 (c_X11_isList g hK.A X.1.2.1 p1 h) dX11_put_1 rfl rfl (Nat.le_of_ble_eq_true rfl) (by decide) (by decide)) ?_
  refine v_ifz_ne (r := f_X11_isList p1) (tgt := 13) hB dX11_put_4 rfl ?_ ?_
  · refine v_aload_n hB 0 dX11_put_13 rfl rfl ?_
    refine v_iload_n hB 1 dX11_put_14 rfl rfl ?_
    refine v_iload_n hB 2 dX11_put_15 rfl rfl ?_
    refine v_bRi (fun r16 e16 => v_callV hB hK hR.rm [.int p1, .int p2] [] (oM_0 g) lb_X11_notPlace lv_X11_388 (c_X11_notPlace g hK.A X.1.2.1 p1 p2 h e16) dX11_put_16 rfl rfl (Nat.le_of_ble_eq_true rfl) (by decide) (by decide)) (fun r16 => ?_)
    refine v_istore hB [(0, .ref ((SM g).1.2.1 0)), (1, .int p1), (2, .int p2), (3, .int p3), (4, .int r16)] [1, 2, 3, 4, 0] dX11_put_19 (by decide) rfl ?_
    refine v_iload hB 4 dX11_put_21 rfl ?_
    refine v_if_eq (tgt := 29) hB dX11_put_23 rfl ?_ ?_
    · refine v_aload_n hB 0 dX11_put_29 rfl rfl ?_
      refine v_getA hB hK (fl_X11_85 g) (cMA_0_39 g) dX11_put_30 ?_
      refine v_bipush hB 40 dX11_put_33 (by decide) ?_
      refine v_iload_n hB 1 dX11_put_35 rfl rfl ?_
      refine v_imul hB dX11_put_36 ?_
      refine v_iload_n hB 2 dX11_put_37 rfl rfl ?_
      refine v_iadd hB dX11_put_38 ?_
      refine v_iload_n hB 3 dX11_put_39 rfl rfl ?_
      refine v_iast hB hK (aMI_21 g) dX11_put_40 ?_
      refine v_iconst hB 1 dX11_put_41 (by decide) ?_
      exact v_retWi (x := 1) hB hK hR dX11_put_42
    · refine v_iload hB 4 dX11_put_26 rfl ?_
      exact v_retWi (x := r16) hB hK hR dX11_put_28
  · refine v_aload_n hB 0 dX11_put_7 rfl rfl ?_
    refine v_iconst hB (-1) dX11_put_8 (by decide) ?_
    refine v_bWi (fun r9 h9 e9 => v_callV hB hK hR.rm [.int (-1)] [] (oM_0 g) lb_X11_no lv_X11_8 (c_X11_no g hK.A X.1.2.1 (-1) h e9) dX11_put_9 rfl rfl (Nat.le_of_ble_eq_true rfl) (by decide) (by decide)) (fun r9 h9 => ?_)
    exact v_retWi (x := r9) hB hK hR dX11_put_12

def f_X11_look (p1 : Int32) (p2 : Int32) (h : pq_H) : Option (Int64 × pq_H) :=
  if (f_X11_isList p1) = true then ((f_X11_notPlace p1 p2 h).bind fun r16 => if r16 = 0 then (gd (inb ((40 * p1) + p2) 120) (some ((rI h 21 ((40 * p1) + p2).toNatClampNeg).toInt64, h))) else (some (4000000000000000000 - r16.toInt64, h))) else (bd2 (f_X11_lower (-1) h) fun r9 h9 => some (r9, h9))
set_option maxRecDepth 100000 in
set_option maxHeartbeats 4000000 in
theorem c_X11_look (g : pq_g) {A : Nat → Prop} (hA : pq_A (SM g) A) (l : Launch) (p1 : Int32) (p2 : Int32) (h : pq_H) {rr : Int64} {hh : pq_H} (e : f_X11_look p1 p2 h = some (rr, hh)) : pq_M (SM g) A l yX11_look cX11_look 4 (some .long) 2 44 [.ref ((SM g).1.2.1 0), .int p1, .int p2] h (some (.long rr)) hh := by
  refine pq_met hA l (own := RX11) 2 44 _ [(0, .ref ((SM g).1.2.1 0)), (1, .int p1), (2, .int p2)] h _ hh (by decide +kernel) rfl (Nat.le_of_ble_eq_true rfl) rfl (fun X hXl hXA hB hK hR => ?_)
  refine V.cast (F' := f_X11_look p1 p2 h) (res' := (rr, hh)) (fun _ => e) ?_
  unfold f_X11_look
  refine v_iload_n hB 1 dX11_look_0 rfl rfl ?_
  refine v_bT (v_callS hB hK hR.rm [.int p1] [] lb_X11_isList lv_X11_310 (c_X11_isList g hK.A X.1.2.1 p1 h) dX11_look_1 rfl rfl (Nat.le_of_ble_eq_true rfl) (by decide) (by decide)) ?_
  refine v_ifz_ne (r := f_X11_isList p1) (tgt := 13) hB dX11_look_4 rfl ?_ ?_
  · refine v_aload_n hB 0 dX11_look_13 rfl rfl ?_
    refine v_iload_n hB 1 dX11_look_14 rfl rfl ?_
    refine v_iload_n hB 2 dX11_look_15 rfl rfl ?_
    refine v_bRi (fun r16 e16 => v_callV hB hK hR.rm [.int p1, .int p2] [] (oM_0 g) lb_X11_notPlace lv_X11_388 (c_X11_notPlace g hK.A X.1.2.1 p1 p2 h e16) dX11_look_16 rfl rfl (Nat.le_of_ble_eq_true rfl) (by decide) (by decide)) (fun r16 => ?_)
    refine v_istore_n hB [(0, .ref ((SM g).1.2.1 0)), (1, .int p1), (2, .int p2), (3, .int r16)] [1, 2, 3, 0] dX11_look_19 rfl (by decide) rfl ?_
    refine v_iload_n hB 3 dX11_look_20 rfl rfl ?_
    refine v_if_eq (tgt := 33) hB dX11_look_21 rfl ?_ ?_
    · refine v_aload_n hB 0 dX11_look_33 rfl rfl ?_
      refine v_getA hB hK (fl_X11_85 g) (cMA_0_39 g) dX11_look_34 ?_
      refine v_bipush hB 40 dX11_look_37 (by decide) ?_
      refine v_iload_n hB 1 dX11_look_39 rfl rfl ?_
      refine v_imul hB dX11_look_40 ?_
      refine v_iload_n hB 2 dX11_look_41 rfl rfl ?_
      refine v_iadd hB dX11_look_42 ?_
      refine v_iald hB hK (aMI_21 g) dX11_look_43 ?_
      refine v_i2l hB dX11_look_44 ?_
      exact v_retWj (x := (rI h 21 ((40 * p1) + p2).toNatClampNeg).toInt64) hB hK hR dX11_look_45
    · refine v_ldc2 hB 4000000000000000000 k_X11_12 dX11_look_24 ?_
      refine v_iload_n hB 3 dX11_look_27 rfl rfl ?_
      refine v_i2l hB dX11_look_28 ?_
      refine v_lsub hB dX11_look_29 ?_
      refine v_goto (tgt := 45) hB dX11_look_30 rfl ?_
      exact v_retWj (x := 4000000000000000000 - r16.toInt64) hB hK hR dX11_look_45
  · refine v_aload_n hB 0 dX11_look_7 rfl rfl ?_
    refine v_iconst hB (-1) dX11_look_8 (by decide) ?_
    refine v_bWj (fun r9 h9 e9 => v_callV hB hK hR.rm [.int (-1)] [] (oM_0 g) lb_X11_lower lv_X11_231 (c_X11_lower g hK.A X.1.2.1 (-1) h e9) dX11_look_9 rfl rfl (Nat.le_of_ble_eq_true rfl) (by decide) (by decide)) (fun r9 h9 => ?_)
    exact v_retWj (x := r9) hB hK hR dX11_look_12

def f_X11_lays_j15 (h : pq_H) : Option (Int32 × pq_H) :=
  bd2 (f_X11_no (-1) h) fun r17 h17 => some (r17, h17)
def f_X11_lays_l67 (p1 : Int32) (p2 : Int32) (p3 : Int32) (v4 : Int32) (w67 : Int32 → pq_H → Option (Int32 × pq_H)) (v5 : Int32) (h : pq_H) : Option (Int32 × pq_H) :=
  if v4 ≤ v5 then (some (v4, h)) else ((f_X11_coefficientOf p3 v5 h).bind fun r91 => gd (inb (((40 * p1) + p2) + v5) 120) (w67 (v5 + 1) (wI h 21 (((40 * p1) + p2) + v5).toNatClampNeg r91)))
def f_X11_lays (p1 : Int32) (p2 : Int32) (p3 : Int32) (h : pq_H) : Option (Int32 × pq_H) :=
  if (f_X11_isList p1) = true then (if (f_X11_isForm p3 h) = true then (gd (inb p3 6) (gd (inb p1 3) (if 0 ≤ (rI h 20 p1.toNatClampNeg) then (if p2 < 0 then (some ((-13), h)) else (gd (inb p1 3) (if p2 ≤ ((rI h 20 p1.toNatClampNeg) - (f_X11_termsOf (rI h 5 p3.toNatClampNeg))) then (lp (fun _ _ => none) (f_X11_lays_l67 p1 p2 p3 (f_X11_termsOf (rI h 5 p3.toNatClampNeg))) 1000 0 h) else (some ((-13), h))))) else (some ((-11), h))))) else (f_X11_lays_j15 h)) else (f_X11_lays_j15 h)
set_option maxRecDepth 100000 in
set_option maxHeartbeats 4000000 in
theorem c_X11_lays (g : pq_g) {A : Nat → Prop} (hA : pq_A (SM g) A) (l : Launch) (p1 : Int32) (p2 : Int32) (p3 : Int32) (h : pq_H) {rr : Int32} {hh : pq_H} (e : f_X11_lays p1 p2 p3 h = some (rr, hh)) : pq_M (SM g) A l yX11_lays cX11_lays 6 (some .int) 3 71 [.ref ((SM g).1.2.1 0), .int p1, .int p2, .int p3] h (some (.int rr)) hh := by
  refine pq_met hA l (own := RX11) 3 71 _ [(0, .ref ((SM g).1.2.1 0)), (1, .int p1), (2, .int p2), (3, .int p3)] h _ hh (by decide +kernel) rfl (Nat.le_of_ble_eq_true rfl) rfl (fun X hXl hXA hB hK hR => ?_)
  refine V.cast (F' := f_X11_lays p1 p2 p3 h) (res' := (rr, hh)) (fun _ => e) ?_
  have hn15 : ∀ (h : pq_H), V X (SM g) (rr, hh) 6 15 [(0, .ref ((SM g).1.2.1 0))] [] h (f_X11_lays_j15 h) := by
    intro h
    unfold f_X11_lays_j15
    refine v_aload_n hB 0 dX11_lays_15 rfl rfl ?_
    refine v_iconst hB (-1) dX11_lays_16 (by decide) ?_
    refine v_bWi (fun r17 h17 e17 => v_callV hB hK hR.rm [.int (-1)] [] (oM_0 g) lb_X11_no lv_X11_8 (c_X11_no g hK.A X.1.2.1 (-1) h e17) dX11_lays_17 rfl rfl (Nat.le_of_ble_eq_true rfl) (by decide) (by decide)) (fun r17 h17 => ?_)
    exact v_retWi (x := r17) hB hK hR dX11_lays_20
  have hn67 : ∀ (v4 : Int32) (n : Nat), ∀ (v5 : Int32) (h : pq_H), V X (SM g) (rr, hh) 6 67 [(0, .ref ((SM g).1.2.1 0)), (1, .int p1), (2, .int p2), (3, .int p3), (4, .int v4), (5, .int v5)] [] h (lp (fun _ _ => none) (f_X11_lays_l67 p1 p2 p3 v4) n v5 h) := by
    intro v4
    refine lp_ind (fun (w67 : Int32 → pq_H → Option (Int32 × pq_H)) => ∀ (v5 : Int32) (h : pq_H), V X (SM g) (rr, hh) 6 67 [(0, .ref ((SM g).1.2.1 0)), (1, .int p1), (2, .int p2), (3, .int p3), (4, .int v4), (5, .int v5)] [] h (w67 v5 h)) (fun _ _ => V.none _ _ _ _) (fun w67 ih67 => ?_)
    intro v5 h
    unfold f_X11_lays_l67
    refine v_iload hB 5 dX11_lays_67 rfl ?_
    refine v_iload hB 4 dX11_lays_69 rfl ?_
    refine v_icmp_ge (tgt := 101) hB dX11_lays_71 rfl ?_ ?_
    · refine v_iload hB 4 dX11_lays_101 rfl ?_
      exact v_retWi (x := v4) hB hK hR dX11_lays_103
    · refine v_aload_n hB 0 dX11_lays_74 rfl rfl ?_
      refine v_getA hB hK (fl_X11_85 g) (cMA_0_39 g) dX11_lays_75 ?_
      refine v_bipush hB 40 dX11_lays_78 (by decide) ?_
      refine v_iload_n hB 1 dX11_lays_80 rfl rfl ?_
      refine v_imul hB dX11_lays_81 ?_
      refine v_iload_n hB 2 dX11_lays_82 rfl rfl ?_
      refine v_iadd hB dX11_lays_83 ?_
      refine v_iload hB 5 dX11_lays_84 rfl ?_
      refine v_iadd hB dX11_lays_86 ?_
      refine v_aload_n hB 0 dX11_lays_87 rfl rfl ?_
      refine v_iload_n hB 3 dX11_lays_88 rfl rfl ?_
      refine v_iload hB 5 dX11_lays_89 rfl ?_
      refine v_bRi (fun r91 e91 => v_callV hB hK hR.rm [.int p3, .int v5] [.int (((40 * p1) + p2) + v5), .ref ((SM g).1.2.1 21)] (oM_0 g) lb_X11_coefficientOf lv_X11_115 (c_X11_coefficientOf g hK.A X.1.2.1 p3 v5 h e91) dX11_lays_91 rfl rfl (Nat.le_of_ble_eq_true rfl) (by decide) (by decide)) (fun r91 => ?_)
      refine v_iast hB hK (aMI_21 g) dX11_lays_94 ?_
      refine v_iinc hB (v5 + 1) [(0, .ref ((SM g).1.2.1 0)), (1, .int p1), (2, .int p2), (3, .int p3), (4, .int v4), (5, .int (v5 + 1))] 5 [1, 2, 3, 4, 5, 0] dX11_lays_95 rfl rfl (by decide) rfl ?_
      refine v_goto (tgt := 67) hB dX11_lays_98 rfl ?_
      exact V.sub [0, 1, 2, 3, 4, 5] rfl (ih67 (v5 + 1) (wI h 21 (((40 * p1) + p2) + v5).toNatClampNeg r91))
  unfold f_X11_lays
  refine v_iload_n hB 1 dX11_lays_0 rfl rfl ?_
  refine v_bT (v_callS hB hK hR.rm [.int p1] [] lb_X11_isList lv_X11_310 (c_X11_isList g hK.A X.1.2.1 p1 h) dX11_lays_1 rfl rfl (Nat.le_of_ble_eq_true rfl) (by decide) (by decide)) ?_
  refine v_ifz_eq (r := f_X11_isList p1) (tgt := 15) hB dX11_lays_4 rfl ?_ ?_
  · exact V.sub [0] rfl (hn15 h)
  · refine v_aload_n hB 0 dX11_lays_7 rfl rfl ?_
    refine v_iload_n hB 3 dX11_lays_8 rfl rfl ?_
    refine v_bT (v_callV hB hK hR.rm [.int p3] [] (oM_0 g) lb_X11_isForm lv_X11_143 (c_X11_isForm g hK.A X.1.2.1 p3 h) dX11_lays_9 rfl rfl (Nat.le_of_ble_eq_true rfl) (by decide) (by decide)) ?_
    refine v_ifz_ne (r := f_X11_isForm p3 h) (tgt := 21) hB dX11_lays_12 rfl ?_ ?_
    · refine v_aload_n hB 0 dX11_lays_21 rfl rfl ?_
      refine v_getA hB hK (fl_X11_36 g) (cMA_0_4 g) dX11_lays_22 ?_
      refine v_iload_n hB 3 dX11_lays_25 rfl rfl ?_
      refine v_iald hB hK (aMI_5 g) dX11_lays_26 ?_
      refine v_bT (v_callS hB hK hR.rm [.int (rI h 5 p3.toNatClampNeg)] [] lb_X11_termsOf lv_X11_102 (c_X11_termsOf g hK.A X.1.2.1 (rI h 5 p3.toNatClampNeg) h) dX11_lays_27 rfl rfl (Nat.le_of_ble_eq_true rfl) (by decide) (by decide)) ?_
      refine v_istore hB [(0, .ref ((SM g).1.2.1 0)), (1, .int p1), (2, .int p2), (3, .int p3), (4, .int (f_X11_termsOf (rI h 5 p3.toNatClampNeg)))] [1, 2, 3, 4, 0] dX11_lays_30 (by decide) rfl ?_
      refine v_aload_n hB 0 dX11_lays_32 rfl rfl ?_
      refine v_getA hB hK (fl_X11_82 g) (cMA_0_38 g) dX11_lays_33 ?_
      refine v_iload_n hB 1 dX11_lays_36 rfl rfl ?_
      refine v_iald hB hK (aMI_20 g) dX11_lays_37 ?_
      refine v_if_ge (tgt := 44) hB dX11_lays_38 rfl ?_ ?_
      · refine v_iload_n hB 2 dX11_lays_44 rfl rfl ?_
        refine v_if_lt (tgt := 61) hB dX11_lays_45 rfl ?_ ?_
        · refine v_bipush hB (-13) dX11_lays_61 (by decide) ?_
          exact v_retWi (x := (-13)) hB hK hR dX11_lays_63
        · refine v_iload_n hB 2 dX11_lays_48 rfl rfl ?_
          refine v_aload_n hB 0 dX11_lays_49 rfl rfl ?_
          refine v_getA hB hK (fl_X11_82 g) (cMA_0_38 g) dX11_lays_50 ?_
          refine v_iload_n hB 1 dX11_lays_53 rfl rfl ?_
          refine v_iald hB hK (aMI_20 g) dX11_lays_54 ?_
          refine v_iload hB 4 dX11_lays_55 rfl ?_
          refine v_isub hB dX11_lays_57 ?_
          refine v_icmp_le (tgt := 64) hB dX11_lays_58 rfl ?_ ?_
          · refine v_iconst hB 0 dX11_lays_64 (by decide) ?_
            refine v_istore hB [(0, .ref ((SM g).1.2.1 0)), (1, .int p1), (2, .int p2), (3, .int p3), (4, .int (f_X11_termsOf (rI h 5 p3.toNatClampNeg))), (5, .int 0)] [1, 2, 3, 4, 5, 0] dX11_lays_65 (by decide) rfl ?_
            exact V.sub [0, 1, 2, 3, 4, 5] rfl (hn67 (f_X11_termsOf (rI h 5 p3.toNatClampNeg)) 1000 0 h)
          · refine v_bipush hB (-13) dX11_lays_61 (by decide) ?_
            exact v_retWi (x := (-13)) hB hK hR dX11_lays_63
      · refine v_bipush hB (-11) dX11_lays_41 (by decide) ?_
        exact v_retWi (x := (-11)) hB hK hR dX11_lays_43
    · exact V.sub [0] rfl (hn15 h)

def f_X11_judge_j15 (h : pq_H) : Option (Int32 × pq_H) :=
  bd2 (f_X11_no (-1) h) fun r17 h17 => some (r17, h17)
def f_X11_judge_l35 (p1 : Int32) (p2 : Int32) (h : pq_H) (w35 : Int32 → Option (Int32 × pq_H)) (v3 : Int32) : Option (Int32 × pq_H) :=
  gd (inb p1 3) (if (rI h 20 p1.toNatClampNeg) ≤ v3 then (some ((-9), h)) else ((f_X11_isTerm p2 v3 h).bind fun r48 => if r48 = true then (gd (inb ((40 * p1) + v3) 120) ((f_X11_coefficientOf p2 v3 h).bind fun r68 => if (rI h 21 ((40 * p1) + v3).toNatClampNeg) = r68 then (w35 (v3 + 1)) else (some (v3, h)))) else (some (v3, h))))
def f_X11_judge (p1 : Int32) (p2 : Int32) (h : pq_H) : Option (Int32 × pq_H) :=
  if (f_X11_isList p1) = true then (if (f_X11_isForm p2 h) = true then (gd (inb p1 3) (if 0 ≤ (rI h 20 p1.toNatClampNeg) then (lp (fun _ => none) (f_X11_judge_l35 p1 p2 h) 1000 0) else (some ((-11), h)))) else (f_X11_judge_j15 h)) else (f_X11_judge_j15 h)
set_option maxRecDepth 100000 in
set_option maxHeartbeats 4000000 in
theorem c_X11_judge (g : pq_g) {A : Nat → Prop} (hA : pq_A (SM g) A) (l : Launch) (p1 : Int32) (p2 : Int32) (h : pq_H) {rr : Int32} {hh : pq_H} (e : f_X11_judge p1 p2 h = some (rr, hh)) : pq_M (SM g) A l yX11_judge cX11_judge 4 (some .int) 3 71 [.ref ((SM g).1.2.1 0), .int p1, .int p2] h (some (.int rr)) hh := by
  refine pq_met hA l (own := RX11) 3 71 _ [(0, .ref ((SM g).1.2.1 0)), (1, .int p1), (2, .int p2)] h _ hh (by decide +kernel) rfl (Nat.le_of_ble_eq_true rfl) rfl (fun X hXl hXA hB hK hR => ?_)
  refine V.cast (F' := f_X11_judge p1 p2 h) (res' := (rr, hh)) (fun _ => e) ?_
  have hn15 : ∀ (h : pq_H), V X (SM g) (rr, hh) 4 15 [(0, .ref ((SM g).1.2.1 0))] [] h (f_X11_judge_j15 h) := by
    intro h
    unfold f_X11_judge_j15
    refine v_aload_n hB 0 dX11_judge_15 rfl rfl ?_
    refine v_iconst hB (-1) dX11_judge_16 (by decide) ?_
    refine v_bWi (fun r17 h17 e17 => v_callV hB hK hR.rm [.int (-1)] [] (oM_0 g) lb_X11_no lv_X11_8 (c_X11_no g hK.A X.1.2.1 (-1) h e17) dX11_judge_17 rfl rfl (Nat.le_of_ble_eq_true rfl) (by decide) (by decide)) (fun r17 h17 => ?_)
    exact v_retWi (x := r17) hB hK hR dX11_judge_20
  have hn35 : ∀ (h : pq_H) (n : Nat), ∀ (v3 : Int32), V X (SM g) (rr, hh) 4 35 [(0, .ref ((SM g).1.2.1 0)), (1, .int p1), (2, .int p2), (3, .int v3)] [] h (lp (fun _ => none) (f_X11_judge_l35 p1 p2 h) n v3) := by
    intro h
    refine lp_ind (fun (w35 : Int32 → Option (Int32 × pq_H)) => ∀ (v3 : Int32), V X (SM g) (rr, hh) 4 35 [(0, .ref ((SM g).1.2.1 0)), (1, .int p1), (2, .int p2), (3, .int v3)] [] h (w35 v3)) (fun _ => V.none _ _ _ _) (fun w35 ih35 => ?_)
    intro v3
    unfold f_X11_judge_l35
    refine v_iload_n hB 3 dX11_judge_35 rfl rfl ?_
    refine v_aload_n hB 0 dX11_judge_36 rfl rfl ?_
    refine v_getA hB hK (fl_X11_82 g) (cMA_0_38 g) dX11_judge_37 ?_
    refine v_iload_n hB 1 dX11_judge_40 rfl rfl ?_
    refine v_iald hB hK (aMI_20 g) dX11_judge_41 ?_
    refine v_icmp_ge (tgt := 82) hB dX11_judge_42 rfl ?_ ?_
    · refine v_bipush hB (-9) dX11_judge_82 (by decide) ?_
      exact v_retWi (x := (-9)) hB hK hR dX11_judge_84
    · refine v_aload_n hB 0 dX11_judge_45 rfl rfl ?_
      refine v_iload_n hB 2 dX11_judge_46 rfl rfl ?_
      refine v_iload_n hB 3 dX11_judge_47 rfl rfl ?_
      refine v_bRz (fun r48 e48 => v_callV hB hK hR.rm [.int p2, .int v3] [] (oM_0 g) lb_X11_isTerm lv_X11_111 (c_X11_isTerm g hK.A X.1.2.1 p2 v3 h e48) dX11_judge_48 rfl rfl (Nat.le_of_ble_eq_true rfl) (by decide) (by decide)) (fun r48 => ?_)
      refine v_ifz_eq (r := r48) (tgt := 74) hB dX11_judge_51 rfl ?_ ?_
      · refine v_iload_n hB 3 dX11_judge_74 rfl rfl ?_
        exact v_retWi (x := v3) hB hK hR dX11_judge_75
      · refine v_aload_n hB 0 dX11_judge_54 rfl rfl ?_
        refine v_getA hB hK (fl_X11_85 g) (cMA_0_39 g) dX11_judge_55 ?_
        refine v_bipush hB 40 dX11_judge_58 (by decide) ?_
        refine v_iload_n hB 1 dX11_judge_60 rfl rfl ?_
        refine v_imul hB dX11_judge_61 ?_
        refine v_iload_n hB 3 dX11_judge_62 rfl rfl ?_
        refine v_iadd hB dX11_judge_63 ?_
        refine v_iald hB hK (aMI_21 g) dX11_judge_64 ?_
        refine v_aload_n hB 0 dX11_judge_65 rfl rfl ?_
        refine v_iload_n hB 2 dX11_judge_66 rfl rfl ?_
        refine v_iload_n hB 3 dX11_judge_67 rfl rfl ?_
        refine v_bRi (fun r68 e68 => v_callV hB hK hR.rm [.int p2, .int v3] [.int (rI h 21 ((40 * p1) + v3).toNatClampNeg)] (oM_0 g) lb_X11_coefficientOf lv_X11_115 (c_X11_coefficientOf g hK.A X.1.2.1 p2 v3 h e68) dX11_judge_68 rfl rfl (Nat.le_of_ble_eq_true rfl) (by decide) (by decide)) (fun r68 => ?_)
        refine v_icmp_eq (tgt := 76) hB dX11_judge_71 rfl ?_ ?_
        · refine v_iinc hB (v3 + 1) [(0, .ref ((SM g).1.2.1 0)), (1, .int p1), (2, .int p2), (3, .int (v3 + 1))] 3 [1, 2, 3, 0] dX11_judge_76 rfl rfl (by decide) rfl ?_
          refine v_goto (tgt := 35) hB dX11_judge_79 rfl ?_
          exact V.sub [0, 1, 2, 3] rfl (ih35 (v3 + 1))
        · refine v_iload_n hB 3 dX11_judge_74 rfl rfl ?_
          exact v_retWi (x := v3) hB hK hR dX11_judge_75
  unfold f_X11_judge
  refine v_iload_n hB 1 dX11_judge_0 rfl rfl ?_
  refine v_bT (v_callS hB hK hR.rm [.int p1] [] lb_X11_isList lv_X11_310 (c_X11_isList g hK.A X.1.2.1 p1 h) dX11_judge_1 rfl rfl (Nat.le_of_ble_eq_true rfl) (by decide) (by decide)) ?_
  refine v_ifz_eq (r := f_X11_isList p1) (tgt := 15) hB dX11_judge_4 rfl ?_ ?_
  · exact V.sub [0] rfl (hn15 h)
  · refine v_aload_n hB 0 dX11_judge_7 rfl rfl ?_
    refine v_iload_n hB 2 dX11_judge_8 rfl rfl ?_
    refine v_bT (v_callV hB hK hR.rm [.int p2] [] (oM_0 g) lb_X11_isForm lv_X11_143 (c_X11_isForm g hK.A X.1.2.1 p2 h) dX11_judge_9 rfl rfl (Nat.le_of_ble_eq_true rfl) (by decide) (by decide)) ?_
    refine v_ifz_ne (r := f_X11_isForm p2 h) (tgt := 21) hB dX11_judge_12 rfl ?_ ?_
    · refine v_aload_n hB 0 dX11_judge_21 rfl rfl ?_
      refine v_getA hB hK (fl_X11_82 g) (cMA_0_38 g) dX11_judge_22 ?_
      refine v_iload_n hB 1 dX11_judge_25 rfl rfl ?_
      refine v_iald hB hK (aMI_20 g) dX11_judge_26 ?_
      refine v_if_ge (tgt := 33) hB dX11_judge_27 rfl ?_ ?_
      · refine v_iconst hB 0 dX11_judge_33 (by decide) ?_
        refine v_istore_n hB [(0, .ref ((SM g).1.2.1 0)), (1, .int p1), (2, .int p2), (3, .int 0)] [1, 2, 3, 0] dX11_judge_34 rfl (by decide) rfl ?_
        exact V.sub [0, 1, 2, 3] rfl (hn35 h 1000 0)
      · refine v_bipush hB (-11) dX11_judge_30 (by decide) ?_
        exact v_retWi (x := (-11)) hB hK hR dX11_judge_32
    · exact V.sub [0] rfl (hn15 h)

def f_X11_passOne_j20 (s0 : Int32) (h : pq_H) : Option (Int32 × pq_H) :=
  gd (inb (rI h 0 41) 190) (hl (wI h 22 (rI h 0 41).toNatClampNeg s0) fun h30 => some (s0, wI h30 0 41 ((rI h30 0 41) + 1)))
def f_X11_passOne (p1 : Int32) (h : pq_H) : Option (Int32 × pq_H) :=
  if (rI h 0 43) = 0 then (gd (inb (rI h 0 41) 190) (f_X11_passOne_j20 (rI h 22 (rI h 0 41).toNatClampNeg) h)) else (f_X11_passOne_j20 p1 h)
set_option maxRecDepth 100000 in
set_option maxHeartbeats 4000000 in
theorem c_X11_passOne (g : pq_g) {A : Nat → Prop} (hA : pq_A (SM g) A) (l : Launch) (p1 : Int32) (h : pq_H) {rr : Int32} {hh : pq_H} (e : f_X11_passOne p1 h = some (rr, hh)) : pq_M (SM g) A l yX11_passOne cX11_passOne 3 (some .int) 0 0 [.ref ((SM g).1.2.1 0), .int p1] h (some (.int rr)) hh := by
  refine pq_met hA l (own := RX11) 0 0 _ [(0, .ref ((SM g).1.2.1 0)), (1, .int p1)] h _ hh (by decide +kernel) rfl (Nat.le_of_ble_eq_true rfl) rfl (fun X hXl hXA hB hK hR => ?_)
  refine V.cast (F' := f_X11_passOne p1 h) (res' := (rr, hh)) (fun _ => e) ?_
  have hn20 : ∀ (s0 : Int32) (h : pq_H), V X (SM g) (rr, hh) 3 20 [(0, .ref ((SM g).1.2.1 0))] [.int s0] h (f_X11_passOne_j20 s0 h) := by
    intro s0 h
    unfold f_X11_passOne_j20
    refine v_istore_n hB [(0, .ref ((SM g).1.2.1 0)), (2, .int s0)] [1, 0] dX11_passOne_20 rfl (by decide) rfl ?_
    refine v_aload_n hB 0 dX11_passOne_21 rfl rfl ?_
    refine v_getA hB hK (fl_X11_88 g) (cMA_0_40 g) dX11_passOne_22 ?_
    refine v_aload_n hB 0 dX11_passOne_25 rfl rfl ?_
    refine v_getI hB hK (fl_X11_395 g) (cMI_0_41 g) dX11_passOne_26 ?_
    refine v_iload_n hB 1 dX11_passOne_29 rfl rfl ?_
    refine v_iast hB hK (aMI_22 g) dX11_passOne_30 ?_
    refine v_hl (fun h30 => ?_)
    refine v_aload_n hB 0 dX11_passOne_31 rfl rfl ?_
    refine v_dup hB dX11_passOne_32 rfl ?_
    refine v_getI hB hK (fl_X11_395 g) (cMI_0_41 g) dX11_passOne_33 ?_
    refine v_iconst hB 1 dX11_passOne_36 (by decide) ?_
    refine v_iadd hB dX11_passOne_37 ?_
    refine v_putI hB hK (fl_X11_395 g) (fin_X11_41 g) (cMI_0_41 g) dX11_passOne_38 ?_
    refine v_iload_n hB 1 dX11_passOne_41 rfl rfl ?_
    exact v_retWi (x := s0) hB hK hR dX11_passOne_42
  unfold f_X11_passOne
  refine v_aload_n hB 0 dX11_passOne_0 rfl rfl ?_
  refine v_getI hB hK (fl_X11_391 g) (cMI_0_43 g) dX11_passOne_1 ?_
  refine v_if_eq (tgt := 11) hB dX11_passOne_4 rfl ?_ ?_
  · refine v_aload_n hB 0 dX11_passOne_11 rfl rfl ?_
    refine v_getA hB hK (fl_X11_88 g) (cMA_0_40 g) dX11_passOne_12 ?_
    refine v_aload_n hB 0 dX11_passOne_15 rfl rfl ?_
    refine v_getI hB hK (fl_X11_395 g) (cMI_0_41 g) dX11_passOne_16 ?_
    refine v_iald hB hK (aMI_22 g) dX11_passOne_19 ?_
    exact V.sub [0] rfl (hn20 (rI h 22 (rI h 0 41).toNatClampNeg) h)
  · refine v_iload_n hB 1 dX11_passOne_7 rfl rfl ?_
    refine v_goto (tgt := 20) hB dX11_passOne_8 rfl ?_
    exact V.sub [0] rfl (hn20 p1 h)

def f_X11_passesAll_l86 (w86 : Int32 → pq_H → Option pq_H) (v2 : Int32) (h : pq_H) : Option pq_H :=
  if 168 ≤ v2 then (some h) else (gd (inb v2 168) (bd2 (f_X11_passOne (rI h 2 v2.toNatClampNeg) h) fun r105 h105 => gd (inb v2 168) (w86 (v2 + 1) (wI h105 2 v2.toNatClampNeg r105))))
def f_X11_passesAll_j84 (h : pq_H) : Option pq_H :=
  lp (fun _ _ => none) (f_X11_passesAll_l86) 1000 0 h
def f_X11_passesAll_l24 (w24 : Int32 → pq_H → Option pq_H) (v2 : Int32) (h : pq_H) : Option pq_H :=
  if 6 ≤ v2 then (f_X11_passesAll_j84 h) else (gd (inb v2 6) (bd2 (f_X11_passOne (rI h 3 v2.toNatClampNeg) h) fun r42 h42 => gd (inb v2 6) (hl (wI h42 3 v2.toNatClampNeg r42) fun h45 => gd (inb v2 6) (bd2 (f_X11_passOne (rI h45 4 v2.toNatClampNeg) h45) fun r58 h58 => gd (inb v2 6) (hl (wI h58 4 v2.toNatClampNeg r58) fun h61 => gd (inb v2 6) (bd2 (f_X11_passOne (rI h61 5 v2.toNatClampNeg) h61) fun r74 h74 => gd (inb v2 6) (w24 (v2 + 1) (wI h74 5 v2.toNatClampNeg r74))))))))
def f_X11_passesAll (p1 : Bool) (h : pq_H) : Option pq_H :=
  hl (wI h 0 43 (b2i p1)) fun h2 => hl (wI h2 0 41 0) fun h7 => bd2 (f_X11_passOne (rI h7 0 5) h7) fun r16 h16 => hl (wI h16 0 5 r16) fun h19 => lp (fun _ _ => none) (f_X11_passesAll_l24) 1000 0 h19
set_option maxRecDepth 100000 in
set_option maxHeartbeats 4000000 in
theorem c_X11_passesAll (g : pq_g) {A : Nat → Prop} (hA : pq_A (SM g) A) (l : Launch) (p1 : Bool) (h : pq_H) {hh : pq_H} (e : f_X11_passesAll p1 h = some hh) : pq_M (SM g) A l yX11_passesAll cX11_passesAll 3 none 1 22 [.ref ((SM g).1.2.1 0), .int (b2i p1)] h none hh := by
  refine pq_met hA l (own := RX11) 1 22 _ [(0, .ref ((SM g).1.2.1 0)), (1, .int (b2i p1))] h _ hh (by decide +kernel) rfl (Nat.le_of_ble_eq_true rfl) rfl (fun X hXl hXA hB hK hR => ?_)
  refine V.cast (F' := f_X11_passesAll p1 h) (res' := hh) (fun _ => e) ?_
  have hn86 : ∀ (n : Nat), ∀ (v2 : Int32) (h : pq_H), V X (SM g) hh 3 86 [(0, .ref ((SM g).1.2.1 0)), (2, .int v2)] [] h (lp (fun _ _ => none) (f_X11_passesAll_l86) n v2 h) := by
    refine lp_ind (fun (w86 : Int32 → pq_H → Option pq_H) => ∀ (v2 : Int32) (h : pq_H), V X (SM g) hh 3 86 [(0, .ref ((SM g).1.2.1 0)), (2, .int v2)] [] h (w86 v2 h)) (fun _ _ => V.none _ _ _ _) (fun w86 ih86 => ?_)
    intro v2 h
    unfold f_X11_passesAll_l86
    refine v_iload_n hB 1 dX11_passesAll_86 rfl rfl ?_
    refine v_sipush hB 168 dX11_passesAll_87 (by decide) ?_
    refine v_icmp_ge (tgt := 115) hB dX11_passesAll_90 rfl ?_ ?_
    · exact v_retWv hB hK hR dX11_passesAll_115
    · refine v_aload_n hB 0 dX11_passesAll_93 rfl rfl ?_
      refine v_getA hB hK (fl_X11_27 g) (cMA_0_1 g) dX11_passesAll_94 ?_
      refine v_iload_n hB 1 dX11_passesAll_97 rfl rfl ?_
      refine v_aload_n hB 0 dX11_passesAll_98 rfl rfl ?_
      refine v_aload_n hB 0 dX11_passesAll_99 rfl rfl ?_
      refine v_getA hB hK (fl_X11_27 g) (cMA_0_1 g) dX11_passesAll_100 ?_
      refine v_iload_n hB 1 dX11_passesAll_103 rfl rfl ?_
      refine v_iald hB hK (aMI_2 g) dX11_passesAll_104 ?_
      refine v_bWi (fun r105 h105 e105 => v_callV hB hK hR.rm [.int (rI h 2 v2.toNatClampNeg)] [.int v2, .ref ((SM g).1.2.1 2)] (oM_0 g) lb_X11_passOne lv_X11_398 (c_X11_passOne g hK.A X.1.2.1 (rI h 2 v2.toNatClampNeg) h e105) dX11_passesAll_105 rfl rfl (Nat.le_of_ble_eq_true rfl) (by decide) (by decide)) (fun r105 h105 => ?_)
      refine v_iast hB hK (aMI_2 g) dX11_passesAll_108 ?_
      refine v_iinc hB (v2 + 1) [(0, .ref ((SM g).1.2.1 0)), (2, .int (v2 + 1))] 1 [1, 0] dX11_passesAll_109 rfl rfl (by decide) rfl ?_
      refine v_goto (tgt := 86) hB dX11_passesAll_112 rfl ?_
      exact V.sub [0, 1] rfl (ih86 (v2 + 1) (wI h105 2 v2.toNatClampNeg r105))
  have hn84 : ∀ (h : pq_H), V X (SM g) hh 3 84 [(0, .ref ((SM g).1.2.1 0))] [] h (f_X11_passesAll_j84 h) := by
    intro h
    unfold f_X11_passesAll_j84
    refine v_iconst hB 0 dX11_passesAll_84 (by decide) ?_
    refine v_istore_n hB [(0, .ref ((SM g).1.2.1 0)), (2, .int 0)] [1, 0] dX11_passesAll_85 rfl (by decide) rfl ?_
    exact V.sub [0, 1] rfl (hn86 1000 0 h)
  have hn24 : ∀ (n : Nat), ∀ (v2 : Int32) (h : pq_H), V X (SM g) hh 3 24 [(0, .ref ((SM g).1.2.1 0)), (2, .int v2)] [] h (lp (fun _ _ => none) (f_X11_passesAll_l24) n v2 h) := by
    refine lp_ind (fun (w24 : Int32 → pq_H → Option pq_H) => ∀ (v2 : Int32) (h : pq_H), V X (SM g) hh 3 24 [(0, .ref ((SM g).1.2.1 0)), (2, .int v2)] [] h (w24 v2 h)) (fun _ _ => V.none _ _ _ _) (fun w24 ih24 => ?_)
    intro v2 h
    unfold f_X11_passesAll_l24
    refine v_iload_n hB 1 dX11_passesAll_24 rfl rfl ?_
    refine v_bipush hB 6 dX11_passesAll_25 (by decide) ?_
    refine v_icmp_ge (tgt := 84) hB dX11_passesAll_27 rfl ?_ ?_
    · exact V.sub [0] rfl (hn84 h)
    · refine v_aload_n hB 0 dX11_passesAll_30 rfl rfl ?_
      refine v_getA hB hK (fl_X11_30 g) (cMA_0_2 g) dX11_passesAll_31 ?_
      refine v_iload_n hB 1 dX11_passesAll_34 rfl rfl ?_
      refine v_aload_n hB 0 dX11_passesAll_35 rfl rfl ?_
      refine v_aload_n hB 0 dX11_passesAll_36 rfl rfl ?_
      refine v_getA hB hK (fl_X11_30 g) (cMA_0_2 g) dX11_passesAll_37 ?_
      refine v_iload_n hB 1 dX11_passesAll_40 rfl rfl ?_
      refine v_iald hB hK (aMI_3 g) dX11_passesAll_41 ?_
      refine v_bWi (fun r42 h42 e42 => v_callV hB hK hR.rm [.int (rI h 3 v2.toNatClampNeg)] [.int v2, .ref ((SM g).1.2.1 3)] (oM_0 g) lb_X11_passOne lv_X11_398 (c_X11_passOne g hK.A X.1.2.1 (rI h 3 v2.toNatClampNeg) h e42) dX11_passesAll_42 rfl rfl (Nat.le_of_ble_eq_true rfl) (by decide) (by decide)) (fun r42 h42 => ?_)
      refine v_iast hB hK (aMI_3 g) dX11_passesAll_45 ?_
      refine v_hl (fun h45 => ?_)
      refine v_aload_n hB 0 dX11_passesAll_46 rfl rfl ?_
      refine v_getA hB hK (fl_X11_33 g) (cMA_0_3 g) dX11_passesAll_47 ?_
      refine v_iload_n hB 1 dX11_passesAll_50 rfl rfl ?_
      refine v_aload_n hB 0 dX11_passesAll_51 rfl rfl ?_
      refine v_aload_n hB 0 dX11_passesAll_52 rfl rfl ?_
      refine v_getA hB hK (fl_X11_33 g) (cMA_0_3 g) dX11_passesAll_53 ?_
      refine v_iload_n hB 1 dX11_passesAll_56 rfl rfl ?_
      refine v_iald hB hK (aMI_4 g) dX11_passesAll_57 ?_
      refine v_bWi (fun r58 h58 e58 => v_callV hB hK hR.rm [.int (rI h45 4 v2.toNatClampNeg)] [.int v2, .ref ((SM g).1.2.1 4)] (oM_0 g) lb_X11_passOne lv_X11_398 (c_X11_passOne g hK.A X.1.2.1 (rI h45 4 v2.toNatClampNeg) h45 e58) dX11_passesAll_58 rfl rfl (Nat.le_of_ble_eq_true rfl) (by decide) (by decide)) (fun r58 h58 => ?_)
      refine v_iast hB hK (aMI_4 g) dX11_passesAll_61 ?_
      refine v_hl (fun h61 => ?_)
      refine v_aload_n hB 0 dX11_passesAll_62 rfl rfl ?_
      refine v_getA hB hK (fl_X11_36 g) (cMA_0_4 g) dX11_passesAll_63 ?_
      refine v_iload_n hB 1 dX11_passesAll_66 rfl rfl ?_
      refine v_aload_n hB 0 dX11_passesAll_67 rfl rfl ?_
      refine v_aload_n hB 0 dX11_passesAll_68 rfl rfl ?_
      refine v_getA hB hK (fl_X11_36 g) (cMA_0_4 g) dX11_passesAll_69 ?_
      refine v_iload_n hB 1 dX11_passesAll_72 rfl rfl ?_
      refine v_iald hB hK (aMI_5 g) dX11_passesAll_73 ?_
      refine v_bWi (fun r74 h74 e74 => v_callV hB hK hR.rm [.int (rI h61 5 v2.toNatClampNeg)] [.int v2, .ref ((SM g).1.2.1 5)] (oM_0 g) lb_X11_passOne lv_X11_398 (c_X11_passOne g hK.A X.1.2.1 (rI h61 5 v2.toNatClampNeg) h61 e74) dX11_passesAll_74 rfl rfl (Nat.le_of_ble_eq_true rfl) (by decide) (by decide)) (fun r74 h74 => ?_)
      refine v_iast hB hK (aMI_5 g) dX11_passesAll_77 ?_
      refine v_iinc hB (v2 + 1) [(0, .ref ((SM g).1.2.1 0)), (2, .int (v2 + 1))] 1 [1, 0] dX11_passesAll_78 rfl rfl (by decide) rfl ?_
      refine v_goto (tgt := 24) hB dX11_passesAll_81 rfl ?_
      exact V.sub [0, 1] rfl (ih24 (v2 + 1) (wI h74 5 v2.toNatClampNeg r74))
  unfold f_X11_passesAll
  refine v_aload_n hB 0 dX11_passesAll_0 rfl rfl ?_
  refine v_iload_n hB 1 dX11_passesAll_1 rfl rfl ?_
  refine v_putZ (v := p1) hB hK (fl_X11_391 g) (fin_X11_43 g) (cMI_0_43 g) dX11_passesAll_2 ?_
  refine v_hl (fun h2 => ?_)
  refine v_aload_n hB 0 dX11_passesAll_5 rfl rfl ?_
  refine v_iconst hB 0 dX11_passesAll_6 (by decide) ?_
  refine v_putI hB hK (fl_X11_395 g) (fin_X11_41 g) (cMI_0_41 g) dX11_passesAll_7 ?_
  refine v_hl (fun h7 => ?_)
  refine v_aload_n hB 0 dX11_passesAll_10 rfl rfl ?_
  refine v_aload_n hB 0 dX11_passesAll_11 rfl rfl ?_
  refine v_aload_n hB 0 dX11_passesAll_12 rfl rfl ?_
  refine v_getI hB hK (fl_X11_95 g) (cMI_0_5 g) dX11_passesAll_13 ?_
  refine v_bWi (fun r16 h16 e16 => v_callV hB hK hR.rm [.int (rI h7 0 5)] [.ref ((SM g).1.2.1 0)] (oM_0 g) lb_X11_passOne lv_X11_398 (c_X11_passOne g hK.A X.1.2.1 (rI h7 0 5) h7 e16) dX11_passesAll_16 rfl rfl (Nat.le_of_ble_eq_true rfl) (by decide) (by decide)) (fun r16 h16 => ?_)
  refine v_putI hB hK (fl_X11_95 g) (fin_X11_5 g) (cMI_0_5 g) dX11_passesAll_19 ?_
  refine v_hl (fun h19 => ?_)
  refine v_iconst hB 0 dX11_passesAll_22 (by decide) ?_
  refine v_istore_n hB [(0, .ref ((SM g).1.2.1 0)), (1, .int (b2i p1)), (2, .int 0)] [1, 2, 0] dX11_passesAll_23 rfl (by decide) rfl ?_
  exact V.sub [0, 2] rfl (hn24 1000 0 h19)

def f_X11_image (h : pq_H) : Option (Int32 × pq_H) :=
  (f_X11_passesAll true h).bind fun h2 => hl (wI h2 0 42 (rI h2 0 5)) fun h10 => some (rI h10 0 5, h10)
set_option maxRecDepth 100000 in
set_option maxHeartbeats 4000000 in
theorem c_X11_image (g : pq_g) {A : Nat → Prop} (hA : pq_A (SM g) A) (l : Launch) (h : pq_H) {rr : Int32} {hh : pq_H} (e : f_X11_image h = some (rr, hh)) : pq_M (SM g) A l yX11_image cX11_image 1 (some .int) 2 44 [.ref ((SM g).1.2.1 0)] h (some (.int rr)) hh := by
  refine pq_met hA l (own := RX11) 2 44 _ [(0, .ref ((SM g).1.2.1 0))] h _ hh (by decide +kernel) rfl (Nat.le_of_ble_eq_true rfl) rfl (fun X hXl hXA hB hK hR => ?_)
  refine V.cast (F' := f_X11_image h) (res' := (rr, hh)) (fun _ => e) ?_
  unfold f_X11_image
  refine v_aload_n hB 0 dX11_image_0 rfl rfl ?_
  refine v_iconst hB 1 dX11_image_1 (by decide) ?_
  refine v_bV (fun h2 e2 => v_callV hB hK hR.rm [.int (b2i true)] [] (oM_0 g) lb_X11_passesAll lv_X11_401 (c_X11_passesAll g hK.A X.1.2.1 true h e2) dX11_image_2 rfl rfl (Nat.le_of_ble_eq_true rfl) (by decide) (by decide)) (fun h2 => ?_)
  refine v_aload_n hB 0 dX11_image_5 rfl rfl ?_
  refine v_aload_n hB 0 dX11_image_6 rfl rfl ?_
  refine v_getI hB hK (fl_X11_95 g) (cMI_0_5 g) dX11_image_7 ?_
  refine v_putI hB hK (fl_X11_91 g) (fin_X11_42 g) (cMI_0_42 g) dX11_image_10 ?_
  refine v_hl (fun h10 => ?_)
  refine v_aload_n hB 0 dX11_image_13 rfl rfl ?_
  refine v_getI hB hK (fl_X11_95 g) (cMI_0_5 g) dX11_image_14 ?_
  exact v_retWi (x := rI h10 0 5) hB hK hR dX11_image_17

def f_X11_back (h : pq_H) : Option (Int32 × pq_H) :=
  if 0 ≤ (rI h 0 42) then ((f_X11_passesAll false h).bind fun h16 => hl (wI h16 0 8 0) fun h21 => some (rI h21 0 5, h21)) else (bd2 (f_X11_no (-3) h) fun r10 h10 => some (r10, h10))
set_option maxRecDepth 100000 in
set_option maxHeartbeats 4000000 in
theorem c_X11_back (g : pq_g) {A : Nat → Prop} (hA : pq_A (SM g) A) (l : Launch) (h : pq_H) {rr : Int32} {hh : pq_H} (e : f_X11_back h = some (rr, hh)) : pq_M (SM g) A l yX11_back cX11_back 1 (some .int) 2 44 [.ref ((SM g).1.2.1 0)] h (some (.int rr)) hh := by
  refine pq_met hA l (own := RX11) 2 44 _ [(0, .ref ((SM g).1.2.1 0))] h _ hh (by decide +kernel) rfl (Nat.le_of_ble_eq_true rfl) rfl (fun X hXl hXA hB hK hR => ?_)
  refine V.cast (F' := f_X11_back h) (res' := (rr, hh)) (fun _ => e) ?_
  unfold f_X11_back
  refine v_aload_n hB 0 dX11_back_0 rfl rfl ?_
  refine v_getI hB hK (fl_X11_91 g) (cMI_0_42 g) dX11_back_1 ?_
  refine v_if_ge (tgt := 14) hB dX11_back_4 rfl ?_ ?_
  · refine v_aload_n hB 0 dX11_back_14 rfl rfl ?_
    refine v_iconst hB 0 dX11_back_15 (by decide) ?_
    refine v_bV (fun h16 e16 => v_callV hB hK hR.rm [.int (b2i false)] [] (oM_0 g) lb_X11_passesAll lv_X11_401 (c_X11_passesAll g hK.A X.1.2.1 false h e16) dX11_back_16 rfl rfl (Nat.le_of_ble_eq_true rfl) (by decide) (by decide)) (fun h16 => ?_)
    refine v_aload_n hB 0 dX11_back_19 rfl rfl ?_
    refine v_iconst hB 0 dX11_back_20 (by decide) ?_
    refine v_putI hB hK (fl_X11_119 g) (fin_X11_8 g) (cMI_0_8 g) dX11_back_21 ?_
    refine v_hl (fun h21 => ?_)
    refine v_aload_n hB 0 dX11_back_24 rfl rfl ?_
    refine v_getI hB hK (fl_X11_95 g) (cMI_0_5 g) dX11_back_25 ?_
    exact v_retWi (x := rI h21 0 5) hB hK hR dX11_back_28
  · refine v_aload_n hB 0 dX11_back_7 rfl rfl ?_
    refine v_bipush hB (-3) dX11_back_8 (by decide) ?_
    refine v_bWi (fun r10 h10 e10 => v_callV hB hK hR.rm [.int (-3)] [] (oM_0 g) lb_X11_no lv_X11_8 (c_X11_no g hK.A X.1.2.1 (-3) h e10) dX11_back_10 rfl rfl (Nat.le_of_ble_eq_true rfl) (by decide) (by decide)) (fun r10 h10 => ?_)
    exact v_retWi (x := r10) hB hK hR dX11_back_13

def f_X11_clearOnes_j29 (w4 : Int32 → Int32 → Option Int32) (v2 : Int32) (s0 : Int32) (s1 : Int32) : Option Int32 :=
  w4 (s0 ||| s1) (v2 + 1)
def f_X11_clearOnes_l4 (h : pq_H) (w4 : Int32 → Int32 → Option Int32) (v1 : Int32) (v2 : Int32) : Option Int32 :=
  if (rI h 0 5) ≤ v2 then (some v1) else ((f_X11_many v2 0 h).bind fun r16 => if r16 = 0 then (f_X11_clearOnes_j29 w4 v2 v1 (1 <<< (v2 &&& 31))) else (f_X11_clearOnes_j29 w4 v2 v1 0))
def f_X11_clearOnes (h : pq_H) : Option Int32 :=
  lp (fun _ _ => none) (f_X11_clearOnes_l4 h) 1000 0 0
set_option maxRecDepth 100000 in
set_option maxHeartbeats 4000000 in
theorem c_X11_clearOnes (g : pq_g) {A : Nat → Prop} (hA : pq_A (SM g) A) (l : Launch) (h : pq_H) {rr : Int32} (e : f_X11_clearOnes h = some rr) : pq_M (SM g) A l yX11_clearOnes cX11_clearOnes 3 (some .int) 4 95 [.ref ((SM g).1.2.1 0)] h (some (.int rr)) h := by
  refine pq_met hA l (own := RX11) 4 95 _ [(0, .ref ((SM g).1.2.1 0))] h _ h (by decide +kernel) rfl (Nat.le_of_ble_eq_true rfl) rfl (fun X hXl hXA hB hK hR => ?_)
  refine V.cast (F' := f_X11_clearOnes h) (res' := rr) (fun _ => e) ?_
  have hn4 : ∀ (n : Nat), ∀ (v1 : Int32) (v2 : Int32), V X (SM g) rr 3 4 [(0, .ref ((SM g).1.2.1 0)), (1, .int v1), (2, .int v2)] [] h (lp (fun _ _ => none) (f_X11_clearOnes_l4 h) n v1 v2) := by
    refine lp_ind (fun (w4 : Int32 → Int32 → Option Int32) => ∀ (v1 : Int32) (v2 : Int32), V X (SM g) rr 3 4 [(0, .ref ((SM g).1.2.1 0)), (1, .int v1), (2, .int v2)] [] h (w4 v1 v2)) (fun _ _ => V.none _ _ _ _) (fun w4 ih4 => ?_)
    have hn29 : ∀ (v2 : Int32) (s0 : Int32) (s1 : Int32), V X (SM g) rr 3 29 [(0, .ref ((SM g).1.2.1 0)), (2, .int v2)] [.int s1, .int s0] h (f_X11_clearOnes_j29 w4 v2 s0 s1) := by
      intro v2 s0 s1
      unfold f_X11_clearOnes_j29
      refine v_ior hB dX11_clearOnes_29 ?_
      refine v_istore_n hB [(0, .ref ((SM g).1.2.1 0)), (1, .int (s0 ||| s1)), (2, .int v2)] [1, 0, 2] dX11_clearOnes_30 rfl (by decide) rfl ?_
      refine v_iinc hB (v2 + 1) [(0, .ref ((SM g).1.2.1 0)), (1, .int (s0 ||| s1)), (2, .int (v2 + 1))] 2 [1, 2, 0] dX11_clearOnes_31 rfl rfl (by decide) rfl ?_
      refine v_goto (tgt := 4) hB dX11_clearOnes_34 rfl ?_
      exact V.sub [0, 1, 2] rfl (ih4 (s0 ||| s1) (v2 + 1))
    intro v1 v2
    unfold f_X11_clearOnes_l4
    refine v_iload_n hB 2 dX11_clearOnes_4 rfl rfl ?_
    refine v_aload_n hB 0 dX11_clearOnes_5 rfl rfl ?_
    refine v_getI hB hK (fl_X11_95 g) (cMI_0_5 g) dX11_clearOnes_6 ?_
    refine v_icmp_ge (tgt := 37) hB dX11_clearOnes_9 rfl ?_ ?_
    · refine v_iload_n hB 1 dX11_clearOnes_37 rfl rfl ?_
      exact v_retRi (x := v1) hB hK hR dX11_clearOnes_38
    · refine v_iload_n hB 1 dX11_clearOnes_12 rfl rfl ?_
      refine v_aload_n hB 0 dX11_clearOnes_13 rfl rfl ?_
      refine v_iload_n hB 2 dX11_clearOnes_14 rfl rfl ?_
      refine v_iconst hB 0 dX11_clearOnes_15 (by decide) ?_
      refine v_bRi (fun r16 e16 => v_callV hB hK hR.rm [.int v2, .int 0] [.int v1] (oM_0 g) lb_X11_many lv_X11_224 (c_X11_many g hK.A X.1.2.1 v2 0 h e16) dX11_clearOnes_16 rfl rfl (Nat.le_of_ble_eq_true rfl) (by decide) (by decide)) (fun r16 => ?_)
      refine v_if_ne (tgt := 28) hB dX11_clearOnes_19 rfl ?_ ?_
      · refine v_iconst hB 0 dX11_clearOnes_28 (by decide) ?_
        exact V.sub [0, 2] rfl (hn29 v2 v1 0)
      · refine v_iconst hB 1 dX11_clearOnes_22 (by decide) ?_
        refine v_iload_n hB 2 dX11_clearOnes_23 rfl rfl ?_
        refine v_ishl hB dX11_clearOnes_24 ?_
        refine v_goto (tgt := 29) hB dX11_clearOnes_25 rfl ?_
        exact V.sub [0, 2] rfl (hn29 v2 v1 (1 <<< (v2 &&& 31)))
  unfold f_X11_clearOnes
  refine v_iconst hB 0 dX11_clearOnes_0 (by decide) ?_
  refine v_istore_n hB [(0, .ref ((SM g).1.2.1 0)), (1, .int 0)] [1, 0] dX11_clearOnes_1 rfl (by decide) rfl ?_
  refine v_iconst hB 0 dX11_clearOnes_2 (by decide) ?_
  refine v_istore_n hB [(0, .ref ((SM g).1.2.1 0)), (1, .int 0), (2, .int 0)] [1, 2, 0] dX11_clearOnes_3 rfl (by decide) rfl ?_
  exact V.sub [0, 1, 2] rfl (hn4 1000 0 0)

def f_X11_allTerms_l4 (h : pq_H) (w4 : Int32 → Int32 → Option Int32) (v1 : Int32) (v2 : Int32) : Option Int32 :=
  if (rI h 0 5) ≤ v2 then (some v1) else (gd (inb v2 6) (w4 (v1 + (f_X11_termsOf (rI h 5 v2.toNatClampNeg))) (v2 + 1)))
def f_X11_allTerms (h : pq_H) : Option Int32 :=
  lp (fun _ _ => none) (f_X11_allTerms_l4 h) 1000 0 0
set_option maxRecDepth 100000 in
set_option maxHeartbeats 4000000 in
theorem c_X11_allTerms (g : pq_g) {A : Nat → Prop} (hA : pq_A (SM g) A) (l : Launch) (h : pq_H) {rr : Int32} (e : f_X11_allTerms h = some rr) : pq_M (SM g) A l yX11_allTerms cX11_allTerms 3 (some .int) 1 20 [.ref ((SM g).1.2.1 0)] h (some (.int rr)) h := by
  refine pq_met hA l (own := RX11) 1 20 _ [(0, .ref ((SM g).1.2.1 0))] h _ h (by decide +kernel) rfl (Nat.le_of_ble_eq_true rfl) rfl (fun X hXl hXA hB hK hR => ?_)
  refine V.cast (F' := f_X11_allTerms h) (res' := rr) (fun _ => e) ?_
  have hn4 : ∀ (n : Nat), ∀ (v1 : Int32) (v2 : Int32), V X (SM g) rr 3 4 [(0, .ref ((SM g).1.2.1 0)), (1, .int v1), (2, .int v2)] [] h (lp (fun _ _ => none) (f_X11_allTerms_l4 h) n v1 v2) := by
    refine lp_ind (fun (w4 : Int32 → Int32 → Option Int32) => ∀ (v1 : Int32) (v2 : Int32), V X (SM g) rr 3 4 [(0, .ref ((SM g).1.2.1 0)), (1, .int v1), (2, .int v2)] [] h (w4 v1 v2)) (fun _ _ => V.none _ _ _ _) (fun w4 ih4 => ?_)
    intro v1 v2
    unfold f_X11_allTerms_l4
    refine v_iload_n hB 2 dX11_allTerms_4 rfl rfl ?_
    refine v_aload_n hB 0 dX11_allTerms_5 rfl rfl ?_
    refine v_getI hB hK (fl_X11_95 g) (cMI_0_5 g) dX11_allTerms_6 ?_
    refine v_icmp_ge (tgt := 30) hB dX11_allTerms_9 rfl ?_ ?_
    · refine v_iload_n hB 1 dX11_allTerms_30 rfl rfl ?_
      exact v_retRi (x := v1) hB hK hR dX11_allTerms_31
    · refine v_iload_n hB 1 dX11_allTerms_12 rfl rfl ?_
      refine v_aload_n hB 0 dX11_allTerms_13 rfl rfl ?_
      refine v_getA hB hK (fl_X11_36 g) (cMA_0_4 g) dX11_allTerms_14 ?_
      refine v_iload_n hB 2 dX11_allTerms_17 rfl rfl ?_
      refine v_iald hB hK (aMI_5 g) dX11_allTerms_18 ?_
      refine v_bT (v_callS hB hK hR.rm [.int (rI h 5 v2.toNatClampNeg)] [.int v1] lb_X11_termsOf lv_X11_102 (c_X11_termsOf g hK.A X.1.2.1 (rI h 5 v2.toNatClampNeg) h) dX11_allTerms_19 rfl rfl (Nat.le_of_ble_eq_true rfl) (by decide) (by decide)) ?_
      refine v_iadd hB dX11_allTerms_22 ?_
      refine v_istore_n hB [(0, .ref ((SM g).1.2.1 0)), (1, .int (v1 + (f_X11_termsOf (rI h 5 v2.toNatClampNeg)))), (2, .int v2)] [1, 0, 2] dX11_allTerms_23 rfl (by decide) rfl ?_
      refine v_iinc hB (v2 + 1) [(0, .ref ((SM g).1.2.1 0)), (1, .int (v1 + (f_X11_termsOf (rI h 5 v2.toNatClampNeg)))), (2, .int (v2 + 1))] 2 [1, 2, 0] dX11_allTerms_24 rfl rfl (by decide) rfl ?_
      refine v_goto (tgt := 4) hB dX11_allTerms_27 rfl ?_
      exact V.sub [0, 1, 2] rfl (ih4 (v1 + (f_X11_termsOf (rI h 5 v2.toNatClampNeg))) (v2 + 1))
  unfold f_X11_allTerms
  refine v_iconst hB 0 dX11_allTerms_0 (by decide) ?_
  refine v_istore_n hB [(0, .ref ((SM g).1.2.1 0)), (1, .int 0)] [1, 0] dX11_allTerms_1 rfl (by decide) rfl ?_
  refine v_iconst hB 0 dX11_allTerms_2 (by decide) ?_
  refine v_istore_n hB [(0, .ref ((SM g).1.2.1 0)), (1, .int 0), (2, .int 0)] [1, 2, 0] dX11_allTerms_3 rfl (by decide) rfl ?_
  exact V.sub [0, 1, 2] rfl (hn4 1000 0 0)

def f_X11_count (p1 : Int32) (h : pq_H) : Option Int32 :=
  if (f_X11_isIn p1 11 16) = true then (gd (inb (p1 - 10) 7) (some (rI h 1 (p1 - 10).toNatClampNeg))) else (if p1 = 0 then (some (rI h 0 5)) else (if p1 = 1 then (some (rI h 0 11)) else (if p1 = 2 then ((f_X11_allTerms h).bind fun r67 => some r67) else (if p1 = 3 then (some (rI h 0 8)) else (if p1 = 4 then ((f_X11_clearOnes h).bind fun r77 => some r77) else (some (-9)))))))
set_option maxRecDepth 100000 in
set_option maxHeartbeats 4000000 in
theorem c_X11_count (g : pq_g) {A : Nat → Prop} (hA : pq_A (SM g) A) (l : Launch) (p1 : Int32) (h : pq_H) {rr : Int32} (e : f_X11_count p1 h = some rr) : pq_M (SM g) A l yX11_count cX11_count 2 (some .int) 5 117 [.ref ((SM g).1.2.1 0), .int p1] h (some (.int rr)) h := by
  refine pq_met hA l (own := RX11) 5 117 _ [(0, .ref ((SM g).1.2.1 0)), (1, .int p1)] h _ h (by decide +kernel) rfl (Nat.le_of_ble_eq_true rfl) rfl (fun X hXl hXA hB hK hR => ?_)
  refine V.cast (F' := f_X11_count p1 h) (res' := rr) (fun _ => e) ?_
  unfold f_X11_count
  refine v_iload_n hB 1 dX11_count_0 rfl rfl ?_
  refine v_bipush hB 11 dX11_count_1 (by decide) ?_
  refine v_bipush hB 16 dX11_count_3 (by decide) ?_
  refine v_bT (v_callS hB hK hR.rm [.int p1, .int 11, .int 16] [] lb_X11_isIn lv_X11_98 (c_X11_isIn g hK.A X.1.2.1 p1 11 16 h) dX11_count_5 rfl rfl (Nat.le_of_ble_eq_true rfl) (by decide) (by decide)) ?_
  refine v_ifz_eq (r := f_X11_isIn p1 11 16) (tgt := 21) hB dX11_count_8 rfl ?_ ?_
  · refine v_iload_n hB 1 dX11_count_21 rfl rfl ?_
    refine v_tcase (tgt := 56) hB 0 dX11_count_22 (by decide) (by decide) rfl rfl ?_ (fun n22_0 => ?_)
    · refine v_aload_n hB 0 dX11_count_56 rfl rfl ?_
      refine v_getI hB hK (fl_X11_95 g) (cMI_0_5 g) dX11_count_57 ?_
      exact v_retRi (x := rI h 0 5) hB hK hR dX11_count_60
    · refine v_tcase (tgt := 61) hB 1 dX11_count_22 (by decide) (by decide) rfl rfl ?_ (fun n22_1 => ?_)
      · refine v_aload_n hB 0 dX11_count_61 rfl rfl ?_
        refine v_getI hB hK (fl_X11_169 g) (cMI_0_11 g) dX11_count_62 ?_
        exact v_retRi (x := rI h 0 11) hB hK hR dX11_count_65
      · refine v_tcase (tgt := 66) hB 2 dX11_count_22 (by decide) (by decide) rfl rfl ?_ (fun n22_2 => ?_)
        · refine v_aload_n hB 0 dX11_count_66 rfl rfl ?_
          refine v_bRi (fun r67 e67 => v_callV hB hK hR.rm [] [] (oM_0 g) lb_X11_allTerms lv_X11_405 (c_X11_allTerms g hK.A X.1.2.1 h e67) dX11_count_67 rfl rfl (Nat.le_of_ble_eq_true rfl) (by decide) (by decide)) (fun r67 => ?_)
          exact v_retRi (x := r67) hB hK hR dX11_count_70
        · refine v_tcase (tgt := 71) hB 3 dX11_count_22 (by decide) (by decide) rfl rfl ?_ (fun n22_3 => ?_)
          · refine v_aload_n hB 0 dX11_count_71 rfl rfl ?_
            refine v_getI hB hK (fl_X11_119 g) (cMI_0_8 g) dX11_count_72 ?_
            exact v_retRi (x := rI h 0 8) hB hK hR dX11_count_75
          · refine v_tcase (tgt := 76) hB 4 dX11_count_22 (by decide) (by decide) rfl rfl ?_ (fun n22_4 => ?_)
            · refine v_aload_n hB 0 dX11_count_76 rfl rfl ?_
              refine v_bRi (fun r77 e77 => v_callV hB hK hR.rm [] [] (oM_0 g) lb_X11_clearOnes lv_X11_408 (c_X11_clearOnes g hK.A X.1.2.1 h e77) dX11_count_77 rfl rfl (Nat.le_of_ble_eq_true rfl) (by decide) (by decide)) (fun r77 => ?_)
              exact v_retRi (x := r77) hB hK hR dX11_count_80
            · refine v_tdef (tgt := 81) hB dX11_count_22 (by have z0 := lv_neT n22_0 (a := 0) (by decide); have z1 := lv_neT n22_1 (a := 1) (by decide); have z2 := lv_neT n22_2 (a := 2) (by decide); have z3 := lv_neT n22_3 (a := 3) (by decide); have z4 := lv_neT n22_4 (a := 4) (by decide); omega) rfl ?_
              refine v_bipush hB (-9) dX11_count_81 (by decide) ?_
              exact v_retRi (x := (-9)) hB hK hR dX11_count_83
  · refine v_aload_n hB 0 dX11_count_11 rfl rfl ?_
    refine v_getA hB hK (fl_X11_1 g) (cMA_0_0 g) dX11_count_12 ?_
    refine v_iload_n hB 1 dX11_count_15 rfl rfl ?_
    refine v_bipush hB 10 dX11_count_16 (by decide) ?_
    refine v_isub hB dX11_count_18 ?_
    refine v_iald hB hK (aMI_1 g) dX11_count_19 ?_
    exact v_retRi (x := rI h 1 (p1 - 10).toNatClampNeg) hB hK hR dX11_count_20

