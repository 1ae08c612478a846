def f_X11_readsAct_j40 (v1 : Int32) (v2 : Int32) (v3 : Int32) (s0 : Int32) (h : pq_H) : Option (Bool × pq_H) :=
  if 0 ≤ s0 then (gd (inb (rI h 0 18) 16) (hl (wI h 11 (rI h 0 18).toNatClampNeg v2) fun h58 => gd (inb (rI h58 0 18) 16) (hl (wI h58 12 (rI h58 0 18).toNatClampNeg v1) fun h68 => gd (inb (rI h68 0 18) 16) (hl (wI h68 13 (rI h68 0 18).toNatClampNeg v3) fun h78 => gd (inb (rI h78 0 18) 16) (hl (wI h78 14 (rI h78 0 18).toNatClampNeg s0) fun h89 => some (true, wI h89 0 18 ((rI h89 0 18) + 1))))))) else (some (false, h))
def f_X11_readsAct (h : pq_H) : Option (Bool × pq_H) :=
  bd2 (f_X11_readsWord h) fun r6 h6 => if 0 ≤ r6 then (bd2 (f_X11_readsNumber h6) fun r17 h17 => if 0 ≤ r17 then (if r6 = 3 then (f_X11_readsAct_j40 (rI h 0 12) r6 r17 0 h17) else (bd2 (f_X11_readsNumber h17) fun r37 h37 => f_X11_readsAct_j40 (rI h 0 12) r6 r17 r37 h37)) else (some (false, h17))) else (some (false, h6))
set_option maxRecDepth 100000 in
set_option maxHeartbeats 4000000 in
theorem c_X11_readsAct (g : pq_g) {A : Nat → Prop} (hA : pq_A (SM g) A) (l : Launch) (h : pq_H) {rr : Bool} {hh : pq_H} (e : f_X11_readsAct h = some (rr, hh)) : pq_M (SM g) A l yX11_readsAct cX11_readsAct 5 (some .boolean) 3 62 [.ref ((SM g).1.2.1 0)] h (some (.int (b2i rr))) hh := by
  refine pq_met hA l (own := RX11) 3 62 _ [(0, .ref ((SM g).1.2.1 0))] h _ hh (by decide +kernel) rfl (Nat.le_of_ble_eq_true rfl) rfl (fun X hXl hXA hB hK hR => ?_)
  refine V.cast (F' := f_X11_readsAct h) (res' := (rr, hh)) (fun _ => e) ?_
  have hn40 : ∀ (v1 : Int32) (v2 : Int32) (v3 : Int32) (s0 : Int32) (h : pq_H), V X (SM g) (rr, hh) 5 40 [(0, .ref ((SM g).1.2.1 0)), (1, .int v1), (2, .int v2), (3, .int v3)] [.int s0] h (f_X11_readsAct_j40 v1 v2 v3 s0 h) := by
    intro v1 v2 v3 s0 h
    unfold f_X11_readsAct_j40
    refine v_istore hB [(0, .ref ((SM g).1.2.1 0)), (1, .int v1), (2, .int v2), (3, .int v3), (4, .int s0)] [1, 2, 3, 4, 0] dX11_readsAct_40 (by decide) rfl ?_
    refine v_iload hB 4 dX11_readsAct_42 rfl ?_
    refine v_if_ge (tgt := 49) hB dX11_readsAct_44 rfl ?_ ?_
    · refine v_aload_n hB 0 dX11_readsAct_49 rfl rfl ?_
      refine v_getA hB hK (fl_X11_55 g) (cMA_0_14 g) dX11_readsAct_50 ?_
      refine v_aload_n hB 0 dX11_readsAct_53 rfl rfl ?_
      refine v_getI hB hK (fl_X11_203 g) (cMI_0_18 g) dX11_readsAct_54 ?_
      refine v_iload_n hB 2 dX11_readsAct_57 rfl rfl ?_
      refine v_iast hB hK (aMI_11 g) dX11_readsAct_58 ?_
      refine v_hl (fun h58 => ?_)
      refine v_aload_n hB 0 dX11_readsAct_59 rfl rfl ?_
      refine v_getA hB hK (fl_X11_58 g) (cMA_0_15 g) dX11_readsAct_60 ?_
      refine v_aload_n hB 0 dX11_readsAct_63 rfl rfl ?_
      refine v_getI hB hK (fl_X11_203 g) (cMI_0_18 g) dX11_readsAct_64 ?_
      refine v_iload_n hB 1 dX11_readsAct_67 rfl rfl ?_
      refine v_iast hB hK (aMI_12 g) dX11_readsAct_68 ?_
      refine v_hl (fun h68 => ?_)
      refine v_aload_n hB 0 dX11_readsAct_69 rfl rfl ?_
      refine v_getA hB hK (fl_X11_61 g) (cMA_0_16 g) dX11_readsAct_70 ?_
      refine v_aload_n hB 0 dX11_readsAct_73 rfl rfl ?_
      refine v_getI hB hK (fl_X11_203 g) (cMI_0_18 g) dX11_readsAct_74 ?_
      refine v_iload_n hB 3 dX11_readsAct_77 rfl rfl ?_
      refine v_iast hB hK (aMI_13 g) dX11_readsAct_78 ?_
      refine v_hl (fun h78 => ?_)
      refine v_aload_n hB 0 dX11_readsAct_79 rfl rfl ?_
      refine v_getA hB hK (fl_X11_64 g) (cMA_0_17 g) dX11_readsAct_80 ?_
      refine v_aload_n hB 0 dX11_readsAct_83 rfl rfl ?_
      refine v_getI hB hK (fl_X11_203 g) (cMI_0_18 g) dX11_readsAct_84 ?_
      refine v_iload hB 4 dX11_readsAct_87 rfl ?_
      refine v_iast hB hK (aMI_14 g) dX11_readsAct_89 ?_
      refine v_hl (fun h89 => ?_)
      refine v_aload_n hB 0 dX11_readsAct_90 rfl rfl ?_
      refine v_dup hB dX11_readsAct_91 rfl ?_
      refine v_getI hB hK (fl_X11_203 g) (cMI_0_18 g) dX11_readsAct_92 ?_
      refine v_iconst hB 1 dX11_readsAct_95 (by decide) ?_
      refine v_iadd hB dX11_readsAct_96 ?_
      refine v_putI hB hK (fl_X11_203 g) (fin_X11_18 g) (cMI_0_18 g) dX11_readsAct_97 ?_
      refine v_iconst hB 1 dX11_readsAct_100 (by decide) ?_
      exact v_retWz (x := true) hB hK hR dX11_readsAct_101
    · refine v_iconst hB 0 dX11_readsAct_47 (by decide) ?_
      exact v_retWz (x := false) hB hK hR dX11_readsAct_48
  unfold f_X11_readsAct
  refine v_aload_n hB 0 dX11_readsAct_0 rfl rfl ?_
  refine v_getI hB hK (fl_X11_172 g) (cMI_0_12 g) dX11_readsAct_1 ?_
  refine v_istore_n hB [(0, .ref ((SM g).1.2.1 0)), (1, .int (rI h 0 12))] [1, 0] dX11_readsAct_4 rfl (by decide) rfl ?_
  refine v_aload_n hB 0 dX11_readsAct_5 rfl rfl ?_
  refine v_bWi (fun r6 h6 e6 => v_callV hB hK hR.rm [] [] (oM_0 g) lb_X11_readsWord lv_X11_197 (c_X11_readsWord g hK.A X.1.2.1 h e6) dX11_readsAct_6 rfl rfl (Nat.le_of_ble_eq_true rfl) (by decide) (by decide)) (fun r6 h6 => ?_)
  refine v_istore_n hB [(0, .ref ((SM g).1.2.1 0)), (1, .int (rI h 0 12)), (2, .int r6)] [1, 2, 0] dX11_readsAct_9 rfl (by decide) rfl ?_
  refine v_iload_n hB 2 dX11_readsAct_10 rfl rfl ?_
  refine v_if_ge (tgt := 16) hB dX11_readsAct_11 rfl ?_ ?_
  · refine v_aload_n hB 0 dX11_readsAct_16 rfl rfl ?_
    refine v_bWi (fun r17 h17 e17 => v_callV hB hK hR.rm [] [] (oM_0 g) lb_X11_readsNumber lv_X11_200 (c_X11_readsNumber g hK.A X.1.2.1 h6 e17) dX11_readsAct_17 rfl rfl (Nat.le_of_ble_eq_true rfl) (by decide) (by decide)) (fun r17 h17 => ?_)
    refine v_istore_n hB [(0, .ref ((SM g).1.2.1 0)), (1, .int (rI h 0 12)), (2, .int r6), (3, .int r17)] [1, 2, 3, 0] dX11_readsAct_20 rfl (by decide) rfl ?_
    refine v_iload_n hB 3 dX11_readsAct_21 rfl rfl ?_
    refine v_if_ge (tgt := 27) hB dX11_readsAct_22 rfl ?_ ?_
    · refine v_iload_n hB 2 dX11_readsAct_27 rfl rfl ?_
      refine v_iconst hB 3 dX11_readsAct_28 (by decide) ?_
      refine v_icmp_ne (tgt := 36) hB dX11_readsAct_29 rfl ?_ ?_
      · refine v_aload_n hB 0 dX11_readsAct_36 rfl rfl ?_
        refine v_bWi (fun r37 h37 e37 => v_callV hB hK hR.rm [] [] (oM_0 g) lb_X11_readsNumber lv_X11_200 (c_X11_readsNumber g hK.A X.1.2.1 h17 e37) dX11_readsAct_37 rfl rfl (Nat.le_of_ble_eq_true rfl) (by decide) (by decide)) (fun r37 h37 => ?_)
        exact V.sub [0, 1, 2, 3] rfl (hn40 (rI h 0 12) r6 r17 r37 h37)
      · refine v_iconst hB 0 dX11_readsAct_32 (by decide) ?_
        refine v_goto (tgt := 40) hB dX11_readsAct_33 rfl ?_
        exact V.sub [0, 1, 2, 3] rfl (hn40 (rI h 0 12) r6 r17 0 h17)
    · refine v_iconst hB 0 dX11_readsAct_25 (by decide) ?_
      exact v_retWz (x := false) hB hK hR dX11_readsAct_26
  · refine v_iconst hB 0 dX11_readsAct_14 (by decide) ?_
    exact v_retWz (x := false) hB hK hR dX11_readsAct_15

def f_X11_readsActs_j46 (v1 : Bool) (h : pq_H) : Option (Bool × pq_H) :=
  if v1 = true then (if (rI h 0 12) = (rI h 0 11) then (some (true, h)) else (some (false, h))) else (some (false, h))
def f_X11_readsActs_l15 (w15 : Bool → pq_H → Option (Bool × pq_H)) (v1 : Bool) (h : pq_H) : Option (Bool × pq_H) :=
  if v1 = true then ((f_X11_next h).bind fun r20 => if r20 = 59 then (hl (wI h 0 12 ((rI h 0 12) + 1)) fun h35 => bd2 (f_X11_readsAct h35) fun r39 h39 => w15 r39 h39) else (f_X11_readsActs_j46 v1 h)) else (f_X11_readsActs_j46 v1 h)
def f_X11_readsActs (h : pq_H) : Option (Bool × pq_H) :=
  hl (wI h 0 18 0) fun h2 => hl (wI h2 0 12 0) fun h7 => bd2 (f_X11_readsAct h7) fun r11 h11 => lp (fun _ _ => none) (f_X11_readsActs_l15) 1000 r11 h11
set_option maxRecDepth 100000 in
set_option maxHeartbeats 4000000 in
theorem c_X11_readsActs (g : pq_g) {A : Nat → Prop} (hA : pq_A (SM g) A) (l : Launch) (h : pq_H) {rr : Bool} {hh : pq_H} (e : f_X11_readsActs h = some (rr, hh)) : pq_M (SM g) A l yX11_readsActs cX11_readsActs 2 (some .boolean) 4 86 [.ref ((SM g).1.2.1 0)] h (some (.int (b2i rr))) hh := by
  refine pq_met hA l (own := RX11) 4 86 _ [(0, .ref ((SM g).1.2.1 0))] h _ hh (by decide +kernel) rfl (Nat.le_of_ble_eq_true rfl) rfl (fun X hXl hXA hB hK hR => ?_)
  refine V.cast (F' := f_X11_readsActs h) (res' := (rr, hh)) (fun _ => e) ?_
  have hn46 : ∀ (v1 : Bool) (h : pq_H), V X (SM g) (rr, hh) 2 46 [(0, .ref ((SM g).1.2.1 0)), (1, .int (b2i v1))] [] h (f_X11_readsActs_j46 v1 h) := by
    intro v1 h
    unfold f_X11_readsActs_j46
    refine v_iload_n hB 1 dX11_readsActs_46 rfl rfl ?_
    refine v_ifz_eq (r := v1) (tgt := 65) hB dX11_readsActs_47 rfl ?_ ?_
    · refine v_iconst hB 0 dX11_readsActs_65 (by decide) ?_
      exact v_retWz (x := false) hB hK hR dX11_readsActs_66
    · refine v_aload_n hB 0 dX11_readsActs_50 rfl rfl ?_
      refine v_getI hB hK (fl_X11_172 g) (cMI_0_12 g) dX11_readsActs_51 ?_
      refine v_aload_n hB 0 dX11_readsActs_54 rfl rfl ?_
      refine v_getI hB hK (fl_X11_169 g) (cMI_0_11 g) dX11_readsActs_55 ?_
      refine v_icmp_ne (tgt := 65) hB dX11_readsActs_58 rfl ?_ ?_
      · refine v_iconst hB 0 dX11_readsActs_65 (by decide) ?_
        exact v_retWz (x := false) hB hK hR dX11_readsActs_66
      · refine v_iconst hB 1 dX11_readsActs_61 (by decide) ?_
        refine v_goto (tgt := 66) hB dX11_readsActs_62 rfl ?_
        exact v_retWz (x := true) hB hK hR dX11_readsActs_66
  have hn15 : ∀ (n : Nat), ∀ (v1 : Bool) (h : pq_H), V X (SM g) (rr, hh) 2 15 [(0, .ref ((SM g).1.2.1 0)), (1, .int (b2i v1))] [] h (lp (fun _ _ => none) (f_X11_readsActs_l15) n v1 h) := by
    refine lp_ind (fun (w15 : Bool → pq_H → Option (Bool × pq_H)) => ∀ (v1 : Bool) (h : pq_H), V X (SM g) (rr, hh) 2 15 [(0, .ref ((SM g).1.2.1 0)), (1, .int (b2i v1))] [] h (w15 v1 h)) (fun _ _ => V.none _ _ _ _) (fun w15 ih15 => ?_)
    intro v1 h
    unfold f_X11_readsActs_l15
    refine v_iload_n hB 1 dX11_readsActs_15 rfl rfl ?_
    refine v_ifz_eq (r := v1) (tgt := 46) hB dX11_readsActs_16 rfl ?_ ?_
    · exact V.sub [0, 1] rfl (hn46 v1 h)
    · refine v_aload_n hB 0 dX11_readsActs_19 rfl rfl ?_
      refine v_bRi (fun r20 e20 => v_callV hB hK hR.rm [] [] (oM_0 g) lb_X11_next lv_X11_175 (c_X11_next g hK.A X.1.2.1 h e20) dX11_readsActs_20 rfl rfl (Nat.le_of_ble_eq_true rfl) (by decide) (by decide)) (fun r20 => ?_)
      refine v_bipush hB 59 dX11_readsActs_23 (by decide) ?_
      refine v_icmp_ne (tgt := 46) hB dX11_readsActs_25 rfl ?_ ?_
      · exact V.sub [0, 1] rfl (hn46 v1 h)
      · refine v_aload_n hB 0 dX11_readsActs_28 rfl rfl ?_
        refine v_dup hB dX11_readsActs_29 rfl ?_
        refine v_getI hB hK (fl_X11_172 g) (cMI_0_12 g) dX11_readsActs_30 ?_
        refine v_iconst hB 1 dX11_readsActs_33 (by decide) ?_
        refine v_iadd hB dX11_readsActs_34 ?_
        refine v_putI hB hK (fl_X11_172 g) (fin_X11_12 g) (cMI_0_12 g) dX11_readsActs_35 ?_
        refine v_hl (fun h35 => ?_)
        refine v_aload_n hB 0 dX11_readsActs_38 rfl rfl ?_
        refine v_bWz (fun r39 h39 e39 => v_callV hB hK hR.rm [] [] (oM_0 g) lb_X11_readsAct lv_X11_206 (c_X11_readsAct g hK.A X.1.2.1 h35 e39) dX11_readsActs_39 rfl rfl (Nat.le_of_ble_eq_true rfl) (by decide) (by decide)) (fun r39 h39 => ?_)
        refine v_istore_n hB [(0, .ref ((SM g).1.2.1 0)), (1, .int (b2i r39))] [1, 0] dX11_readsActs_42 rfl (by decide) rfl ?_
        refine v_goto (tgt := 15) hB dX11_readsActs_43 rfl ?_
        exact V.sub [0, 1] rfl (ih15 r39 h39)
  unfold f_X11_readsActs
  refine v_aload_n hB 0 dX11_readsActs_0 rfl rfl ?_
  refine v_iconst hB 0 dX11_readsActs_1 (by decide) ?_
  refine v_putI hB hK (fl_X11_203 g) (fin_X11_18 g) (cMI_0_18 g) dX11_readsActs_2 ?_
  refine v_hl (fun h2 => ?_)
  refine v_aload_n hB 0 dX11_readsActs_5 rfl rfl ?_
  refine v_iconst hB 0 dX11_readsActs_6 (by decide) ?_
  refine v_putI hB hK (fl_X11_172 g) (fin_X11_12 g) (cMI_0_12 g) dX11_readsActs_7 ?_
  refine v_hl (fun h7 => ?_)
  refine v_aload_n hB 0 dX11_readsActs_10 rfl rfl ?_
  refine v_bWz (fun r11 h11 e11 => v_callV hB hK hR.rm [] [] (oM_0 g) lb_X11_readsAct lv_X11_206 (c_X11_readsAct g hK.A X.1.2.1 h7 e11) dX11_readsActs_11 rfl rfl (Nat.le_of_ble_eq_true rfl) (by decide) (by decide)) (fun r11 h11 => ?_)
  refine v_istore_n hB [(0, .ref ((SM g).1.2.1 0)), (1, .int (b2i r11))] [1, 0] dX11_readsActs_14 rfl (by decide) rfl ?_
  exact V.sub [0, 1] rfl (hn15 1000 r11 h11)

def f_X11_does (p1 : Int32) (h : pq_H) : Option (Int32 × pq_H) :=
  gd (inb p1 16) (gd (inb p1 16) (if (f_X11_isForm (rI h 13 p1.toNatClampNeg) h) = true then (gd (inb p1 16) (if (rI h 11 p1.toNatClampNeg) = 0 then (if (f_X11_isForm (rI h 14 p1.toNatClampNeg) h) = true then (gd (inb (rI h 13 p1.toNatClampNeg) 6) (gd (inb (rI h 14 p1.toNatClampNeg) 6) (if (rI h 5 (rI h 13 p1.toNatClampNeg).toNatClampNeg) = (rI h 5 (rI h 14 p1.toNatClampNeg).toNatClampNeg) then (bd2 (f_X11_sums (rI h 13 p1.toNatClampNeg) (rI h 14 p1.toNatClampNeg) h) fun r90 h90 => some (r90, h90)) else (some ((-1), h))))) else (some ((-1), h))) else (if (rI h 11 p1.toNatClampNeg) = 1 then (if (f_X11_isForm (rI h 14 p1.toNatClampNeg) h) = true then (bd2 (f_X11_multiplies (rI h 13 p1.toNatClampNeg) (rI h 14 p1.toNatClampNeg) h) fun r109 h109 => some (r109, h109)) else (some ((-1), h))) else (if (rI h 11 p1.toNatClampNeg) = 2 then (if (rI h 14 p1.toNatClampNeg) ≤ 6 then (bd2 (f_X11_lifts (rI h 13 p1.toNatClampNeg) (rI h 14 p1.toNatClampNeg) h) fun r127 h127 => some (r127, h127)) else (some ((-6), h))) else (if (rI h 11 p1.toNatClampNeg) = 3 then (bd2 (f_X11_turnsBelow (rI h 13 p1.toNatClampNeg) h) fun r133 h133 => some (r133, h133)) else (if (f_X11_isSide (rI h 14 p1.toNatClampNeg)) = true then (bd2 (f_X11_staysOn (rI h 13 p1.toNatClampNeg) (rI h 14 p1.toNatClampNeg) h) fun r151 h151 => some (r151, h151)) else (some ((-1), h)))))))) else (some ((-1), h))))
set_option maxRecDepth 100000 in
set_option maxHeartbeats 4000000 in
theorem c_X11_does (g : pq_g) {A : Nat → Prop} (hA : pq_A (SM g) A) (l : Launch) (p1 : Int32) (h : pq_H) {rr : Int32} {hh : pq_H} (e : f_X11_does p1 h = some (rr, hh)) : pq_M (SM g) A l yX11_does cX11_does 4 (some .int) 5 119 [.ref ((SM g).1.2.1 0), .int p1] h (some (.int rr)) hh := by
  refine pq_met hA l (own := RX11) 5 119 _ [(0, .ref ((SM g).1.2.1 0)), (1, .int p1)] h _ hh (by decide +kernel) rfl (Nat.le_of_ble_eq_true rfl) rfl (fun X hXl hXA hB hK hR => ?_)
  refine V.cast (F' := f_X11_does p1 h) (res' := (rr, hh)) (fun _ => e) ?_
  unfold f_X11_does
  refine v_aload_n hB 0 dX11_does_0 rfl rfl ?_
  refine v_getA hB hK (fl_X11_61 g) (cMA_0_16 g) dX11_does_1 ?_
  refine v_iload_n hB 1 dX11_does_4 rfl rfl ?_
  refine v_iald hB hK (aMI_13 g) dX11_does_5 ?_
  refine v_istore_n hB [(0, .ref ((SM g).1.2.1 0)), (1, .int p1), (2, .int (rI h 13 p1.toNatClampNeg))] [1, 2, 0] dX11_does_6 rfl (by decide) rfl ?_
  refine v_aload_n hB 0 dX11_does_7 rfl rfl ?_
  refine v_getA hB hK (fl_X11_64 g) (cMA_0_17 g) dX11_does_8 ?_
  refine v_iload_n hB 1 dX11_does_11 rfl rfl ?_
  refine v_iald hB hK (aMI_14 g) dX11_does_12 ?_
  refine v_istore_n hB [(0, .ref ((SM g).1.2.1 0)), (1, .int p1), (2, .int (rI h 13 p1.toNatClampNeg)), (3, .int (rI h 14 p1.toNatClampNeg))] [1, 2, 3, 0] dX11_does_13 rfl (by decide) rfl ?_
  refine v_aload_n hB 0 dX11_does_14 rfl rfl ?_
  refine v_iload_n hB 2 dX11_does_15 rfl rfl ?_
  refine v_bT (v_callV hB hK hR.rm [.int (rI h 13 p1.toNatClampNeg)] [] (oM_0 g) lb_X11_isForm lv_X11_143 (c_X11_isForm g hK.A X.1.2.1 (rI h 13 p1.toNatClampNeg) h) dX11_does_16 rfl rfl (Nat.le_of_ble_eq_true rfl) (by decide) (by decide)) ?_
  refine v_ifz_ne (r := f_X11_isForm (rI h 13 p1.toNatClampNeg) h) (tgt := 24) hB dX11_does_19 rfl ?_ ?_
  · refine v_aload_n hB 0 dX11_does_24 rfl rfl ?_
    refine v_getA hB hK (fl_X11_55 g) (cMA_0_14 g) dX11_does_25 ?_
    refine v_iload_n hB 1 dX11_does_28 rfl rfl ?_
    refine v_iald hB hK (aMI_11 g) dX11_does_29 ?_
    refine v_tcase (tgt := 60) hB 0 dX11_does_30 (by decide) (by decide) rfl rfl ?_ (fun n30_0 => ?_)
    · refine v_aload_n hB 0 dX11_does_60 rfl rfl ?_
      refine v_iload_n hB 3 dX11_does_61 rfl rfl ?_
      refine v_bT (v_callV hB hK hR.rm [.int (rI h 14 p1.toNatClampNeg)] [] (oM_0 g) lb_X11_isForm lv_X11_143 (c_X11_isForm g hK.A X.1.2.1 (rI h 14 p1.toNatClampNeg) h) dX11_does_62 rfl rfl (Nat.le_of_ble_eq_true rfl) (by decide) (by decide)) ?_
      refine v_ifz_eq (r := f_X11_isForm (rI h 14 p1.toNatClampNeg) h) (tgt := 83) hB dX11_does_65 rfl ?_ ?_
      · refine v_iconst hB (-1) dX11_does_83 (by decide) ?_
        refine v_goto (tgt := 93) hB dX11_does_84 rfl ?_
        exact v_retWi (x := (-1)) hB hK hR dX11_does_93
      · refine v_aload_n hB 0 dX11_does_68 rfl rfl ?_
        refine v_getA hB hK (fl_X11_36 g) (cMA_0_4 g) dX11_does_69 ?_
        refine v_iload_n hB 2 dX11_does_72 rfl rfl ?_
        refine v_iald hB hK (aMI_5 g) dX11_does_73 ?_
        refine v_aload_n hB 0 dX11_does_74 rfl rfl ?_
        refine v_getA hB hK (fl_X11_36 g) (cMA_0_4 g) dX11_does_75 ?_
        refine v_iload_n hB 3 dX11_does_78 rfl rfl ?_
        refine v_iald hB hK (aMI_5 g) dX11_does_79 ?_
        refine v_icmp_eq (tgt := 87) hB dX11_does_80 rfl ?_ ?_
        · refine v_aload_n hB 0 dX11_does_87 rfl rfl ?_
          refine v_iload_n hB 2 dX11_does_88 rfl rfl ?_
          refine v_iload_n hB 3 dX11_does_89 rfl rfl ?_
          refine v_bWi (fun r90 h90 e90 => v_callV hB hK hR.rm [.int (rI h 13 p1.toNatClampNeg), .int (rI h 14 p1.toNatClampNeg)] [] (oM_0 g) lb_X11_sums lv_X11_146 (c_X11_sums g hK.A X.1.2.1 (rI h 13 p1.toNatClampNeg) (rI h 14 p1.toNatClampNeg) h e90) dX11_does_90 rfl rfl (Nat.le_of_ble_eq_true rfl) (by decide) (by decide)) (fun r90 h90 => ?_)
          exact v_retWi (x := r90) hB hK hR dX11_does_93
        · refine v_iconst hB (-1) dX11_does_83 (by decide) ?_
          refine v_goto (tgt := 93) hB dX11_does_84 rfl ?_
          exact v_retWi (x := (-1)) hB hK hR dX11_does_93
    · refine v_tcase (tgt := 94) hB 1 dX11_does_30 (by decide) (by decide) rfl rfl ?_ (fun n30_1 => ?_)
      · refine v_aload_n hB 0 dX11_does_94 rfl rfl ?_
        refine v_iload_n hB 3 dX11_does_95 rfl rfl ?_
        refine v_bT (v_callV hB hK hR.rm [.int (rI h 14 p1.toNatClampNeg)] [] (oM_0 g) lb_X11_isForm lv_X11_143 (c_X11_isForm g hK.A X.1.2.1 (rI h 14 p1.toNatClampNeg) h) dX11_does_96 rfl rfl (Nat.le_of_ble_eq_true rfl) (by decide) (by decide)) ?_
        refine v_ifz_ne (r := f_X11_isForm (rI h 14 p1.toNatClampNeg) h) (tgt := 106) hB dX11_does_99 rfl ?_ ?_
        · refine v_aload_n hB 0 dX11_does_106 rfl rfl ?_
          refine v_iload_n hB 2 dX11_does_107 rfl rfl ?_
          refine v_iload_n hB 3 dX11_does_108 rfl rfl ?_
          refine v_bWi (fun r109 h109 e109 => v_callV hB hK hR.rm [.int (rI h 13 p1.toNatClampNeg), .int (rI h 14 p1.toNatClampNeg)] [] (oM_0 g) lb_X11_multiplies lv_X11_151 (c_X11_multiplies g hK.A X.1.2.1 (rI h 13 p1.toNatClampNeg) (rI h 14 p1.toNatClampNeg) h e109) dX11_does_109 rfl rfl (Nat.le_of_ble_eq_true rfl) (by decide) (by decide)) (fun r109 h109 => ?_)
          exact v_retWi (x := r109) hB hK hR dX11_does_112
        · refine v_iconst hB (-1) dX11_does_102 (by decide) ?_
          refine v_goto (tgt := 112) hB dX11_does_103 rfl ?_
          exact v_retWi (x := (-1)) hB hK hR dX11_does_112
      · refine v_tcase (tgt := 113) hB 2 dX11_does_30 (by decide) (by decide) rfl rfl ?_ (fun n30_2 => ?_)
        · refine v_iload_n hB 3 dX11_does_113 rfl rfl ?_
          refine v_bipush hB 6 dX11_does_114 (by decide) ?_
          refine v_icmp_le (tgt := 124) hB dX11_does_116 rfl ?_ ?_
          · refine v_aload_n hB 0 dX11_does_124 rfl rfl ?_
            refine v_iload_n hB 2 dX11_does_125 rfl rfl ?_
            refine v_iload_n hB 3 dX11_does_126 rfl rfl ?_
            refine v_bWi (fun r127 h127 e127 => v_callV hB hK hR.rm [.int (rI h 13 p1.toNatClampNeg), .int (rI h 14 p1.toNatClampNeg)] [] (oM_0 g) lb_X11_lifts lv_X11_157 (c_X11_lifts g hK.A X.1.2.1 (rI h 13 p1.toNatClampNeg) (rI h 14 p1.toNatClampNeg) h e127) dX11_does_127 rfl rfl (Nat.le_of_ble_eq_true rfl) (by decide) (by decide)) (fun r127 h127 => ?_)
            exact v_retWi (x := r127) hB hK hR dX11_does_130
          · refine v_bipush hB (-6) dX11_does_119 (by decide) ?_
            refine v_goto (tgt := 130) hB dX11_does_121 rfl ?_
            exact v_retWi (x := (-6)) hB hK hR dX11_does_130
        · refine v_tcase (tgt := 131) hB 3 dX11_does_30 (by decide) (by decide) rfl rfl ?_ (fun n30_3 => ?_)
          · refine v_aload_n hB 0 dX11_does_131 rfl rfl ?_
            refine v_iload_n hB 2 dX11_does_132 rfl rfl ?_
            refine v_bWi (fun r133 h133 e133 => v_callV hB hK hR.rm [.int (rI h 13 p1.toNatClampNeg)] [] (oM_0 g) lb_X11_turnsBelow lv_X11_160 (c_X11_turnsBelow g hK.A X.1.2.1 (rI h 13 p1.toNatClampNeg) h e133) dX11_does_133 rfl rfl (Nat.le_of_ble_eq_true rfl) (by decide) (by decide)) (fun r133 h133 => ?_)
            exact v_retWi (x := r133) hB hK hR dX11_does_136
          · refine v_tdef (tgt := 137) hB dX11_does_30 (by have z0 := lv_neT n30_0 (a := 0) (by decide); have z1 := lv_neT n30_1 (a := 1) (by decide); have z2 := lv_neT n30_2 (a := 2) (by decide); have z3 := lv_neT n30_3 (a := 3) (by decide); omega) rfl ?_
            refine v_iload_n hB 3 dX11_does_137 rfl rfl ?_
            refine v_bT (v_callS hB hK hR.rm [.int (rI h 14 p1.toNatClampNeg)] [] lb_X11_isSide lv_X11_163 (c_X11_isSide g hK.A X.1.2.1 (rI h 14 p1.toNatClampNeg) h) dX11_does_138 rfl rfl (Nat.le_of_ble_eq_true rfl) (by decide) (by decide)) ?_
            refine v_ifz_ne (r := f_X11_isSide (rI h 14 p1.toNatClampNeg)) (tgt := 148) hB dX11_does_141 rfl ?_ ?_
            · refine v_aload_n hB 0 dX11_does_148 rfl rfl ?_
              refine v_iload_n hB 2 dX11_does_149 rfl rfl ?_
              refine v_iload_n hB 3 dX11_does_150 rfl rfl ?_
              refine v_bWi (fun r151 h151 e151 => v_callV hB hK hR.rm [.int (rI h 13 p1.toNatClampNeg), .int (rI h 14 p1.toNatClampNeg)] [] (oM_0 g) lb_X11_staysOn lv_X11_166 (c_X11_staysOn g hK.A X.1.2.1 (rI h 13 p1.toNatClampNeg) (rI h 14 p1.toNatClampNeg) h e151) dX11_does_151 rfl rfl (Nat.le_of_ble_eq_true rfl) (by decide) (by decide)) (fun r151 h151 => ?_)
              exact v_retWi (x := r151) hB hK hR dX11_does_154
            · refine v_iconst hB (-1) dX11_does_144 (by decide) ?_
              refine v_goto (tgt := 154) hB dX11_does_145 rfl ?_
              exact v_retWi (x := (-1)) hB hK hR dX11_does_154
  · refine v_iconst hB (-1) dX11_does_22 (by decide) ?_
    exact v_retWi (x := (-1)) hB hK hR dX11_does_23

def f_X11_acts_j71 (h : pq_H) : Option (Int32 × pq_H) :=
  hl (wI h 0 8 0) fun h73 => some (rI h73 0 18, h73)
def f_X11_acts_j49 (v2 : Int32) (v3 : Int32) (h : pq_H) : Option (Int32 × pq_H) :=
  hl (wI h 0 5 v2) fun h51 => gd (inb v3 16) (some ((-2000) - (rI h51 12 v3.toNatClampNeg), h51))
def f_X11_acts_l30 (v2 : Int32) (w30 : Int32 → pq_H → Option (Int32 × pq_H)) (v3 : Int32) (h : pq_H) : Option (Int32 × pq_H) :=
  if (rI h 0 18) ≤ v3 then (f_X11_acts_j71 h) else (bd2 (f_X11_does v3 h) fun r40 h40 => if r40 < 0 then (f_X11_acts_j49 v2 v3 h40) else (w30 (v3 + 1) h40))
def f_X11_acts (h : pq_H) : Option (Int32 × pq_H) :=
  bd2 (f_X11_readsActs h) fun r1 h1 => hl (wI h1 0 11 0) fun h7 => if r1 = true then (lp (fun _ _ => none) (f_X11_acts_l30 (rI h7 0 5)) 1000 0 h7) else (some ((-1000) - (rI h7 0 12), h7))
set_option maxRecDepth 100000 in
set_option maxHeartbeats 4000000 in
theorem c_X11_acts (g : pq_g) {A : Nat → Prop} (hA : pq_A (SM g) A) (l : Launch) (h : pq_H) {rr : Int32} {hh : pq_H} (e : f_X11_acts h = some (rr, hh)) : pq_M (SM g) A l yX11_acts cX11_acts 4 (some .int) 6 142 [.ref ((SM g).1.2.1 0)] h (some (.int rr)) hh := by
  refine pq_met hA l (own := RX11) 6 142 _ [(0, .ref ((SM g).1.2.1 0))] h _ hh (by decide +kernel) rfl (Nat.le_of_ble_eq_true rfl) rfl (fun X hXl hXA hB hK hR => ?_)
  refine V.cast (F' := f_X11_acts h) (res' := (rr, hh)) (fun _ => e) ?_
  have hn71 : ∀ (h : pq_H), V X (SM g) (rr, hh) 4 71 [(0, .ref ((SM g).1.2.1 0))] [] h (f_X11_acts_j71 h) := by
    intro h
    unfold f_X11_acts_j71
    refine v_aload_n hB 0 dX11_acts_71 rfl rfl ?_
    refine v_iconst hB 0 dX11_acts_72 (by decide) ?_
    refine v_putI hB hK (fl_X11_119 g) (fin_X11_8 g) (cMI_0_8 g) dX11_acts_73 ?_
    refine v_hl (fun h73 => ?_)
    refine v_aload_n hB 0 dX11_acts_76 rfl rfl ?_
    refine v_getI hB hK (fl_X11_203 g) (cMI_0_18 g) dX11_acts_77 ?_
    exact v_retWi (x := rI h73 0 18) hB hK hR dX11_acts_80
  have hn49 : ∀ (v2 : Int32) (v3 : Int32) (h : pq_H), V X (SM g) (rr, hh) 4 49 [(0, .ref ((SM g).1.2.1 0)), (2, .int v2), (3, .int v3)] [] h (f_X11_acts_j49 v2 v3 h) := by
    intro v2 v3 h
    unfold f_X11_acts_j49
    refine v_aload_n hB 0 dX11_acts_49 rfl rfl ?_
    refine v_iload_n hB 1 dX11_acts_50 rfl rfl ?_
    refine v_putI hB hK (fl_X11_95 g) (fin_X11_5 g) (cMI_0_5 g) dX11_acts_51 ?_
    refine v_hl (fun h51 => ?_)
    refine v_sipush hB (-2000) dX11_acts_54 (by decide) ?_
    refine v_aload_n hB 0 dX11_acts_57 rfl rfl ?_
    refine v_getA hB hK (fl_X11_58 g) (cMA_0_15 g) dX11_acts_58 ?_
    refine v_iload_n hB 2 dX11_acts_61 rfl rfl ?_
    refine v_iald hB hK (aMI_12 g) dX11_acts_62 ?_
    refine v_isub hB dX11_acts_63 ?_
    exact v_retWi (x := (-2000) - (rI h51 12 v3.toNatClampNeg)) hB hK hR dX11_acts_64
  have hn30 : ∀ (v2 : Int32) (n : Nat), ∀ (v3 : Int32) (h : pq_H), V X (SM g) (rr, hh) 4 30 [(0, .ref ((SM g).1.2.1 0)), (2, .int v2), (3, .int v3)] [] h (lp (fun _ _ => none) (f_X11_acts_l30 v2) n v3 h) := by
    intro v2
    refine lp_ind (fun (w30 : Int32 → pq_H → Option (Int32 × pq_H)) => ∀ (v3 : Int32) (h : pq_H), V X (SM g) (rr, hh) 4 30 [(0, .ref ((SM g).1.2.1 0)), (2, .int v2), (3, .int v3)] [] h (w30 v3 h)) (fun _ _ => V.none _ _ _ _) (fun w30 ih30 => ?_)
    intro v3 h
    unfold f_X11_acts_l30
    refine v_iload_n hB 2 dX11_acts_30 rfl rfl ?_
    refine v_aload_n hB 0 dX11_acts_31 rfl rfl ?_
    refine v_getI hB hK (fl_X11_203 g) (cMI_0_18 g) dX11_acts_32 ?_
    refine v_icmp_ge (tgt := 71) hB dX11_acts_35 rfl ?_ ?_
    · exact V.sub [0] rfl (hn71 h)
    · refine v_aload_n hB 0 dX11_acts_38 rfl rfl ?_
      refine v_iload_n hB 2 dX11_acts_39 rfl rfl ?_
      refine v_bWi (fun r40 h40 e40 => v_callV hB hK hR.rm [.int v3] [] (oM_0 g) lb_X11_does lv_X11_212 (c_X11_does g hK.A X.1.2.1 v3 h e40) dX11_acts_40 rfl rfl (Nat.le_of_ble_eq_true rfl) (by decide) (by decide)) (fun r40 h40 => ?_)
      refine v_if_lt (tgt := 49) hB dX11_acts_43 rfl ?_ ?_
      · exact V.sub [0, 1, 2] rfl (hn49 v2 v3 h40)
      · refine v_goto (tgt := 65) hB dX11_acts_46 rfl ?_
        refine v_iinc hB (v3 + 1) [(0, .ref ((SM g).1.2.1 0)), (2, .int v2), (3, .int (v3 + 1))] 2 [1, 2, 0] dX11_acts_65 rfl rfl (by decide) rfl ?_
        refine v_goto (tgt := 30) hB dX11_acts_68 rfl ?_
        exact V.sub [0, 1, 2] rfl (ih30 (v3 + 1) h40)
  unfold f_X11_acts
  refine v_aload_n hB 0 dX11_acts_0 rfl rfl ?_
  refine v_bWz (fun r1 h1 e1 => v_callV hB hK hR.rm [] [] (oM_0 g) lb_X11_readsActs lv_X11_209 (c_X11_readsActs g hK.A X.1.2.1 h e1) dX11_acts_1 rfl rfl (Nat.le_of_ble_eq_true rfl) (by decide) (by decide)) (fun r1 h1 => ?_)
  refine v_istore_n hB [(0, .ref ((SM g).1.2.1 0)), (1, .int (b2i r1))] [1, 0] dX11_acts_4 rfl (by decide) rfl ?_
  refine v_aload_n hB 0 dX11_acts_5 rfl rfl ?_
  refine v_iconst hB 0 dX11_acts_6 (by decide) ?_
  refine v_putI hB hK (fl_X11_169 g) (fin_X11_11 g) (cMI_0_11 g) dX11_acts_7 ?_
  refine v_hl (fun h7 => ?_)
  refine v_iload_n hB 1 dX11_acts_10 rfl rfl ?_
  refine v_ifz_ne (r := r1) (tgt := 23) hB dX11_acts_11 rfl ?_ ?_
  · refine v_aload_n hB 0 dX11_acts_23 rfl rfl ?_
    refine v_getI hB hK (fl_X11_95 g) (cMI_0_5 g) dX11_acts_24 ?_
    refine v_istore_n hB [(0, .ref ((SM g).1.2.1 0)), (1, .int (b2i r1)), (2, .int (rI h7 0 5))] [1, 2, 0] dX11_acts_27 rfl (by decide) rfl ?_
    refine v_iconst hB 0 dX11_acts_28 (by decide) ?_
    refine v_istore_n hB [(0, .ref ((SM g).1.2.1 0)), (1, .int (b2i r1)), (2, .int (rI h7 0 5)), (3, .int 0)] [1, 2, 3, 0] dX11_acts_29 rfl (by decide) rfl ?_
    exact V.sub [0, 2, 3] rfl (hn30 (rI h7 0 5) 1000 0 h7)
  · refine v_sipush hB (-1000) dX11_acts_14 (by decide) ?_
    refine v_aload_n hB 0 dX11_acts_17 rfl rfl ?_
    refine v_getI hB hK (fl_X11_172 g) (cMI_0_12 g) dX11_acts_18 ?_
    refine v_isub hB dX11_acts_21 ?_
    exact v_retWi (x := (-1000) - (rI h7 0 12)) hB hK hR dX11_acts_22

def f_X11_drop (h : pq_H) : Option (Int32 × pq_H) :=
  if (rI h 0 5) = 0 then (bd2 (f_X11_no (-3) h) fun r10 h10 => some (r10, h10)) else (hl (wI h 0 8 0) fun h16 => hl (wI h16 0 5 ((rI h16 0 5) - 1)) fun h26 => some (rI h26 0 5, h26))
set_option maxRecDepth 100000 in
set_option maxHeartbeats 4000000 in
theorem c_X11_drop (g : pq_g) {A : Nat → Prop} (hA : pq_A (SM g) A) (l : Launch) (h : pq_H) {rr : Int32} {hh : pq_H} (e : f_X11_drop h = some (rr, hh)) : pq_M (SM g) A l yX11_drop cX11_drop 1 (some .int) 1 21 [.ref ((SM g).1.2.1 0)] h (some (.int rr)) hh := by
  refine pq_met hA l (own := RX11) 1 21 _ [(0, .ref ((SM g).1.2.1 0))] h _ hh (by decide +kernel) rfl (Nat.le_of_ble_eq_true rfl) rfl (fun X hXl hXA hB hK hR => ?_)
  refine V.cast (F' := f_X11_drop h) (res' := (rr, hh)) (fun _ => e) ?_
  unfold f_X11_drop
  refine v_aload_n hB 0 dX11_drop_0 rfl rfl ?_
  refine v_getI hB hK (fl_X11_95 g) (cMI_0_5 g) dX11_drop_1 ?_
  refine v_if_ne (tgt := 14) hB dX11_drop_4 rfl ?_ ?_
  · refine v_aload_n hB 0 dX11_drop_14 rfl rfl ?_
    refine v_iconst hB 0 dX11_drop_15 (by decide) ?_
    refine v_putI hB hK (fl_X11_119 g) (fin_X11_8 g) (cMI_0_8 g) dX11_drop_16 ?_
    refine v_hl (fun h16 => ?_)
    refine v_aload_n hB 0 dX11_drop_19 rfl rfl ?_
    refine v_dup hB dX11_drop_20 rfl ?_
    refine v_getI hB hK (fl_X11_95 g) (cMI_0_5 g) dX11_drop_21 ?_
    refine v_iconst hB 1 dX11_drop_24 (by decide) ?_
    refine v_isub hB dX11_drop_25 ?_
    refine v_putI hB hK (fl_X11_95 g) (fin_X11_5 g) (cMI_0_5 g) dX11_drop_26 ?_
    refine v_hl (fun h26 => ?_)
    refine v_aload_n hB 0 dX11_drop_29 rfl rfl ?_
    refine v_getI hB hK (fl_X11_95 g) (cMI_0_5 g) dX11_drop_30 ?_
    exact v_retWi (x := rI h26 0 5) hB hK hR dX11_drop_33
  · refine v_aload_n hB 0 dX11_drop_7 rfl rfl ?_
    refine v_bipush hB (-3) dX11_drop_8 (by decide) ?_
    refine v_bWi (fun r10 h10 e10 => v_callV hB hK hR.rm [.int (-3)] [] (oM_0 g) lb_X11_no lv_X11_8 (c_X11_no g hK.A X.1.2.1 (-3) h e10) dX11_drop_10 rfl rfl (Nat.le_of_ble_eq_true rfl) (by decide) (by decide)) (fun r10 h10 => ?_)
    exact v_retWi (x := r10) hB hK hR dX11_drop_13

def f_X11_change_j29 (p1 : Int32) (p2 : Int32) (p3 : Int32) (s0 : Int32) (h : pq_H) : Option (Int32 × pq_H) :=
  if s0 = 0 then (gd (inb ((28 * p1) + p2) 168) ((f_X11_notes ((28 * p1) + p2) (rI h 2 ((28 * p1) + p2).toNatClampNeg) h).bind fun h65 => gd (inb ((28 * p1) + p2) 168) (some (rI h 2 ((28 * p1) + p2).toNatClampNeg, wI h65 2 ((28 * p1) + p2).toNatClampNeg p3)))) else (bd2 (f_X11_far s0 h) fun r39 h39 => some (r39, h39))
def f_X11_change_j17 (p1 : Int32) (p2 : Int32) (p3 : Int32) (h : pq_H) : Option (Int32 × pq_H) :=
  f_X11_change_j29 p1 p2 p3 (-1) h
def f_X11_change (p1 : Int32) (p2 : Int32) (p3 : Int32) (h : pq_H) : Option (Int32 × pq_H) :=
  if (f_X11_isForm p1 h) = true then ((f_X11_isTerm p1 p2 h).bind fun r11 => if r11 = true then (f_X11_change_j29 p1 p2 p3 (f_X11_bound p3 (-1000000) 1000000) h) else (f_X11_change_j17 p1 p2 p3 h)) else (f_X11_change_j17 p1 p2 p3 h)
set_option maxRecDepth 100000 in
set_option maxHeartbeats 4000000 in
theorem c_X11_change (g : pq_g) {A : Nat → Prop} (hA : pq_A (SM g) A) (l : Launch) (p1 : Int32) (p2 : Int32) (p3 : Int32) (h : pq_H) {rr : Int32} {hh : pq_H} (e : f_X11_change p1 p2 p3 h = some (rr, hh)) : pq_M (SM g) A l yX11_change cX11_change 7 (some .int) 2 44 [.ref ((SM g).1.2.1 0), .int p1, .int p2, .int p3] h (some (.int rr)) hh := by
  refine pq_met hA l (own := RX11) 2 44 _ [(0, .ref ((SM g).1.2.1 0)), (1, .int p1), (2, .int p2), (3, .int p3)] h _ hh (by decide +kernel) rfl (Nat.le_of_ble_eq_true rfl) rfl (fun X hXl hXA hB hK hR => ?_)
  refine V.cast (F' := f_X11_change p1 p2 p3 h) (res' := (rr, hh)) (fun _ => e) ?_
  have hn29 : ∀ (s0 : Int32) (h : pq_H), V X (SM g) (rr, hh) 7 29 [(0, .ref ((SM g).1.2.1 0)), (1, .int p1), (2, .int p2), (3, .int p3)] [.int s0] h (f_X11_change_j29 p1 p2 p3 s0 h) := by
    intro s0 h
    unfold f_X11_change_j29
    refine v_istore hB [(0, .ref ((SM g).1.2.1 0)), (1, .int p1), (2, .int p2), (3, .int p3), (4, .int s0)] [1, 2, 3, 4, 0] dX11_change_29 (by decide) rfl ?_
    refine v_iload hB 4 dX11_change_31 rfl ?_
    refine v_if_eq (tgt := 43) hB dX11_change_33 rfl ?_ ?_
    · refine v_bipush hB 28 dX11_change_43 (by decide) ?_
      refine v_iload_n hB 1 dX11_change_45 rfl rfl ?_
      refine v_imul hB dX11_change_46 ?_
      refine v_iload_n hB 2 dX11_change_47 rfl rfl ?_
      refine v_iadd hB dX11_change_48 ?_
      refine v_istore hB [(0, .ref ((SM g).1.2.1 0)), (1, .int p1), (2, .int p2), (3, .int p3), (4, .int s0), (5, .int ((28 * p1) + p2))] [1, 2, 3, 4, 5, 0] dX11_change_49 (by decide) rfl ?_
      refine v_aload_n hB 0 dX11_change_51 rfl rfl ?_
      refine v_getA hB hK (fl_X11_27 g) (cMA_0_1 g) dX11_change_52 ?_
      refine v_iload hB 5 dX11_change_55 rfl ?_
      refine v_iald hB hK (aMI_2 g) dX11_change_57 ?_
      refine v_istore hB [(0, .ref ((SM g).1.2.1 0)), (1, .int p1), (2, .int p2), (3, .int p3), (4, .int s0), (5, .int ((28 * p1) + p2)), (6, .int (rI h 2 ((28 * p1) + p2).toNatClampNeg))] [1, 2, 3, 4, 5, 6, 0] dX11_change_58 (by decide) rfl ?_
      refine v_aload_n hB 0 dX11_change_60 rfl rfl ?_
      refine v_iload hB 5 dX11_change_61 rfl ?_
      refine v_iload hB 6 dX11_change_63 rfl ?_
      refine v_bV (fun h65 e65 => v_callV hB hK hR.rm [.int ((28 * p1) + p2), .int (rI h 2 ((28 * p1) + p2).toNatClampNeg)] [] (oM_0 g) lb_X11_notes lv_X11_220 (c_X11_notes g hK.A X.1.2.1 ((28 * p1) + p2) (rI h 2 ((28 * p1) + p2).toNatClampNeg) h e65) dX11_change_65 rfl rfl (Nat.le_of_ble_eq_true rfl) (by decide) (by decide)) (fun h65 => ?_)
      refine v_aload_n hB 0 dX11_change_68 rfl rfl ?_
      refine v_getA hB hK (fl_X11_27 g) (cMA_0_1 g) dX11_change_69 ?_
      refine v_iload hB 5 dX11_change_72 rfl ?_
      refine v_iload_n hB 3 dX11_change_74 rfl rfl ?_
      refine v_iast hB hK (aMI_2 g) dX11_change_75 ?_
      refine v_iload hB 6 dX11_change_76 rfl ?_
      exact v_retWi (x := rI h 2 ((28 * p1) + p2).toNatClampNeg) hB hK hR dX11_change_78
    · refine v_aload_n hB 0 dX11_change_36 rfl rfl ?_
      refine v_iload hB 4 dX11_change_37 rfl ?_
      refine v_bWi (fun r39 h39 e39 => v_callV hB hK hR.rm [.int s0] [] (oM_0 g) lb_X11_far lv_X11_217 (c_X11_far g hK.A X.1.2.1 s0 h e39) dX11_change_39 rfl rfl (Nat.le_of_ble_eq_true rfl) (by decide) (by decide)) (fun r39 h39 => ?_)
      exact v_retWi (x := r39) hB hK hR dX11_change_42
  have hn17 : ∀ (h : pq_H), V X (SM g) (rr, hh) 7 17 [(0, .ref ((SM g).1.2.1 0)), (1, .int p1), (2, .int p2), (3, .int p3)] [] h (f_X11_change_j17 p1 p2 p3 h) := by
    intro h
    unfold f_X11_change_j17
    refine v_iconst hB (-1) dX11_change_17 (by decide) ?_
    refine v_goto (tgt := 29) hB dX11_change_18 rfl ?_
    exact V.sub [0, 1, 2, 3] rfl (hn29 (-1) h)
  unfold f_X11_change
  refine v_aload_n hB 0 dX11_change_0 rfl rfl ?_
  refine v_iload_n hB 1 dX11_change_1 rfl rfl ?_
  refine v_bT (v_callV hB hK hR.rm [.int p1] [] (oM_0 g) lb_X11_isForm lv_X11_143 (c_X11_isForm g hK.A X.1.2.1 p1 h) dX11_change_2 rfl rfl (Nat.le_of_ble_eq_true rfl) (by decide) (by decide)) ?_
  refine v_ifz_eq (r := f_X11_isForm p1 h) (tgt := 17) hB dX11_change_5 rfl ?_ ?_
  · exact V.sub [0, 1, 2, 3] rfl (hn17 h)
  · refine v_aload_n hB 0 dX11_change_8 rfl rfl ?_
    refine v_iload_n hB 1 dX11_change_9 rfl rfl ?_
    refine v_iload_n hB 2 dX11_change_10 rfl rfl ?_
    refine v_bRz (fun r11 e11 => v_callV hB hK hR.rm [.int p1, .int p2] [] (oM_0 g) lb_X11_isTerm lv_X11_111 (c_X11_isTerm g hK.A X.1.2.1 p1 p2 h e11) dX11_change_11 rfl rfl (Nat.le_of_ble_eq_true rfl) (by decide) (by decide)) (fun r11 => ?_)
    refine v_ifz_ne (r := r11) (tgt := 21) hB dX11_change_14 rfl ?_ ?_
    · refine v_iload_n hB 3 dX11_change_21 rfl rfl ?_
      refine v_ldc hB (-1000000) k_X11_215 dX11_change_22 ?_
      refine v_ldc hB 1000000 k_X11_216 dX11_change_24 ?_
      refine v_bT (v_callS hB hK hR.rm [.int p3, .int (-1000000), .int 1000000] [] lb_X11_bound lv_X11_154 (c_X11_bound g hK.A X.1.2.1 p3 (-1000000) 1000000 h) dX11_change_26 rfl rfl (Nat.le_of_ble_eq_true rfl) (by decide) (by decide)) ?_
      exact V.sub [0, 1, 2, 3] rfl (hn29 (f_X11_bound p3 (-1000000) 1000000) h)
    · exact V.sub [0, 1, 2, 3] rfl (hn17 h)

def f_X11_turn_j33 (p1 : Int32) (p2 : Int32) (p3 : Int32) (s0 : Int32) (h : pq_H) : Option (Int32 × pq_H) :=
  if s0 = 0 then (gd (inb p1 6) (gd (inb p1 6) ((f_X11_notes ((-1) - p1) ((10 * (rI h 3 p1.toNatClampNeg)) + (rI h 4 p1.toNatClampNeg)) h).bind fun h71 => gd (inb p1 6) (hl (wI h71 3 p1.toNatClampNeg p2) fun h80 => gd (inb p1 6) (some ((10 * (rI h 3 p1.toNatClampNeg)) + (rI h 4 p1.toNatClampNeg), wI h80 4 p1.toNatClampNeg p3)))))) else (bd2 (f_X11_no s0 h) fun r43 h43 => some (r43, h43))
def f_X11_turn (p1 : Int32) (p2 : Int32) (p3 : Int32) (h : pq_H) : Option (Int32 × pq_H) :=
  if (f_X11_isForm p1 h) = true then (if (f_X11_isIn p2 0 5) = true then (f_X11_turn_j33 p1 p2 p3 (f_X11_bound p3 0 9) h) else (f_X11_turn_j33 p1 p2 p3 (-2) h)) else (f_X11_turn_j33 p1 p2 p3 (-1) h)
set_option maxRecDepth 100000 in
set_option maxHeartbeats 4000000 in
theorem c_X11_turn (g : pq_g) {A : Nat → Prop} (hA : pq_A (SM g) A) (l : Launch) (p1 : Int32) (p2 : Int32) (p3 : Int32) (h : pq_H) {rr : Int32} {hh : pq_H} (e : f_X11_turn p1 p2 p3 h = some (rr, hh)) : pq_M (SM g) A l yX11_turn cX11_turn 6 (some .int) 2 43 [.ref ((SM g).1.2.1 0), .int p1, .int p2, .int p3] h (some (.int rr)) hh := by
  refine pq_met hA l (own := RX11) 2 43 _ [(0, .ref ((SM g).1.2.1 0)), (1, .int p1), (2, .int p2), (3, .int p3)] h _ hh (by decide +kernel) rfl (Nat.le_of_ble_eq_true rfl) rfl (fun X hXl hXA hB hK hR => ?_)
  refine V.cast (F' := f_X11_turn p1 p2 p3 h) (res' := (rr, hh)) (fun _ => e) ?_
  have hn33 : ∀ (s0 : Int32) (h : pq_H), V X (SM g) (rr, hh) 6 33 [(0, .ref ((SM g).1.2.1 0)), (1, .int p1), (2, .int p2), (3, .int p3)] [.int s0] h (f_X11_turn_j33 p1 p2 p3 s0 h) := by
    intro s0 h
    unfold f_X11_turn_j33
    refine v_istore hB [(0, .ref ((SM g).1.2.1 0)), (1, .int p1), (2, .int p2), (3, .int p3), (4, .int s0)] [1, 2, 3, 4, 0] dX11_turn_33 (by decide) rfl ?_
    refine v_iload hB 4 dX11_turn_35 rfl ?_
    refine v_if_eq (tgt := 47) hB dX11_turn_37 rfl ?_ ?_
    · refine v_bipush hB 10 dX11_turn_47 (by decide) ?_
      refine v_aload_n hB 0 dX11_turn_49 rfl rfl ?_
      refine v_getA hB hK (fl_X11_30 g) (cMA_0_2 g) dX11_turn_50 ?_
      refine v_iload_n hB 1 dX11_turn_53 rfl rfl ?_
      refine v_iald hB hK (aMI_3 g) dX11_turn_54 ?_
      refine v_imul hB dX11_turn_55 ?_
      refine v_aload_n hB 0 dX11_turn_56 rfl rfl ?_
      refine v_getA hB hK (fl_X11_33 g) (cMA_0_3 g) dX11_turn_57 ?_
      refine v_iload_n hB 1 dX11_turn_60 rfl rfl ?_
      refine v_iald hB hK (aMI_4 g) dX11_turn_61 ?_
      refine v_iadd hB dX11_turn_62 ?_
      refine v_istore hB [(0, .ref ((SM g).1.2.1 0)), (1, .int p1), (2, .int p2), (3, .int p3), (4, .int s0), (5, .int ((10 * (rI h 3 p1.toNatClampNeg)) + (rI h 4 p1.toNatClampNeg)))] [1, 2, 3, 4, 5, 0] dX11_turn_63 (by decide) rfl ?_
      refine v_aload_n hB 0 dX11_turn_65 rfl rfl ?_
      refine v_iconst hB (-1) dX11_turn_66 (by decide) ?_
      refine v_iload_n hB 1 dX11_turn_67 rfl rfl ?_
      refine v_isub hB dX11_turn_68 ?_
      refine v_iload hB 5 dX11_turn_69 rfl ?_
      refine v_bV (fun h71 e71 => v_callV hB hK hR.rm [.int ((-1) - p1), .int ((10 * (rI h 3 p1.toNatClampNeg)) + (rI h 4 p1.toNatClampNeg))] [] (oM_0 g) lb_X11_notes lv_X11_220 (c_X11_notes g hK.A X.1.2.1 ((-1) - p1) ((10 * (rI h 3 p1.toNatClampNeg)) + (rI h 4 p1.toNatClampNeg)) h e71) dX11_turn_71 rfl rfl (Nat.le_of_ble_eq_true rfl) (by decide) (by decide)) (fun h71 => ?_)
      refine v_aload_n hB 0 dX11_turn_74 rfl rfl ?_
      refine v_getA hB hK (fl_X11_30 g) (cMA_0_2 g) dX11_turn_75 ?_
      refine v_iload_n hB 1 dX11_turn_78 rfl rfl ?_
      refine v_iload_n hB 2 dX11_turn_79 rfl rfl ?_
      refine v_iast hB hK (aMI_3 g) dX11_turn_80 ?_
      refine v_hl (fun h80 => ?_)
      refine v_aload_n hB 0 dX11_turn_81 rfl rfl ?_
      refine v_getA hB hK (fl_X11_33 g) (cMA_0_3 g) dX11_turn_82 ?_
      refine v_iload_n hB 1 dX11_turn_85 rfl rfl ?_
      refine v_iload_n hB 3 dX11_turn_86 rfl rfl ?_
      refine v_iast hB hK (aMI_4 g) dX11_turn_87 ?_
      refine v_iload hB 5 dX11_turn_88 rfl ?_
      exact v_retWi (x := (10 * (rI h 3 p1.toNatClampNeg)) + (rI h 4 p1.toNatClampNeg)) hB hK hR dX11_turn_90
    · refine v_aload_n hB 0 dX11_turn_40 rfl rfl ?_
      refine v_iload hB 4 dX11_turn_41 rfl ?_
      refine v_bWi (fun r43 h43 e43 => v_callV hB hK hR.rm [.int s0] [] (oM_0 g) lb_X11_no lv_X11_8 (c_X11_no g hK.A X.1.2.1 s0 h e43) dX11_turn_43 rfl rfl (Nat.le_of_ble_eq_true rfl) (by decide) (by decide)) (fun r43 h43 => ?_)
      exact v_retWi (x := r43) hB hK hR dX11_turn_46
  unfold f_X11_turn
  refine v_aload_n hB 0 dX11_turn_0 rfl rfl ?_
  refine v_iload_n hB 1 dX11_turn_1 rfl rfl ?_
  refine v_bT (v_callV hB hK hR.rm [.int p1] [] (oM_0 g) lb_X11_isForm lv_X11_143 (c_X11_isForm g hK.A X.1.2.1 p1 h) dX11_turn_2 rfl rfl (Nat.le_of_ble_eq_true rfl) (by decide) (by decide)) ?_
  refine v_ifz_ne (r := f_X11_isForm p1 h) (tgt := 12) hB dX11_turn_5 rfl ?_ ?_
  · refine v_iload_n hB 2 dX11_turn_12 rfl rfl ?_
    refine v_iconst hB 0 dX11_turn_13 (by decide) ?_
    refine v_iconst hB 5 dX11_turn_14 (by decide) ?_
    refine v_bT (v_callS hB hK hR.rm [.int p2, .int 0, .int 5] [] lb_X11_isIn lv_X11_98 (c_X11_isIn g hK.A X.1.2.1 p2 0 5 h) dX11_turn_15 rfl rfl (Nat.le_of_ble_eq_true rfl) (by decide) (by decide)) ?_
    refine v_ifz_ne (r := f_X11_isIn p2 0 5) (tgt := 26) hB dX11_turn_18 rfl ?_ ?_
    · refine v_iload_n hB 3 dX11_turn_26 rfl rfl ?_
      refine v_iconst hB 0 dX11_turn_27 (by decide) ?_
      refine v_bipush hB 9 dX11_turn_28 (by decide) ?_
      refine v_bT (v_callS hB hK hR.rm [.int p3, .int 0, .int 9] [] lb_X11_bound lv_X11_154 (c_X11_bound g hK.A X.1.2.1 p3 0 9 h) dX11_turn_30 rfl rfl (Nat.le_of_ble_eq_true rfl) (by decide) (by decide)) ?_
      exact V.sub [0, 1, 2, 3] rfl (hn33 (f_X11_bound p3 0 9) h)
    · refine v_bipush hB (-2) dX11_turn_21 (by decide) ?_
      refine v_goto (tgt := 33) hB dX11_turn_23 rfl ?_
      exact V.sub [0, 1, 2, 3] rfl (hn33 (-2) h)
  · refine v_iconst hB (-1) dX11_turn_8 (by decide) ?_
    refine v_goto (tgt := 33) hB dX11_turn_9 rfl ?_
    exact V.sub [0, 1, 2, 3] rfl (hn33 (-1) h)

def f_X11_of (p1 : Int32) (p2 : Int32) (h : pq_H) : Option (Int32 × pq_H) :=
  if (f_X11_isForm p1 h) = true then (if p2 = 0 then (gd (inb p1 6) (some (rI h 3 p1.toNatClampNeg, h))) else (if p2 = 1 then (gd (inb p1 6) (some (rI h 4 p1.toNatClampNeg, h))) else (if p2 = 2 then (gd (inb p1 6) (some (rI h 5 p1.toNatClampNeg, h))) else (if p2 = 3 then (gd (inb p1 6) (some (f_X11_termsOf (rI h 5 p1.toNatClampNeg), h))) else (if p2 = 4 then ((f_X11_many p1 1 h).bind fun r86 => (f_X11_many p1 0 h).bind fun r92 => some (r86 - r92, h)) else (if p2 = 5 then ((f_X11_many p1 0 h).bind fun r100 => some (r100, h)) else (bd2 (f_X11_no (-2) h) fun r107 h107 => some (r107, h107)))))))) else (bd2 (f_X11_no (-1) h) fun r10 h10 => some (r10, h10))
set_option maxRecDepth 100000 in
set_option maxHeartbeats 4000000 in
theorem c_X11_of (g : pq_g) {A : Nat → Prop} (hA : pq_A (SM g) A) (l : Launch) (p1 : Int32) (p2 : Int32) (h : pq_H) {rr : Int32} {hh : pq_H} (e : f_X11_of p1 p2 h = some (rr, hh)) : pq_M (SM g) A l yX11_of cX11_of 3 (some .int) 4 95 [.ref ((SM g).1.2.1 0), .int p1, .int p2] h (some (.int rr)) hh := by
  refine pq_met hA l (own := RX11) 4 95 _ [(0, .ref ((SM g).1.2.1 0)), (1, .int p1), (2, .int p2)] h _ hh (by decide +kernel) rfl (Nat.le_of_ble_eq_true rfl) rfl (fun X hXl hXA hB hK hR => ?_)
  refine V.cast (F' := f_X11_of p1 p2 h) (res' := (rr, hh)) (fun _ => e) ?_
  unfold f_X11_of
  refine v_aload_n hB 0 dX11_of_0 rfl rfl ?_
  refine v_iload_n hB 1 dX11_of_1 rfl rfl ?_
  refine v_bT (v_callV hB hK hR.rm [.int p1] [] (oM_0 g) lb_X11_isForm lv_X11_143 (c_X11_isForm g hK.A X.1.2.1 p1 h) dX11_of_2 rfl rfl (Nat.le_of_ble_eq_true rfl) (by decide) (by decide)) ?_
  refine v_ifz_ne (r := f_X11_isForm p1 h) (tgt := 14) hB dX11_of_5 rfl ?_ ?_
  · refine v_iload_n hB 2 dX11_of_14 rfl rfl ?_
    refine v_tcase (tgt := 52) hB 0 dX11_of_15 (by decide) (by decide) rfl rfl ?_ (fun n15_0 => ?_)
    · refine v_aload_n hB 0 dX11_of_52 rfl rfl ?_
      refine v_getA hB hK (fl_X11_30 g) (cMA_0_2 g) dX11_of_53 ?_
      refine v_iload_n hB 1 dX11_of_56 rfl rfl ?_
      refine v_iald hB hK (aMI_3 g) dX11_of_57 ?_
      exact v_retWi (x := rI h 3 p1.toNatClampNeg) hB hK hR dX11_of_58
    · refine v_tcase (tgt := 59) hB 1 dX11_of_15 (by decide) (by decide) rfl rfl ?_ (fun n15_1 => ?_)
      · refine v_aload_n hB 0 dX11_of_59 rfl rfl ?_
        refine v_getA hB hK (fl_X11_33 g) (cMA_0_3 g) dX11_of_60 ?_
        refine v_iload_n hB 1 dX11_of_63 rfl rfl ?_
        refine v_iald hB hK (aMI_4 g) dX11_of_64 ?_
        exact v_retWi (x := rI h 4 p1.toNatClampNeg) hB hK hR dX11_of_65
      · refine v_tcase (tgt := 66) hB 2 dX11_of_15 (by decide) (by decide) rfl rfl ?_ (fun n15_2 => ?_)
        · refine v_aload_n hB 0 dX11_of_66 rfl rfl ?_
          refine v_getA hB hK (fl_X11_36 g) (cMA_0_4 g) dX11_of_67 ?_
          refine v_iload_n hB 1 dX11_of_70 rfl rfl ?_
          refine v_iald hB hK (aMI_5 g) dX11_of_71 ?_
          exact v_retWi (x := rI h 5 p1.toNatClampNeg) hB hK hR dX11_of_72
        · refine v_tcase (tgt := 73) hB 3 dX11_of_15 (by decide) (by decide) rfl rfl ?_ (fun n15_3 => ?_)
          · refine v_aload_n hB 0 dX11_of_73 rfl rfl ?_
            refine v_getA hB hK (fl_X11_36 g) (cMA_0_4 g) dX11_of_74 ?_
            refine v_iload_n hB 1 dX11_of_77 rfl rfl ?_
            refine v_iald hB hK (aMI_5 g) dX11_of_78 ?_
            refine v_bT (v_callS hB hK hR.rm [.int (rI h 5 p1.toNatClampNeg)] [] lb_X11_termsOf lv_X11_102 (c_X11_termsOf g hK.A X.1.2.1 (rI h 5 p1.toNatClampNeg) h) dX11_of_79 rfl rfl (Nat.le_of_ble_eq_true rfl) (by decide) (by decide)) ?_
            exact v_retWi (x := f_X11_termsOf (rI h 5 p1.toNatClampNeg)) hB hK hR dX11_of_82
          · refine v_tcase (tgt := 83) hB 4 dX11_of_15 (by decide) (by decide) rfl rfl ?_ (fun n15_4 => ?_)
            · refine v_aload_n hB 0 dX11_of_83 rfl rfl ?_
              refine v_iload_n hB 1 dX11_of_84 rfl rfl ?_
              refine v_iconst hB 1 dX11_of_85 (by decide) ?_
              refine v_bRi (fun r86 e86 => v_callV hB hK hR.rm [.int p1, .int 1] [] (oM_0 g) lb_X11_many lv_X11_224 (c_X11_many g hK.A X.1.2.1 p1 1 h e86) dX11_of_86 rfl rfl (Nat.le_of_ble_eq_true rfl) (by decide) (by decide)) (fun r86 => ?_)
              refine v_aload_n hB 0 dX11_of_89 rfl rfl ?_
              refine v_iload_n hB 1 dX11_of_90 rfl rfl ?_
              refine v_iconst hB 0 dX11_of_91 (by decide) ?_
              refine v_bRi (fun r92 e92 => v_callV hB hK hR.rm [.int p1, .int 0] [.int r86] (oM_0 g) lb_X11_many lv_X11_224 (c_X11_many g hK.A X.1.2.1 p1 0 h e92) dX11_of_92 rfl rfl (Nat.le_of_ble_eq_true rfl) (by decide) (by decide)) (fun r92 => ?_)
              refine v_isub hB dX11_of_95 ?_
              exact v_retWi (x := r86 - r92) hB hK hR dX11_of_96
            · refine v_tcase (tgt := 97) hB 5 dX11_of_15 (by decide) (by decide) rfl rfl ?_ (fun n15_5 => ?_)
              · refine v_aload_n hB 0 dX11_of_97 rfl rfl ?_
                refine v_iload_n hB 1 dX11_of_98 rfl rfl ?_
                refine v_iconst hB 0 dX11_of_99 (by decide) ?_
                refine v_bRi (fun r100 e100 => v_callV hB hK hR.rm [.int p1, .int 0] [] (oM_0 g) lb_X11_many lv_X11_224 (c_X11_many g hK.A X.1.2.1 p1 0 h e100) dX11_of_100 rfl rfl (Nat.le_of_ble_eq_true rfl) (by decide) (by decide)) (fun r100 => ?_)
                exact v_retWi (x := r100) hB hK hR dX11_of_103
              · refine v_tdef (tgt := 104) hB dX11_of_15 (by have z0 := lv_neT n15_0 (a := 0) (by decide); have z1 := lv_neT n15_1 (a := 1) (by decide); have z2 := lv_neT n15_2 (a := 2) (by decide); have z3 := lv_neT n15_3 (a := 3) (by decide); have z4 := lv_neT n15_4 (a := 4) (by decide); have z5 := lv_neT n15_5 (a := 5) (by decide); omega) rfl ?_
                refine v_aload_n hB 0 dX11_of_104 rfl rfl ?_
                refine v_bipush hB (-2) dX11_of_105 (by decide) ?_
                refine v_bWi (fun r107 h107 e107 => v_callV hB hK hR.rm [.int (-2)] [] (oM_0 g) lb_X11_no lv_X11_8 (c_X11_no g hK.A X.1.2.1 (-2) h e107) dX11_of_107 rfl rfl (Nat.le_of_ble_eq_true rfl) (by decide) (by decide)) (fun r107 h107 => ?_)
                exact v_retWi (x := r107) hB hK hR dX11_of_110
  · refine v_aload_n hB 0 dX11_of_8 rfl rfl ?_
    refine v_iconst hB (-1) dX11_of_9 (by decide) ?_
    refine v_bWi (fun r10 h10 e10 => v_callV hB hK hR.rm [.int (-1)] [] (oM_0 g) lb_X11_no lv_X11_8 (c_X11_no g hK.A X.1.2.1 (-1) h e10) dX11_of_10 rfl rfl (Nat.le_of_ble_eq_true rfl) (by decide) (by decide)) (fun r10 h10 => ?_)
    exact v_retWi (x := r10) hB hK hR dX11_of_13

def f_X11_taken_j83 (v4 : Int32) (s0 : Bool) (h : pq_H) : Option (Int32 × pq_H) :=
  if s0 = true then (some (v4, h)) else (some ((-16), h))
def f_X11_taken_j78 (v4 : Int32) (h : pq_H) : Option (Int32 × pq_H) :=
  f_X11_taken_j83 v4 true h
def f_X11_taken_j82 (v4 : Int32) (h : pq_H) : Option (Int32 × pq_H) :=
  f_X11_taken_j83 v4 false h
def f_X11_taken_j67 (p2 : Int32) (v4 : Int32) (h : pq_H) : Option (Int32 × pq_H) :=
  if p2 = 2 then (if v4 = 5 then (f_X11_taken_j78 v4 h) else (f_X11_taken_j82 v4 h)) else (f_X11_taken_j82 v4 h)
def f_X11_taken_j27 (p1 : Int32) (p2 : Int32) (s0 : Int32) (h : pq_H) : Option (Int32 × pq_H) :=
  if s0 = 0 then (gd (inb p1 6) (if p2 = 0 then (f_X11_taken_j78 (rI h 3 p1.toNatClampNeg) h) else (if p2 = (rI h 3 p1.toNatClampNeg) then (f_X11_taken_j78 (rI h 3 p1.toNatClampNeg) h) else (if p2 = 1 then (if (rI h 3 p1.toNatClampNeg) = 4 then (f_X11_taken_j78 (rI h 3 p1.toNatClampNeg) h) else (f_X11_taken_j67 p2 (rI h 3 p1.toNatClampNeg) h)) else (f_X11_taken_j67 p2 (rI h 3 p1.toNatClampNeg) h))))) else (bd2 (f_X11_no s0 h) fun r34 h34 => some (r34, h34))
def f_X11_taken (p1 : Int32) (p2 : Int32) (h : pq_H) : Option (Int32 × pq_H) :=
  if (f_X11_isForm p1 h) = true then (if (f_X11_isIn p2 0 5) = true then (f_X11_taken_j27 p1 p2 0 h) else (f_X11_taken_j27 p1 p2 (-2) h)) else (f_X11_taken_j27 p1 p2 (-1) h)
set_option maxRecDepth 100000 in
set_option maxHeartbeats 4000000 in
theorem c_X11_taken (g : pq_g) {A : Nat → Prop} (hA : pq_A (SM g) A) (l : Launch) (p1 : Int32) (p2 : Int32) (h : pq_H) {rr : Int32} {hh : pq_H} (e : f_X11_taken p1 p2 h = some (rr, hh)) : pq_M (SM g) A l yX11_taken cX11_taken 6 (some .int) 2 43 [.ref ((SM g).1.2.1 0), .int p1, .int p2] h (some (.int rr)) hh := by
  refine pq_met hA l (own := RX11) 2 43 _ [(0, .ref ((SM g).1.2.1 0)), (1, .int p1), (2, .int p2)] h _ hh (by decide +kernel) rfl (Nat.le_of_ble_eq_true rfl) rfl (fun X hXl hXA hB hK hR => ?_)
  refine V.cast (F' := f_X11_taken p1 p2 h) (res' := (rr, hh)) (fun _ => e) ?_
  have hn83 : ∀ (v4 : Int32) (s0 : Bool) (h : pq_H), V X (SM g) (rr, hh) 6 83 [(4, .int v4)] [.int (b2i s0)] h (f_X11_taken_j83 v4 s0 h) := by
    intro v4 s0 h
    unfold f_X11_taken_j83
    refine v_istore hB [(4, .int v4), (5, .int (b2i s0))] [1, 0] dX11_taken_83 (by decide) rfl ?_
    refine v_iload hB 1 dX11_taken_85 rfl ?_
    refine v_ifz_eq (r := s0) (tgt := 95) hB dX11_taken_87 rfl ?_ ?_
    · refine v_bipush hB (-16) dX11_taken_95 (by decide) ?_
      exact v_retWi (x := (-16)) hB hK hR dX11_taken_97
    · refine v_iload hB 0 dX11_taken_90 rfl ?_
      refine v_goto (tgt := 97) hB dX11_taken_92 rfl ?_
      exact v_retWi (x := v4) hB hK hR dX11_taken_97
  have hn78 : ∀ (v4 : Int32) (h : pq_H), V X (SM g) (rr, hh) 6 78 [(4, .int v4)] [] h (f_X11_taken_j78 v4 h) := by
    intro v4 h
    unfold f_X11_taken_j78
    refine v_iconst hB 1 dX11_taken_78 (by decide) ?_
    refine v_goto (tgt := 83) hB dX11_taken_79 rfl ?_
    exact V.sub [0] rfl (hn83 v4 true h)
  have hn82 : ∀ (v4 : Int32) (h : pq_H), V X (SM g) (rr, hh) 6 82 [(4, .int v4)] [] h (f_X11_taken_j82 v4 h) := by
    intro v4 h
    unfold f_X11_taken_j82
    refine v_iconst hB 0 dX11_taken_82 (by decide) ?_
    exact V.sub [0] rfl (hn83 v4 false h)
  have hn67 : ∀ (v4 : Int32) (h : pq_H), V X (SM g) (rr, hh) 6 67 [(2, .int p2), (4, .int v4)] [] h (f_X11_taken_j67 p2 v4 h) := by
    intro v4 h
    unfold f_X11_taken_j67
    refine v_iload_n hB 0 dX11_taken_67 rfl rfl ?_
    refine v_iconst hB 2 dX11_taken_68 (by decide) ?_
    refine v_icmp_ne (tgt := 82) hB dX11_taken_69 rfl ?_ ?_
    · exact V.sub [1] rfl (hn82 v4 h)
    · refine v_iload hB 1 dX11_taken_72 rfl ?_
      refine v_iconst hB 5 dX11_taken_74 (by decide) ?_
      refine v_icmp_ne (tgt := 82) hB dX11_taken_75 rfl ?_ ?_
      · exact V.sub [1] rfl (hn82 v4 h)
      · exact V.sub [1] rfl (hn78 v4 h)
  have hn27 : ∀ (s0 : Int32) (h : pq_H), V X (SM g) (rr, hh) 6 27 [(0, .ref ((SM g).1.2.1 0)), (1, .int p1), (2, .int p2)] [.int s0] h (f_X11_taken_j27 p1 p2 s0 h) := by
    intro s0 h
    unfold f_X11_taken_j27
    refine v_istore_n hB [(0, .ref ((SM g).1.2.1 0)), (1, .int p1), (2, .int p2), (3, .int s0)] [1, 2, 3, 0] dX11_taken_27 rfl (by decide) rfl ?_
    refine v_iload_n hB 3 dX11_taken_28 rfl rfl ?_
    refine v_if_eq (tgt := 38) hB dX11_taken_29 rfl ?_ ?_
    · refine v_aload_n hB 0 dX11_taken_38 rfl rfl ?_
      refine v_getA hB hK (fl_X11_30 g) (cMA_0_2 g) dX11_taken_39 ?_
      refine v_iload_n hB 1 dX11_taken_42 rfl rfl ?_
      refine v_iald hB hK (aMI_3 g) dX11_taken_43 ?_
      refine v_istore hB [(0, .ref ((SM g).1.2.1 0)), (1, .int p1), (2, .int p2), (3, .int s0), (4, .int (rI h 3 p1.toNatClampNeg))] [1, 2, 3, 4, 0] dX11_taken_44 (by decide) rfl ?_
      refine v_iload_n hB 2 dX11_taken_46 rfl rfl ?_
      refine v_if_eq (tgt := 78) hB dX11_taken_47 rfl ?_ ?_
      · exact V.sub [4] rfl (hn78 (rI h 3 p1.toNatClampNeg) h)
      · refine v_iload_n hB 2 dX11_taken_50 rfl rfl ?_
        refine v_iload hB 4 dX11_taken_51 rfl ?_
        refine v_icmp_eq (tgt := 78) hB dX11_taken_53 rfl ?_ ?_
        · exact V.sub [4] rfl (hn78 (rI h 3 p1.toNatClampNeg) h)
        · refine v_iload_n hB 2 dX11_taken_56 rfl rfl ?_
          refine v_iconst hB 1 dX11_taken_57 (by decide) ?_
          refine v_icmp_ne (tgt := 67) hB dX11_taken_58 rfl ?_ ?_
          · exact V.sub [2, 4] rfl (hn67 (rI h 3 p1.toNatClampNeg) h)
          · refine v_iload hB 4 dX11_taken_61 rfl ?_
            refine v_iconst hB 4 dX11_taken_63 (by decide) ?_
            refine v_icmp_eq (tgt := 78) hB dX11_taken_64 rfl ?_ ?_
            · exact V.sub [4] rfl (hn78 (rI h 3 p1.toNatClampNeg) h)
            · exact V.sub [2, 4] rfl (hn67 (rI h 3 p1.toNatClampNeg) h)
    · refine v_aload_n hB 0 dX11_taken_32 rfl rfl ?_
      refine v_iload_n hB 3 dX11_taken_33 rfl rfl ?_
      refine v_bWi (fun r34 h34 e34 => v_callV hB hK hR.rm [.int s0] [] (oM_0 g) lb_X11_no lv_X11_8 (c_X11_no g hK.A X.1.2.1 s0 h e34) dX11_taken_34 rfl rfl (Nat.le_of_ble_eq_true rfl) (by decide) (by decide)) (fun r34 h34 => ?_)
      exact v_retWi (x := r34) hB hK hR dX11_taken_37
  unfold f_X11_taken
  refine v_aload_n hB 0 dX11_taken_0 rfl rfl ?_
  refine v_iload_n hB 1 dX11_taken_1 rfl rfl ?_
  refine v_bT (v_callV hB hK hR.rm [.int p1] [] (oM_0 g) lb_X11_isForm lv_X11_143 (c_X11_isForm g hK.A X.1.2.1 p1 h) dX11_taken_2 rfl rfl (Nat.le_of_ble_eq_true rfl) (by decide) (by decide)) ?_
  refine v_ifz_ne (r := f_X11_isForm p1 h) (tgt := 12) hB dX11_taken_5 rfl ?_ ?_
  · refine v_iload_n hB 2 dX11_taken_12 rfl rfl ?_
    refine v_iconst hB 0 dX11_taken_13 (by decide) ?_
    refine v_iconst hB 5 dX11_taken_14 (by decide) ?_
    refine v_bT (v_callS hB hK hR.rm [.int p2, .int 0, .int 5] [] lb_X11_isIn lv_X11_98 (c_X11_isIn g hK.A X.1.2.1 p2 0 5 h) dX11_taken_15 rfl rfl (Nat.le_of_ble_eq_true rfl) (by decide) (by decide)) ?_
    refine v_ifz_ne (r := f_X11_isIn p2 0 5) (tgt := 26) hB dX11_taken_18 rfl ?_ ?_
    · refine v_iconst hB 0 dX11_taken_26 (by decide) ?_
      exact V.sub [0, 1, 2] rfl (hn27 0 h)
    · refine v_bipush hB (-2) dX11_taken_21 (by decide) ?_
      refine v_goto (tgt := 27) hB dX11_taken_23 rfl ?_
      exact V.sub [0, 1, 2] rfl (hn27 (-2) h)
  · refine v_iconst hB (-1) dX11_taken_8 (by decide) ?_
    refine v_goto (tgt := 27) hB dX11_taken_9 rfl ?_
    exact V.sub [0, 1, 2] rfl (hn27 (-1) h)

def f_X11_coefficient_j17 (h : pq_H) : Option (Int32 × pq_H) :=
  bd2 (f_X11_far (-1) h) fun r19 h19 => some (r19, h19)
def f_X11_coefficient (p1 : Int32) (p2 : Int32) (h : pq_H) : Option (Int32 × pq_H) :=
  if (f_X11_isForm p1 h) = true then ((f_X11_isTerm p1 p2 h).bind fun r11 => if r11 = true then ((f_X11_coefficientOf p1 p2 h).bind fun r28 => some (r28, h)) else (f_X11_coefficient_j17 h)) else (f_X11_coefficient_j17 h)
set_option maxRecDepth 100000 in
set_option maxHeartbeats 4000000 in
theorem c_X11_coefficient (g : pq_g) {A : Nat → Prop} (hA : pq_A (SM g) A) (l : Launch) (p1 : Int32) (p2 : Int32) (h : pq_H) {rr : Int32} {hh : pq_H} (e : f_X11_coefficient p1 p2 h = some (rr, hh)) : pq_M (SM g) A l yX11_coefficient cX11_coefficient 3 (some .int) 3 71 [.ref ((SM g).1.2.1 0), .int p1, .int p2] h (some (.int rr)) hh := by
  refine pq_met hA l (own := RX11) 3 71 _ [(0, .ref ((SM g).1.2.1 0)), (1, .int p1), (2, .int p2)] h _ hh (by decide +kernel) rfl (Nat.le_of_ble_eq_true rfl) rfl (fun X hXl hXA hB hK hR => ?_)
  refine V.cast (F' := f_X11_coefficient p1 p2 h) (res' := (rr, hh)) (fun _ => e) ?_
  have hn17 : ∀ (h : pq_H), V X (SM g) (rr, hh) 3 17 [(0, .ref ((SM g).1.2.1 0))] [] h (f_X11_coefficient_j17 h) := by
    intro h
    unfold f_X11_coefficient_j17
    refine v_aload_n hB 0 dX11_coefficient_17 rfl rfl ?_
    refine v_iconst hB (-1) dX11_coefficient_18 (by decide) ?_
    refine v_bWi (fun r19 h19 e19 => v_callV hB hK hR.rm [.int (-1)] [] (oM_0 g) lb_X11_far lv_X11_217 (c_X11_far g hK.A X.1.2.1 (-1) h e19) dX11_coefficient_19 rfl rfl (Nat.le_of_ble_eq_true rfl) (by decide) (by decide)) (fun r19 h19 => ?_)
    refine v_goto (tgt := 31) hB dX11_coefficient_22 rfl ?_
    exact v_retWi (x := r19) hB hK hR dX11_coefficient_31
  unfold f_X11_coefficient
  refine v_aload_n hB 0 dX11_coefficient_0 rfl rfl ?_
  refine v_iload_n hB 1 dX11_coefficient_1 rfl rfl ?_
  refine v_bT (v_callV hB hK hR.rm [.int p1] [] (oM_0 g) lb_X11_isForm lv_X11_143 (c_X11_isForm g hK.A X.1.2.1 p1 h) dX11_coefficient_2 rfl rfl (Nat.le_of_ble_eq_true rfl) (by decide) (by decide)) ?_
  refine v_ifz_eq (r := f_X11_isForm p1 h) (tgt := 17) hB dX11_coefficient_5 rfl ?_ ?_
  · exact V.sub [0] rfl (hn17 h)
  · refine v_aload_n hB 0 dX11_coefficient_8 rfl rfl ?_
    refine v_iload_n hB 1 dX11_coefficient_9 rfl rfl ?_
    refine v_iload_n hB 2 dX11_coefficient_10 rfl rfl ?_
    refine v_bRz (fun r11 e11 => v_callV hB hK hR.rm [.int p1, .int p2] [] (oM_0 g) lb_X11_isTerm lv_X11_111 (c_X11_isTerm g hK.A X.1.2.1 p1 p2 h e11) dX11_coefficient_11 rfl rfl (Nat.le_of_ble_eq_true rfl) (by decide) (by decide)) (fun r11 => ?_)
    refine v_ifz_ne (r := r11) (tgt := 25) hB dX11_coefficient_14 rfl ?_ ?_
    · refine v_aload_n hB 0 dX11_coefficient_25 rfl rfl ?_
      refine v_iload_n hB 1 dX11_coefficient_26 rfl rfl ?_
      refine v_iload_n hB 2 dX11_coefficient_27 rfl rfl ?_
      refine v_bRi (fun r28 e28 => v_callV hB hK hR.rm [.int p1, .int p2] [] (oM_0 g) lb_X11_coefficientOf lv_X11_115 (c_X11_coefficientOf g hK.A X.1.2.1 p1 p2 h e28) dX11_coefficient_28 rfl rfl (Nat.le_of_ble_eq_true rfl) (by decide) (by decide)) (fun r28 => ?_)
      exact v_retWi (x := r28) hB hK hR dX11_coefficient_31
    · exact V.sub [0] rfl (hn17 h)

def f_X11_power_l5 (p0 : Int32) (p1 : Int32) (w5 : Int64 → Int32 → Option Int64) (v2 : Int64) (v4 : Int32) : Option Int64 :=
  if p1 ≤ v4 then (some v2) else (w5 (v2 * p0.toInt64) (v4 + 1))
def f_X11_power (p0 : Int32) (p1 : Int32) : Option Int64 :=
  lp (fun _ _ => none) (f_X11_power_l5 p0 p1) 1000 1 0
set_option maxRecDepth 100000 in
set_option maxHeartbeats 4000000 in
theorem c_X11_power (g : pq_g) {A : Nat → Prop} (hA : pq_A (SM g) A) (l : Launch) (p0 : Int32) (p1 : Int32) (h : pq_H) {rr : Int64} (e : f_X11_power p0 p1 = some rr) : pq_M (SM g) A l yX11_power cX11_power 5 (some .long) 0 0 [.int p0, .int p1] h (some (.long rr)) h := by
  refine pq_met hA l (own := RX11) 0 0 _ [(0, .int p0), (1, .int p1)] h _ h (by decide +kernel) rfl (Nat.le_of_ble_eq_true rfl) rfl (fun X hXl hXA hB hK hR => ?_)
  refine V.cast (F' := f_X11_power p0 p1) (res' := rr) (fun _ => e) ?_
  have hn5 : ∀ (n : Nat), ∀ (v2 : Int64) (v4 : Int32), V X (SM g) rr 5 5 [(0, .int p0), (1, .int p1), (2, .long v2), (4, .int v4)] [] h (lp (fun _ _ => none) (f_X11_power_l5 p0 p1) n v2 v4) := by
    refine lp_ind (fun (w5 : Int64 → Int32 → Option Int64) => ∀ (v2 : Int64) (v4 : Int32), V X (SM g) rr 5 5 [(0, .int p0), (1, .int p1), (2, .long v2), (4, .int v4)] [] h (w5 v2 v4)) (fun _ _ => V.none _ _ _ _) (fun w5 ih5 => ?_)
    intro v2 v4
    unfold f_X11_power_l5
    refine v_iload hB 3 dX11_power_5 rfl ?_
    refine v_iload_n hB 1 dX11_power_7 rfl rfl ?_
    refine v_icmp_ge (tgt := 22) hB dX11_power_8 rfl ?_ ?_
    · refine v_lload_n hB 2 dX11_power_22 rfl rfl ?_
      exact v_retRj (x := v2) hB hK hR dX11_power_23
    · refine v_lload_n hB 2 dX11_power_11 rfl rfl ?_
      refine v_iload_n hB 0 dX11_power_12 rfl rfl ?_
      refine v_i2l hB dX11_power_13 ?_
      refine v_lmul hB dX11_power_14 ?_
      refine v_lstore_n hB [(0, .int p0), (1, .int p1), (2, .long (v2 * p0.toInt64)), (4, .int v4)] [1, 2, 0, 3] dX11_power_15 rfl (by decide) rfl ?_
      refine v_iinc hB (v4 + 1) [(0, .int p0), (1, .int p1), (2, .long (v2 * p0.toInt64)), (4, .int (v4 + 1))] 3 [1, 2, 3, 0] dX11_power_16 rfl rfl (by decide) rfl ?_
      refine v_goto (tgt := 5) hB dX11_power_19 rfl ?_
      exact V.sub [0, 1, 2, 3] rfl (ih5 (v2 * p0.toInt64) (v4 + 1))
  unfold f_X11_power
  refine v_lconst hB 1 dX11_power_0 (by decide) ?_
  refine v_lstore_n hB [(0, .int p0), (1, .int p1), (2, .long 1)] [1, 2, 0] dX11_power_1 rfl (by decide) rfl ?_
  refine v_iconst hB 0 dX11_power_2 (by decide) ?_
  refine v_istore hB [(0, .int p0), (1, .int p1), (2, .long 1), (4, .int 0)] [1, 2, 3, 0] dX11_power_3 (by decide) rfl ?_
  exact V.sub [0, 1, 2, 3] rfl (hn5 1000 1 0)

def f_X11_valueAt_l14 (p1 : Int32) (p2 : Int32) (p3 : Int32) (p4 : Int32) (h : pq_H) (v7 : Int32) (w14 : Int64 → Int32 → Option Int64) (v5 : Int64) (v8 : Int32) : Option Int64 :=
  (f_X11_isTerm p1 v8 h).bind fun r18 => if r18 = true then ((f_X11_coefficientOf p1 v8 h).bind fun r30 => (f_X11_powerIn v7 v8 0).bind fun r40 => (f_X11_power p2 r40).bind fun r43 => (f_X11_powerIn v7 v8 1).bind fun r53 => (f_X11_power p3 r53).bind fun r56 => (f_X11_powerIn v7 v8 2).bind fun r67 => (f_X11_power p4 r67).bind fun r70 => w14 (v5 + (((r30.toInt64 * r43) * r56) * r70)) (v8 + 1)) else (some v5)
def f_X11_valueAt (p1 : Int32) (p2 : Int32) (p3 : Int32) (p4 : Int32) (h : pq_H) : Option Int64 :=
  gd (inb p1 6) (lp (fun _ _ => none) (f_X11_valueAt_l14 p1 p2 p3 p4 h (rI h 5 p1.toNatClampNeg)) 1000 0 0)
set_option maxRecDepth 100000 in
set_option maxHeartbeats 4000000 in
theorem c_X11_valueAt (g : pq_g) {A : Nat → Prop} (hA : pq_A (SM g) A) (l : Launch) (p1 : Int32) (p2 : Int32) (p3 : Int32) (p4 : Int32) (h : pq_H) {rr : Int64} (e : f_X11_valueAt p1 p2 p3 p4 h = some rr) : pq_M (SM g) A l yX11_valueAt cX11_valueAt 9 (some .long) 3 71 [.ref ((SM g).1.2.1 0), .int p1, .int p2, .int p3, .int p4] h (some (.long rr)) h := by
  refine pq_met hA l (own := RX11) 3 71 _ [(0, .ref ((SM g).1.2.1 0)), (1, .int p1), (2, .int p2), (3, .int p3), (4, .int p4)] h _ h (by decide +kernel) rfl (Nat.le_of_ble_eq_true rfl) rfl (fun X hXl hXA hB hK hR => ?_)
  refine V.cast (F' := f_X11_valueAt p1 p2 p3 p4 h) (res' := rr) (fun _ => e) ?_
  have hn14 : ∀ (v7 : Int32) (n : Nat), ∀ (v5 : Int64) (v8 : Int32), V X (SM g) rr 9 14 [(0, .ref ((SM g).1.2.1 0)), (1, .int p1), (2, .int p2), (3, .int p3), (4, .int p4), (5, .long v5), (7, .int v7), (8, .int v8)] [] h (lp (fun _ _ => none) (f_X11_valueAt_l14 p1 p2 p3 p4 h v7) n v5 v8) := by
    intro v7
    refine lp_ind (fun (w14 : Int64 → Int32 → Option Int64) => ∀ (v5 : Int64) (v8 : Int32), V X (SM g) rr 9 14 [(0, .ref ((SM g).1.2.1 0)), (1, .int p1), (2, .int p2), (3, .int p3), (4, .int p4), (5, .long v5), (7, .int v7), (8, .int v8)] [] h (w14 v5 v8)) (fun _ _ => V.none _ _ _ _) (fun w14 ih14 => ?_)
    intro v5 v8
    unfold f_X11_valueAt_l14
    refine v_aload_n hB 0 dX11_valueAt_14 rfl rfl ?_
    refine v_iload_n hB 1 dX11_valueAt_15 rfl rfl ?_
    refine v_iload hB 7 dX11_valueAt_16 rfl ?_
    refine v_bRz (fun r18 e18 => v_callV hB hK hR.rm [.int p1, .int v8] [] (oM_0 g) lb_X11_isTerm lv_X11_111 (c_X11_isTerm g hK.A X.1.2.1 p1 v8 h e18) dX11_valueAt_18 rfl rfl (Nat.le_of_ble_eq_true rfl) (by decide) (by decide)) (fun r18 => ?_)
    refine v_ifz_eq (r := r18) (tgt := 83) hB dX11_valueAt_21 rfl ?_ ?_
    · refine v_lload hB 5 dX11_valueAt_83 rfl ?_
      exact v_retRj (x := v5) hB hK hR dX11_valueAt_85
    · refine v_lload hB 5 dX11_valueAt_24 rfl ?_
      refine v_aload_n hB 0 dX11_valueAt_26 rfl rfl ?_
      refine v_iload_n hB 1 dX11_valueAt_27 rfl rfl ?_
      refine v_iload hB 7 dX11_valueAt_28 rfl ?_
      refine v_bRi (fun r30 e30 => v_callV hB hK hR.rm [.int p1, .int v8] [.long v5] (oM_0 g) lb_X11_coefficientOf lv_X11_115 (c_X11_coefficientOf g hK.A X.1.2.1 p1 v8 h e30) dX11_valueAt_30 rfl rfl (Nat.le_of_ble_eq_true rfl) (by decide) (by decide)) (fun r30 => ?_)
      refine v_i2l hB dX11_valueAt_33 ?_
      refine v_iload_n hB 2 dX11_valueAt_34 rfl rfl ?_
      refine v_iload hB 6 dX11_valueAt_35 rfl ?_
      refine v_iload hB 7 dX11_valueAt_37 rfl ?_
      refine v_iconst hB 0 dX11_valueAt_39 (by decide) ?_
      refine v_bRi (fun r40 e40 => v_callS hB hK hR.rm [.int v7, .int v8, .int 0] [.int p2, .long r30.toInt64, .long v5] lb_X11_powerIn lv_X11_17 (c_X11_powerIn g hK.A X.1.2.1 v7 v8 0 h e40) dX11_valueAt_40 rfl rfl (Nat.le_of_ble_eq_true rfl) (by decide) (by decide)) (fun r40 => ?_)
      refine v_bRj (fun r43 e43 => v_callS hB hK hR.rm [.int p2, .int r40] [.long r30.toInt64, .long v5] lb_X11_power lv_X11_227 (c_X11_power g hK.A X.1.2.1 p2 r40 h e43) dX11_valueAt_43 rfl rfl (Nat.le_of_ble_eq_true rfl) (by decide) (by decide)) (fun r43 => ?_)
      refine v_lmul hB dX11_valueAt_46 ?_
      refine v_iload_n hB 3 dX11_valueAt_47 rfl rfl ?_
      refine v_iload hB 6 dX11_valueAt_48 rfl ?_
      refine v_iload hB 7 dX11_valueAt_50 rfl ?_
      refine v_iconst hB 1 dX11_valueAt_52 (by decide) ?_
      refine v_bRi (fun r53 e53 => v_callS hB hK hR.rm [.int v7, .int v8, .int 1] [.int p3, .long (r30.toInt64 * r43), .long v5] lb_X11_powerIn lv_X11_17 (c_X11_powerIn g hK.A X.1.2.1 v7 v8 1 h e53) dX11_valueAt_53 rfl rfl (Nat.le_of_ble_eq_true rfl) (by decide) (by decide)) (fun r53 => ?_)
      refine v_bRj (fun r56 e56 => v_callS hB hK hR.rm [.int p3, .int r53] [.long (r30.toInt64 * r43), .long v5] lb_X11_power lv_X11_227 (c_X11_power g hK.A X.1.2.1 p3 r53 h e56) dX11_valueAt_56 rfl rfl (Nat.le_of_ble_eq_true rfl) (by decide) (by decide)) (fun r56 => ?_)
      refine v_lmul hB dX11_valueAt_59 ?_
      refine v_iload hB 4 dX11_valueAt_60 rfl ?_
      refine v_iload hB 6 dX11_valueAt_62 rfl ?_
      refine v_iload hB 7 dX11_valueAt_64 rfl ?_
      refine v_iconst hB 2 dX11_valueAt_66 (by decide) ?_
      refine v_bRi (fun r67 e67 => v_callS hB hK hR.rm [.int v7, .int v8, .int 2] [.int p4, .long ((r30.toInt64 * r43) * r56), .long v5] lb_X11_powerIn lv_X11_17 (c_X11_powerIn g hK.A X.1.2.1 v7 v8 2 h e67) dX11_valueAt_67 rfl rfl (Nat.le_of_ble_eq_true rfl) (by decide) (by decide)) (fun r67 => ?_)
      refine v_bRj (fun r70 e70 => v_callS hB hK hR.rm [.int p4, .int r67] [.long ((r30.toInt64 * r43) * r56), .long v5] lb_X11_power lv_X11_227 (c_X11_power g hK.A X.1.2.1 p4 r67 h e70) dX11_valueAt_70 rfl rfl (Nat.le_of_ble_eq_true rfl) (by decide) (by decide)) (fun r70 => ?_)
      refine v_lmul hB dX11_valueAt_73 ?_
      refine v_ladd hB dX11_valueAt_74 ?_
      refine v_lstore hB [(0, .ref ((SM g).1.2.1 0)), (1, .int p1), (2, .int p2), (3, .int p3), (4, .int p4), (5, .long (v5 + (((r30.toInt64 * r43) * r56) * r70))), (7, .int v7), (8, .int v8)] [1, 2, 3, 4, 5, 0, 6, 7] dX11_valueAt_75 (by decide) rfl ?_
      refine v_iinc hB (v8 + 1) [(0, .ref ((SM g).1.2.1 0)), (1, .int p1), (2, .int p2), (3, .int p3), (4, .int p4), (5, .long (v5 + (((r30.toInt64 * r43) * r56) * r70))), (7, .int v7), (8, .int (v8 + 1))] 7 [1, 2, 3, 4, 5, 6, 7, 0] dX11_valueAt_77 rfl rfl (by decide) rfl ?_
      refine v_goto (tgt := 14) hB dX11_valueAt_80 rfl ?_
      exact V.sub [0, 1, 2, 3, 4, 5, 6, 7] rfl (ih14 (v5 + (((r30.toInt64 * r43) * r56) * r70)) (v8 + 1))
  unfold f_X11_valueAt
  refine v_lconst hB 0 dX11_valueAt_0 (by decide) ?_
  refine v_lstore hB [(0, .ref ((SM g).1.2.1 0)), (1, .int p1), (2, .int p2), (3, .int p3), (4, .int p4), (5, .long 0)] [1, 2, 3, 4, 5, 0] dX11_valueAt_1 (by decide) rfl ?_
  refine v_aload_n hB 0 dX11_valueAt_3 rfl rfl ?_
  refine v_getA hB hK (fl_X11_36 g) (cMA_0_4 g) dX11_valueAt_4 ?_
  refine v_iload_n hB 1 dX11_valueAt_7 rfl rfl ?_
  refine v_iald hB hK (aMI_5 g) dX11_valueAt_8 ?_
  refine v_istore hB [(0, .ref ((SM g).1.2.1 0)), (1, .int p1), (2, .int p2), (3, .int p3), (4, .int p4), (5, .long 0), (7, .int (rI h 5 p1.toNatClampNeg))] [1, 2, 3, 4, 5, 6, 0] dX11_valueAt_9 (by decide) rfl ?_
  refine v_iconst hB 0 dX11_valueAt_11 (by decide) ?_
  refine v_istore hB [(0, .ref ((SM g).1.2.1 0)), (1, .int p1), (2, .int p2), (3, .int p3), (4, .int p4), (5, .long 0), (7, .int (rI h 5 p1.toNatClampNeg)), (8, .int 0)] [1, 2, 3, 4, 5, 6, 7, 0] dX11_valueAt_12 (by decide) rfl ?_
  exact V.sub [0, 1, 2, 3, 4, 5, 6, 7] rfl (hn14 (rI h 5 p1.toNatClampNeg) 1000 0 0)

def f_X11_value_j55 (p1 : Int32) (p2 : Int32) (p3 : Int32) (p4 : Int32) (s0 : Int32) (h : pq_H) : Option (Int64 × pq_H) :=
  if s0 = 0 then ((f_X11_valueAt p1 p2 p3 p4 h).bind fun r77 => some (r77, h)) else (bd2 (f_X11_lower s0 h) fun r65 h65 => some (r65, h65))
def f_X11_value_j25 (p1 : Int32) (p2 : Int32) (p3 : Int32) (p4 : Int32) (h : pq_H) : Option (Int64 × pq_H) :=
  f_X11_value_j55 p1 p2 p3 p4 (-4) h
def f_X11_value_j49 (p1 : Int32) (p2 : Int32) (p3 : Int32) (p4 : Int32) (h : pq_H) : Option (Int64 × pq_H) :=
  f_X11_value_j55 p1 p2 p3 p4 (-6) h
def f_X11_value (p1 : Int32) (p2 : Int32) (p3 : Int32) (p4 : Int32) (h : pq_H) : Option (Int64 × pq_H) :=
  if (f_X11_isForm p1 h) = true then (if p2 < 0 then (f_X11_value_j25 p1 p2 p3 p4 h) else (if p3 < 0 then (f_X11_value_j25 p1 p2 p3 p4 h) else (if 0 ≤ p4 then (if 12 < p2 then (f_X11_value_j49 p1 p2 p3 p4 h) else (if 12 < p3 then (f_X11_value_j49 p1 p2 p3 p4 h) else (if p4 ≤ 12 then (f_X11_value_j55 p1 p2 p3 p4 0 h) else (f_X11_value_j49 p1 p2 p3 p4 h)))) else (f_X11_value_j25 p1 p2 p3 p4 h)))) else (f_X11_value_j55 p1 p2 p3 p4 (-1) h)
set_option maxRecDepth 100000 in
set_option maxHeartbeats 4000000 in
theorem c_X11_value (g : pq_g) {A : Nat → Prop} (hA : pq_A (SM g) A) (l : Launch) (p1 : Int32) (p2 : Int32) (p3 : Int32) (p4 : Int32) (h : pq_H) {rr : Int64} {hh : pq_H} (e : f_X11_value p1 p2 p3 p4 h = some (rr, hh)) : pq_M (SM g) A l yX11_value cX11_value 6 (some .long) 4 99 [.ref ((SM g).1.2.1 0), .int p1, .int p2, .int p3, .int p4] h (some (.long rr)) hh := by
  refine pq_met hA l (own := RX11) 4 99 _ [(0, .ref ((SM g).1.2.1 0)), (1, .int p1), (2, .int p2), (3, .int p3), (4, .int p4)] h _ hh (by decide +kernel) rfl (Nat.le_of_ble_eq_true rfl) rfl (fun X hXl hXA hB hK hR => ?_)
  refine V.cast (F' := f_X11_value p1 p2 p3 p4 h) (res' := (rr, hh)) (fun _ => e) ?_
  have hn55 : ∀ (s0 : Int32) (h : pq_H), V X (SM g) (rr, hh) 6 55 [(0, .ref ((SM g).1.2.1 0)), (1, .int p1), (2, .int p2), (3, .int p3), (4, .int p4)] [.int s0] h (f_X11_value_j55 p1 p2 p3 p4 s0 h) := by
    intro s0 h
    unfold f_X11_value_j55
    refine v_istore hB [(0, .ref ((SM g).1.2.1 0)), (1, .int p1), (2, .int p2), (3, .int p3), (4, .int p4), (5, .int s0)] [1, 2, 3, 4, 5, 0] dX11_value_55 (by decide) rfl ?_
    refine v_iload hB 5 dX11_value_57 rfl ?_
    refine v_if_eq (tgt := 71) hB dX11_value_59 rfl ?_ ?_
    · refine v_aload_n hB 0 dX11_value_71 rfl rfl ?_
      refine v_iload_n hB 1 dX11_value_72 rfl rfl ?_
      refine v_iload_n hB 2 dX11_value_73 rfl rfl ?_
      refine v_iload_n hB 3 dX11_value_74 rfl rfl ?_
      refine v_iload hB 4 dX11_value_75 rfl ?_
      refine v_bRj (fun r77 e77 => v_callV hB hK hR.rm [.int p1, .int p2, .int p3, .int p4] [] (oM_0 g) lb_X11_valueAt lv_X11_235 (c_X11_valueAt g hK.A X.1.2.1 p1 p2 p3 p4 h e77) dX11_value_77 rfl rfl (Nat.le_of_ble_eq_true rfl) (by decide) (by decide)) (fun r77 => ?_)
      exact v_retWj (x := r77) hB hK hR dX11_value_80
    · refine v_aload_n hB 0 dX11_value_62 rfl rfl ?_
      refine v_iload hB 5 dX11_value_63 rfl ?_
      refine v_bWj (fun r65 h65 e65 => v_callV hB hK hR.rm [.int s0] [] (oM_0 g) lb_X11_lower lv_X11_231 (c_X11_lower g hK.A X.1.2.1 s0 h e65) dX11_value_65 rfl rfl (Nat.le_of_ble_eq_true rfl) (by decide) (by decide)) (fun r65 h65 => ?_)
      refine v_goto (tgt := 80) hB dX11_value_68 rfl ?_
      exact v_retWj (x := r65) hB hK hR dX11_value_80
  have hn25 : ∀ (h : pq_H), V X (SM g) (rr, hh) 6 25 [(0, .ref ((SM g).1.2.1 0)), (1, .int p1), (2, .int p2), (3, .int p3), (4, .int p4)] [] h (f_X11_value_j25 p1 p2 p3 p4 h) := by
    intro h
    unfold f_X11_value_j25
    refine v_bipush hB (-4) dX11_value_25 (by decide) ?_
    refine v_goto (tgt := 55) hB dX11_value_27 rfl ?_
    exact V.sub [0, 1, 2, 3, 4] rfl (hn55 (-4) h)
  have hn49 : ∀ (h : pq_H), V X (SM g) (rr, hh) 6 49 [(0, .ref ((SM g).1.2.1 0)), (1, .int p1), (2, .int p2), (3, .int p3), (4, .int p4)] [] h (f_X11_value_j49 p1 p2 p3 p4 h) := by
    intro h
    unfold f_X11_value_j49
    refine v_bipush hB (-6) dX11_value_49 (by decide) ?_
    refine v_goto (tgt := 55) hB dX11_value_51 rfl ?_
    exact V.sub [0, 1, 2, 3, 4] rfl (hn55 (-6) h)
  unfold f_X11_value
  refine v_aload_n hB 0 dX11_value_0 rfl rfl ?_
  refine v_iload_n hB 1 dX11_value_1 rfl rfl ?_
  refine v_bT (v_callV hB hK hR.rm [.int p1] [] (oM_0 g) lb_X11_isForm lv_X11_143 (c_X11_isForm g hK.A X.1.2.1 p1 h) dX11_value_2 rfl rfl (Nat.le_of_ble_eq_true rfl) (by decide) (by decide)) ?_
  refine v_ifz_ne (r := f_X11_isForm p1 h) (tgt := 12) hB dX11_value_5 rfl ?_ ?_
  · refine v_iload_n hB 2 dX11_value_12 rfl rfl ?_
    refine v_if_lt (tgt := 25) hB dX11_value_13 rfl ?_ ?_
    · exact V.sub [0, 1, 2, 3, 4] rfl (hn25 h)
    · refine v_iload_n hB 3 dX11_value_16 rfl rfl ?_
      refine v_if_lt (tgt := 25) hB dX11_value_17 rfl ?_ ?_
      · exact V.sub [0, 1, 2, 3, 4] rfl (hn25 h)
      · refine v_iload hB 4 dX11_value_20 rfl ?_
        refine v_if_ge (tgt := 30) hB dX11_value_22 rfl ?_ ?_
        · refine v_iload_n hB 2 dX11_value_30 rfl rfl ?_
          refine v_bipush hB 12 dX11_value_31 (by decide) ?_
          refine v_icmp_gt (tgt := 49) hB dX11_value_33 rfl ?_ ?_
          · exact V.sub [0, 1, 2, 3, 4] rfl (hn49 h)
          · refine v_iload_n hB 3 dX11_value_36 rfl rfl ?_
            refine v_bipush hB 12 dX11_value_37 (by decide) ?_
            refine v_icmp_gt (tgt := 49) hB dX11_value_39 rfl ?_ ?_
            · exact V.sub [0, 1, 2, 3, 4] rfl (hn49 h)
            · refine v_iload hB 4 dX11_value_42 rfl ?_
              refine v_bipush hB 12 dX11_value_44 (by decide) ?_
              refine v_icmp_le (tgt := 54) hB dX11_value_46 rfl ?_ ?_
              · refine v_iconst hB 0 dX11_value_54 (by decide) ?_
                exact V.sub [0, 1, 2, 3, 4] rfl (hn55 0 h)
              · exact V.sub [0, 1, 2, 3, 4] rfl (hn49 h)
        · exact V.sub [0, 1, 2, 3, 4] rfl (hn25 h)
  · refine v_iconst hB (-1) dX11_value_8 (by decide) ?_
    refine v_goto (tgt := 55) hB dX11_value_9 rfl ?_
    exact V.sub [0, 1, 2, 3, 4] rfl (hn55 (-1) h)

def f_X11_firstFault_j69 (w5 : Int32 → Int32 → Option Int32) (v3 : Int32) (v4 : Int32) : Option Int32 :=
  w5 v3 (v4 + 1)
def f_X11_firstFault_j66 (w5 : Int32 → Int32 → Option Int32) (v3 : Int32) (v4 : Int32) : Option Int32 :=
  f_X11_firstFault_j69 w5 (v3 + 1) v4
def f_X11_firstFault_l5 (p1 : Int32) (p2 : Int32) (h : pq_H) (w5 : Int32 → Int32 → Option Int32) (v3 : Int32) (v4 : Int32) : Option Int32 :=
  if (f_X11_termsOf (rI h 0 21)) ≤ v4 then (some (-9)) else ((f_X11_isOn (rI h 0 21) v4 p1).bind fun r24 => if r24 = true then (if p2 = 0 then (gd (inb v4 190) (if 0 ≤ (rJ h 15 v4.toNatClampNeg) then (f_X11_firstFault_j66 w5 v3 v4) else (some v3))) else (gd (inb v4 190) (if 0 < (rJ h 15 v4.toNatClampNeg) then (f_X11_firstFault_j66 w5 v3 v4) else (some v3)))) else (f_X11_firstFault_j69 w5 v3 v4))
def f_X11_firstFault (p1 : Int32) (p2 : Int32) (h : pq_H) : Option Int32 :=
  lp (fun _ _ => none) (f_X11_firstFault_l5 p1 p2 h) 1000 0 0
set_option maxRecDepth 100000 in
set_option maxHeartbeats 4000000 in
theorem c_X11_firstFault (g : pq_g) {A : Nat → Prop} (hA : pq_A (SM g) A) (l : Launch) (p1 : Int32) (p2 : Int32) (h : pq_H) {rr : Int32} (e : f_X11_firstFault p1 p2 h = some rr) : pq_M (SM g) A l yX11_firstFault cX11_firstFault 5 (some .int) 3 69 [.ref ((SM g).1.2.1 0), .int p1, .int p2] h (some (.int rr)) h := by
  refine pq_met hA l (own := RX11) 3 69 _ [(0, .ref ((SM g).1.2.1 0)), (1, .int p1), (2, .int p2)] h _ h (by decide +kernel) rfl (Nat.le_of_ble_eq_true rfl) rfl (fun X hXl hXA hB hK hR => ?_)
  refine V.cast (F' := f_X11_firstFault p1 p2 h) (res' := rr) (fun _ => e) ?_
  have hn5 : ∀ (n : Nat), ∀ (v3 : Int32) (v4 : Int32), V X (SM g) rr 5 5 [(0, .ref ((SM g).1.2.1 0)), (1, .int p1), (2, .int p2), (3, .int v3), (4, .int v4)] [] h (lp (fun _ _ => none) (f_X11_firstFault_l5 p1 p2 h) n v3 v4) := by
    refine lp_ind (fun (w5 : Int32 → Int32 → Option Int32) => ∀ (v3 : Int32) (v4 : Int32), V X (SM g) rr 5 5 [(0, .ref ((SM g).1.2.1 0)), (1, .int p1), (2, .int p2), (3, .int v3), (4, .int v4)] [] h (w5 v3 v4)) (fun _ _ => V.none _ _ _ _) (fun w5 ih5 => ?_)
    have hn69 : ∀ (v3 : Int32) (v4 : Int32), V X (SM g) rr 5 69 [(0, .ref ((SM g).1.2.1 0)), (1, .int p1), (2, .int p2), (3, .int v3), (4, .int v4)] [] h (f_X11_firstFault_j69 w5 v3 v4) := by
      intro v3 v4
      unfold f_X11_firstFault_j69
      refine v_iinc hB (v4 + 1) [(0, .ref ((SM g).1.2.1 0)), (1, .int p1), (2, .int p2), (3, .int v3), (4, .int (v4 + 1))] 4 [1, 2, 3, 4, 0] dX11_firstFault_69 rfl rfl (by decide) rfl ?_
      refine v_goto (tgt := 5) hB dX11_firstFault_72 rfl ?_
      exact V.sub [0, 1, 2, 3, 4] rfl (ih5 v3 (v4 + 1))
    have hn66 : ∀ (v3 : Int32) (v4 : Int32), V X (SM g) rr 5 66 [(0, .ref ((SM g).1.2.1 0)), (1, .int p1), (2, .int p2), (3, .int v3), (4, .int v4)] [] h (f_X11_firstFault_j66 w5 v3 v4) := by
      intro v3 v4
      unfold f_X11_firstFault_j66
      refine v_iinc hB (v3 + 1) [(0, .ref ((SM g).1.2.1 0)), (1, .int p1), (2, .int p2), (3, .int (v3 + 1)), (4, .int v4)] 3 [1, 2, 3, 0, 4] dX11_firstFault_66 rfl rfl (by decide) rfl ?_
      exact V.sub [0, 1, 2, 3, 4] rfl (hn69 (v3 + 1) v4)
    intro v3 v4
    unfold f_X11_firstFault_l5
    refine v_iload hB 4 dX11_firstFault_5 rfl ?_
    refine v_aload_n hB 0 dX11_firstFault_7 rfl rfl ?_
    refine v_getI hB hK (fl_X11_239 g) (cMI_0_21 g) dX11_firstFault_8 ?_
    refine v_bT (v_callS hB hK hR.rm [.int (rI h 0 21)] [.int v4] lb_X11_termsOf lv_X11_102 (c_X11_termsOf g hK.A X.1.2.1 (rI h 0 21) h) dX11_firstFault_11 rfl rfl (Nat.le_of_ble_eq_true rfl) (by decide) (by decide)) ?_
    refine v_icmp_ge (tgt := 75) hB dX11_firstFault_14 rfl ?_ ?_
    · refine v_bipush hB (-9) dX11_firstFault_75 (by decide) ?_
      exact v_retRi (x := (-9)) hB hK hR dX11_firstFault_77
    · refine v_aload_n hB 0 dX11_firstFault_17 rfl rfl ?_
      refine v_getI hB hK (fl_X11_239 g) (cMI_0_21 g) dX11_firstFault_18 ?_
      refine v_iload hB 4 dX11_firstFault_21 rfl ?_
      refine v_iload_n hB 1 dX11_firstFault_23 rfl rfl ?_
      refine v_bRz (fun r24 e24 => v_callS hB hK hR.rm [.int (rI h 0 21), .int v4, .int p1] [] lb_X11_isOn lv_X11_140 (c_X11_isOn g hK.A X.1.2.1 (rI h 0 21) v4 p1 h e24) dX11_firstFault_24 rfl rfl (Nat.le_of_ble_eq_true rfl) (by decide) (by decide)) (fun r24 => ?_)
      refine v_ifz_ne (r := r24) (tgt := 33) hB dX11_firstFault_27 rfl ?_ ?_
      · refine v_iload_n hB 2 dX11_firstFault_33 rfl rfl ?_
        refine v_if_ne (tgt := 52) hB dX11_firstFault_34 rfl ?_ ?_
        · refine v_aload_n hB 0 dX11_firstFault_52 rfl rfl ?_
          refine v_getA hB hK (fl_X11_67 g) (cMA_0_19 g) dX11_firstFault_53 ?_
          refine v_iload hB 4 dX11_firstFault_56 rfl ?_
          refine v_lald hB hK (aMJ_15 g) dX11_firstFault_58 ?_
          refine v_lconst hB 0 dX11_firstFault_59 (by decide) ?_
          refine v_lcmp_gt (tgt := 66) hB dX11_firstFault_60 dX11_firstFault_61 rfl ?_ ?_
          · exact V.sub [0, 1, 2, 3, 4] rfl (hn66 v3 v4)
          · refine v_iload_n hB 3 dX11_firstFault_64 rfl rfl ?_
            exact v_retRi (x := v3) hB hK hR dX11_firstFault_65
        · refine v_aload_n hB 0 dX11_firstFault_37 rfl rfl ?_
          refine v_getA hB hK (fl_X11_67 g) (cMA_0_19 g) dX11_firstFault_38 ?_
          refine v_iload hB 4 dX11_firstFault_41 rfl ?_
          refine v_lald hB hK (aMJ_15 g) dX11_firstFault_43 ?_
          refine v_lconst hB 0 dX11_firstFault_44 (by decide) ?_
          refine v_lcmp_ge (tgt := 66) hB dX11_firstFault_45 dX11_firstFault_46 rfl ?_ ?_
          · exact V.sub [0, 1, 2, 3, 4] rfl (hn66 v3 v4)
          · refine v_goto (tgt := 64) hB dX11_firstFault_49 rfl ?_
            refine v_iload_n hB 3 dX11_firstFault_64 rfl rfl ?_
            exact v_retRi (x := v3) hB hK hR dX11_firstFault_65
      · refine v_goto (tgt := 69) hB dX11_firstFault_30 rfl ?_
        exact V.sub [0, 1, 2, 3, 4] rfl (hn69 v3 v4)
  unfold f_X11_firstFault
  refine v_iconst hB 0 dX11_firstFault_0 (by decide) ?_
  refine v_istore_n hB [(0, .ref ((SM g).1.2.1 0)), (1, .int p1), (2, .int p2), (3, .int 0)] [1, 2, 3, 0] dX11_firstFault_1 rfl (by decide) rfl ?_
  refine v_iconst hB 0 dX11_firstFault_2 (by decide) ?_
  refine v_istore hB [(0, .ref ((SM g).1.2.1 0)), (1, .int p1), (2, .int p2), (3, .int 0), (4, .int 0)] [1, 2, 3, 4, 0] dX11_firstFault_3 (by decide) rfl ?_
  exact V.sub [0, 1, 2, 3, 4] rfl (hn5 1000 0 0)

def f_X11_notSide (p1 : Int32) (p2 : Int32) (h : pq_H) : Int32 :=
  if (f_X11_isForm p1 h) = true then (if (f_X11_isSide p2) = true then (0) else ((-1))) else ((-1))
set_option maxRecDepth 100000 in
set_option maxHeartbeats 4000000 in
theorem c_X11_notSide (g : pq_g) {A : Nat → Prop} (hA : pq_A (SM g) A) (l : Launch) (p1 : Int32) (p2 : Int32) (h : pq_H) : pq_M (SM g) A l yX11_notSide cX11_notSide 3 (some .int) 2 43 [.ref ((SM g).1.2.1 0), .int p1, .int p2] h (some (.int (f_X11_notSide p1 p2 h))) h := by
  refine pq_met hA l (own := RX11) 2 43 _ [(0, .ref ((SM g).1.2.1 0)), (1, .int p1), (2, .int p2)] h _ h (by decide +kernel) rfl (Nat.le_of_ble_eq_true rfl) rfl (fun X hXl hXA hB hK hR => ?_)
  refine V.cast (F' := some (f_X11_notSide p1 p2 h)) (res' := (f_X11_notSide p1 p2 h)) (fun _ => rfl) ?_
  unfold f_X11_notSide
  refine v_aload_n hB 0 dX11_notSide_0 rfl rfl ?_
  refine v_iload_n hB 1 dX11_notSide_1 rfl rfl ?_
  refine v_bT (v_callV hB hK hR.rm [.int p1] [] (oM_0 g) lb_X11_isForm lv_X11_143 (c_X11_isForm g hK.A X.1.2.1 p1 h) dX11_notSide_2 rfl rfl (Nat.le_of_ble_eq_true rfl) (by decide) (by decide)) ?_
  refine v_ifz_eqT (r := f_X11_isForm p1 h) (tgt := 19) hB dX11_notSide_5 rfl ?_ ?_
  · refine v_iconst hB (-1) dX11_notSide_19 (by decide) ?_
    exact v_retRi (x := (-1)) hB hK hR dX11_notSide_20
  · refine v_iload_n hB 2 dX11_notSide_8 rfl rfl ?_
    refine v_bT (v_callS hB hK hR.rm [.int p2] [] lb_X11_isSide lv_X11_163 (c_X11_isSide g hK.A X.1.2.1 p2 h) dX11_notSide_9 rfl rfl (Nat.le_of_ble_eq_true rfl) (by decide) (by decide)) ?_
    refine v_ifz_eqT (r := f_X11_isSide p2) (tgt := 19) hB dX11_notSide_12 rfl ?_ ?_
    · refine v_iconst hB (-1) dX11_notSide_19 (by decide) ?_
      exact v_retRi (x := (-1)) hB hK hR dX11_notSide_20
    · refine v_iconst hB 0 dX11_notSide_15 (by decide) ?_
      refine v_goto (tgt := 20) hB dX11_notSide_16 rfl ?_
      exact v_retRi (x := 0) hB hK hR dX11_notSide_20

def f_X11_lifted_j99 (h : pq_H) : Option (Int64 × pq_H) :=
  bd2 (f_X11_lower (-1) h) fun r101 h101 => some (r101, h101)
def f_X11_lifted_j93 (w47 : Int32 → Int32 → Option (Int64 × pq_H)) (v6 : Int32) (v7 : Int32) : Option (Int64 × pq_H) :=
  w47 v6 (v7 + 1)
def f_X11_lifted_j82 (v7 : Int32) (h : pq_H) : Option (Int64 × pq_H) :=
  gd (inb v7 190) (some (rJ h 15 v7.toNatClampNeg, h))
def f_X11_lifted_l47 (p2 : Int32) (p4 : Int32) (h : pq_H) (w47 : Int32 → Int32 → Option (Int64 × pq_H)) (v6 : Int32) (v7 : Int32) : Option (Int64 × pq_H) :=
  if (f_X11_termsOf (rI h 0 21)) ≤ v7 then (f_X11_lifted_j99 h) else ((f_X11_isOn (rI h 0 21) v7 p2).bind fun r66 => if r66 = true then (if v6 = p4 then (f_X11_lifted_j82 v7 h) else (f_X11_lifted_j93 w47 (v6 + 1) v7)) else (f_X11_lifted_j93 w47 v6 v7))
def f_X11_lifted_j22 (p1 : Int32) (p2 : Int32) (p3 : Int32) (p4 : Int32) (v5 : Int32) (h : pq_H) : Option (Int64 × pq_H) :=
  if v5 = 0 then ((f_X11_takes p1 p2 p3 h).bind fun h38 => lp (fun _ _ => none) (f_X11_lifted_l47 p2 p4 h38) 1000 0 0) else (bd2 (f_X11_lower v5 h) fun r30 h30 => some (r30, h30))
def f_X11_lifted (p1 : Int32) (p2 : Int32) (p3 : Int32) (p4 : Int32) (h : pq_H) : Option (Int64 × pq_H) :=
  if (f_X11_notSide p1 p2 h) = 0 then (f_X11_lifted_j22 p1 p2 p3 p4 (f_X11_bound p3 0 12) h) else (f_X11_lifted_j22 p1 p2 p3 p4 (f_X11_notSide p1 p2 h) h)
set_option maxRecDepth 100000 in
set_option maxHeartbeats 4000000 in
theorem c_X11_lifted (g : pq_g) {A : Nat → Prop} (hA : pq_A (SM g) A) (l : Launch) (p1 : Int32) (p2 : Int32) (p3 : Int32) (p4 : Int32) (h : pq_H) {rr : Int64} {hh : pq_H} (e : f_X11_lifted p1 p2 p3 p4 h = some (rr, hh)) : pq_M (SM g) A l yX11_lifted cX11_lifted 8 (some .long) 4 95 [.ref ((SM g).1.2.1 0), .int p1, .int p2, .int p3, .int p4] h (some (.long rr)) hh := by
  refine pq_met hA l (own := RX11) 4 95 _ [(0, .ref ((SM g).1.2.1 0)), (1, .int p1), (2, .int p2), (3, .int p3), (4, .int p4)] h _ hh (by decide +kernel) rfl (Nat.le_of_ble_eq_true rfl) rfl (fun X hXl hXA hB hK hR => ?_)
  refine V.cast (F' := f_X11_lifted p1 p2 p3 p4 h) (res' := (rr, hh)) (fun _ => e) ?_
  have hn99 : ∀ (h : pq_H), V X (SM g) (rr, hh) 8 99 [(0, .ref ((SM g).1.2.1 0))] [] h (f_X11_lifted_j99 h) := by
    intro h
    unfold f_X11_lifted_j99
    refine v_aload_n hB 0 dX11_lifted_99 rfl rfl ?_
    refine v_iconst hB (-1) dX11_lifted_100 (by decide) ?_
    refine v_bWj (fun r101 h101 e101 => v_callV hB hK hR.rm [.int (-1)] [] (oM_0 g) lb_X11_lower lv_X11_231 (c_X11_lower g hK.A X.1.2.1 (-1) h e101) dX11_lifted_101 rfl rfl (Nat.le_of_ble_eq_true rfl) (by decide) (by decide)) (fun r101 h101 => ?_)
    exact v_retWj (x := r101) hB hK hR dX11_lifted_104
  have hn82 : ∀ (v7 : Int32) (h : pq_H), V X (SM g) (rr, hh) 8 82 [(0, .ref ((SM g).1.2.1 0)), (7, .int v7)] [] h (f_X11_lifted_j82 v7 h) := by
    intro v7 h
    unfold f_X11_lifted_j82
    refine v_aload_n hB 0 dX11_lifted_82 rfl rfl ?_
    refine v_getA hB hK (fl_X11_67 g) (cMA_0_19 g) dX11_lifted_83 ?_
    refine v_iload hB 1 dX11_lifted_86 rfl ?_
    refine v_lald hB hK (aMJ_15 g) dX11_lifted_88 ?_
    exact v_retWj (x := rJ h 15 v7.toNatClampNeg) hB hK hR dX11_lifted_89
  have hn47 : ∀ (h : pq_H) (n : Nat), ∀ (v6 : Int32) (v7 : Int32), V X (SM g) (rr, hh) 8 47 [(0, .ref ((SM g).1.2.1 0)), (2, .int p2), (4, .int p4), (6, .int v6), (7, .int v7)] [] h (lp (fun _ _ => none) (f_X11_lifted_l47 p2 p4 h) n v6 v7) := by
    intro h
    refine lp_ind (fun (w47 : Int32 → Int32 → Option (Int64 × pq_H)) => ∀ (v6 : Int32) (v7 : Int32), V X (SM g) (rr, hh) 8 47 [(0, .ref ((SM g).1.2.1 0)), (2, .int p2), (4, .int p4), (6, .int v6), (7, .int v7)] [] h (w47 v6 v7)) (fun _ _ => V.none _ _ _ _) (fun w47 ih47 => ?_)
    have hn93 : ∀ (v6 : Int32) (v7 : Int32), V X (SM g) (rr, hh) 8 93 [(0, .ref ((SM g).1.2.1 0)), (2, .int p2), (4, .int p4), (6, .int v6), (7, .int v7)] [] h (f_X11_lifted_j93 w47 v6 v7) := by
      intro v6 v7
      unfold f_X11_lifted_j93
      refine v_iinc hB (v7 + 1) [(0, .ref ((SM g).1.2.1 0)), (2, .int p2), (4, .int p4), (6, .int v6), (7, .int (v7 + 1))] 4 [1, 2, 3, 4, 0] dX11_lifted_93 rfl rfl (by decide) rfl ?_
      refine v_goto (tgt := 47) hB dX11_lifted_96 rfl ?_
      exact V.sub [0, 1, 2, 3, 4] rfl (ih47 v6 (v7 + 1))
    intro v6 v7
    unfold f_X11_lifted_l47
    refine v_iload hB 4 dX11_lifted_47 rfl ?_
    refine v_aload_n hB 0 dX11_lifted_49 rfl rfl ?_
    refine v_getI hB hK (fl_X11_239 g) (cMI_0_21 g) dX11_lifted_50 ?_
    refine v_bT (v_callS hB hK hR.rm [.int (rI h 0 21)] [.int v7] lb_X11_termsOf lv_X11_102 (c_X11_termsOf g hK.A X.1.2.1 (rI h 0 21) h) dX11_lifted_53 rfl rfl (Nat.le_of_ble_eq_true rfl) (by decide) (by decide)) ?_
    refine v_icmp_ge (tgt := 99) hB dX11_lifted_56 rfl ?_ ?_
    · exact V.sub [0] rfl (hn99 h)
    · refine v_aload_n hB 0 dX11_lifted_59 rfl rfl ?_
      refine v_getI hB hK (fl_X11_239 g) (cMI_0_21 g) dX11_lifted_60 ?_
      refine v_iload hB 4 dX11_lifted_63 rfl ?_
      refine v_iload_n hB 1 dX11_lifted_65 rfl rfl ?_
      refine v_bRz (fun r66 e66 => v_callS hB hK hR.rm [.int (rI h 0 21), .int v7, .int p2] [] lb_X11_isOn lv_X11_140 (c_X11_isOn g hK.A X.1.2.1 (rI h 0 21) v7 p2 h e66) dX11_lifted_66 rfl rfl (Nat.le_of_ble_eq_true rfl) (by decide) (by decide)) (fun r66 => ?_)
      refine v_ifz_ne (r := r66) (tgt := 75) hB dX11_lifted_69 rfl ?_ ?_
      · refine v_iload hB 3 dX11_lifted_75 rfl ?_
        refine v_iload hB 2 dX11_lifted_77 rfl ?_
        refine v_icmp_ne (tgt := 90) hB dX11_lifted_79 rfl ?_ ?_
        · refine v_iinc hB (v6 + 1) [(0, .ref ((SM g).1.2.1 0)), (2, .int p2), (4, .int p4), (6, .int (v6 + 1)), (7, .int v7)] 3 [1, 2, 3, 0, 4] dX11_lifted_90 rfl rfl (by decide) rfl ?_
          exact V.sub [0, 1, 2, 3, 4] rfl (hn93 (v6 + 1) v7)
        · exact V.sub [0, 4] rfl (hn82 v7 h)
      · refine v_goto (tgt := 93) hB dX11_lifted_72 rfl ?_
        exact V.sub [0, 1, 2, 3, 4] rfl (hn93 v6 v7)
  have hn22 : ∀ (v5 : Int32) (h : pq_H), V X (SM g) (rr, hh) 8 22 [(0, .ref ((SM g).1.2.1 0)), (1, .int p1), (2, .int p2), (3, .int p3), (4, .int p4), (5, .int v5)] [] h (f_X11_lifted_j22 p1 p2 p3 p4 v5 h) := by
    intro v5 h
    unfold f_X11_lifted_j22
    refine v_iload hB 5 dX11_lifted_22 rfl ?_
    refine v_if_eq (tgt := 34) hB dX11_lifted_24 rfl ?_ ?_
    · refine v_aload_n hB 0 dX11_lifted_34 rfl rfl ?_
      refine v_iload_n hB 1 dX11_lifted_35 rfl rfl ?_
      refine v_iload_n hB 2 dX11_lifted_36 rfl rfl ?_
      refine v_iload_n hB 3 dX11_lifted_37 rfl rfl ?_
      refine v_bV (fun h38 e38 => v_callV hB hK hR.rm [.int p1, .int p2, .int p3] [] (oM_0 g) lb_X11_takes lv_X11_136 (c_X11_takes g hK.A X.1.2.1 p1 p2 p3 h e38) dX11_lifted_38 rfl rfl (Nat.le_of_ble_eq_true rfl) (by decide) (by decide)) (fun h38 => ?_)
      refine v_iconst hB 0 dX11_lifted_41 (by decide) ?_
      refine v_istore hB [(0, .ref ((SM g).1.2.1 0)), (1, .int p1), (2, .int p2), (3, .int p3), (4, .int p4), (5, .int v5), (6, .int 0)] [1, 2, 3, 4, 5, 6, 0] dX11_lifted_42 (by decide) rfl ?_
      refine v_iconst hB 0 dX11_lifted_44 (by decide) ?_
      refine v_istore hB [(0, .ref ((SM g).1.2.1 0)), (1, .int p1), (2, .int p2), (3, .int p3), (4, .int p4), (5, .int v5), (6, .int 0), (7, .int 0)] [1, 2, 3, 4, 5, 6, 7, 0] dX11_lifted_45 (by decide) rfl ?_
      exact V.sub [0, 2, 4, 6, 7] rfl (hn47 h38 1000 0 0)
    · refine v_aload_n hB 0 dX11_lifted_27 rfl rfl ?_
      refine v_iload hB 5 dX11_lifted_28 rfl ?_
      refine v_bWj (fun r30 h30 e30 => v_callV hB hK hR.rm [.int v5] [] (oM_0 g) lb_X11_lower lv_X11_231 (c_X11_lower g hK.A X.1.2.1 v5 h e30) dX11_lifted_30 rfl rfl (Nat.le_of_ble_eq_true rfl) (by decide) (by decide)) (fun r30 h30 => ?_)
      exact v_retWj (x := r30) hB hK hR dX11_lifted_33
  unfold f_X11_lifted
  refine v_aload_n hB 0 dX11_lifted_0 rfl rfl ?_
  refine v_iload_n hB 1 dX11_lifted_1 rfl rfl ?_
  refine v_iload_n hB 2 dX11_lifted_2 rfl rfl ?_
  refine v_bT (v_callV hB hK hR.rm [.int p1, .int p2] [] (oM_0 g) lb_X11_notSide lv_X11_246 (c_X11_notSide g hK.A X.1.2.1 p1 p2 h) dX11_lifted_3 rfl rfl (Nat.le_of_ble_eq_true rfl) (by decide) (by decide)) ?_
  refine v_istore hB [(0, .ref ((SM g).1.2.1 0)), (1, .int p1), (2, .int p2), (3, .int p3), (4, .int p4), (5, .int (f_X11_notSide p1 p2 h))] [1, 2, 3, 4, 5, 0] dX11_lifted_6 (by decide) rfl ?_
  refine v_iload hB 5 dX11_lifted_8 rfl ?_
  refine v_if_ne (tgt := 22) hB dX11_lifted_10 rfl ?_ ?_
  · exact V.sub [0, 1, 2, 3, 4, 5] rfl (hn22 (f_X11_notSide p1 p2 h) h)
  · refine v_iload_n hB 3 dX11_lifted_13 rfl rfl ?_
    refine v_iconst hB 0 dX11_lifted_14 (by decide) ?_
    refine v_bipush hB 12 dX11_lifted_15 (by decide) ?_
    refine v_bT (v_callS hB hK hR.rm [.int p3, .int 0, .int 12] [] lb_X11_bound lv_X11_154 (c_X11_bound g hK.A X.1.2.1 p3 0 12 h) dX11_lifted_17 rfl rfl (Nat.le_of_ble_eq_true rfl) (by decide) (by decide)) ?_
    refine v_istore hB [(0, .ref ((SM g).1.2.1 0)), (1, .int p1), (2, .int p2), (3, .int p3), (4, .int p4), (5, .int (f_X11_bound p3 0 12))] [1, 2, 3, 4, 5, 0] dX11_lifted_20 (by decide) rfl ?_
    exact V.sub [0, 1, 2, 3, 4, 5] rfl (hn22 (f_X11_bound p3 0 12) h)

def f_X11_fault_j33 (p1 : Int32) (p2 : Int32) (p3 : Int32) (p4 : Int32) (s0 : Int32) (h : pq_H) : Option (Int32 × pq_H) :=
  if s0 = 0 then ((f_X11_takes p1 p2 p3 h).bind fun h51 => (f_X11_firstFault p2 p4 h51).bind fun r58 => some (r58, h51)) else (bd2 (f_X11_no s0 h) fun r43 h43 => some (r43, h43))
def f_X11_fault (p1 : Int32) (p2 : Int32) (p3 : Int32) (p4 : Int32) (h : pq_H) : Option (Int32 × pq_H) :=
  if (f_X11_notSide p1 p2 h) = 0 then (if (f_X11_isSort p4) = true then (f_X11_fault_j33 p1 p2 p3 p4 (f_X11_bound p3 0 12) h) else (f_X11_fault_j33 p1 p2 p3 p4 (-2) h)) else (f_X11_fault_j33 p1 p2 p3 p4 (-1) h)
set_option maxRecDepth 100000 in
set_option maxHeartbeats 4000000 in
theorem c_X11_fault (g : pq_g) {A : Nat → Prop} (hA : pq_A (SM g) A) (l : Launch) (p1 : Int32) (p2 : Int32) (p3 : Int32) (p4 : Int32) (h : pq_H) {rr : Int32} {hh : pq_H} (e : f_X11_fault p1 p2 p3 p4 h = some (rr, hh)) : pq_M (SM g) A l yX11_fault cX11_fault 6 (some .int) 4 95 [.ref ((SM g).1.2.1 0), .int p1, .int p2, .int p3, .int p4] h (some (.int rr)) hh := by
  refine pq_met hA l (own := RX11) 4 95 _ [(0, .ref ((SM g).1.2.1 0)), (1, .int p1), (2, .int p2), (3, .int p3), (4, .int p4)] h _ hh (by decide +kernel) rfl (Nat.le_of_ble_eq_true rfl) rfl (fun X hXl hXA hB hK hR => ?_)
  refine V.cast (F' := f_X11_fault p1 p2 p3 p4 h) (res' := (rr, hh)) (fun _ => e) ?_
  have hn33 : ∀ (s0 : Int32) (h : pq_H), V X (SM g) (rr, hh) 6 33 [(0, .ref ((SM g).1.2.1 0)), (1, .int p1), (2, .int p2), (3, .int p3), (4, .int p4)] [.int s0] h (f_X11_fault_j33 p1 p2 p3 p4 s0 h) := by
    intro s0 h
    unfold f_X11_fault_j33
    refine v_istore hB [(0, .ref ((SM g).1.2.1 0)), (1, .int p1), (2, .int p2), (3, .int p3), (4, .int p4), (5, .int s0)] [1, 2, 3, 4, 5, 0] dX11_fault_33 (by decide) rfl ?_
    refine v_iload hB 5 dX11_fault_35 rfl ?_
    refine v_if_eq (tgt := 47) hB dX11_fault_37 rfl ?_ ?_
    · refine v_aload_n hB 0 dX11_fault_47 rfl rfl ?_
      refine v_iload_n hB 1 dX11_fault_48 rfl rfl ?_
      refine v_iload_n hB 2 dX11_fault_49 rfl rfl ?_
      refine v_iload_n hB 3 dX11_fault_50 rfl rfl ?_
      refine v_bV (fun h51 e51 => v_callV hB hK hR.rm [.int p1, .int p2, .int p3] [] (oM_0 g) lb_X11_takes lv_X11_136 (c_X11_takes g hK.A X.1.2.1 p1 p2 p3 h e51) dX11_fault_51 rfl rfl (Nat.le_of_ble_eq_true rfl) (by decide) (by decide)) (fun h51 => ?_)
      refine v_aload_n hB 0 dX11_fault_54 rfl rfl ?_
      refine v_iload_n hB 2 dX11_fault_55 rfl rfl ?_
      refine v_iload hB 4 dX11_fault_56 rfl ?_
      refine v_bRi (fun r58 e58 => v_callV hB hK hR.rm [.int p2, .int p4] [] (oM_0 g) lb_X11_firstFault lv_X11_252 (c_X11_firstFault g hK.A X.1.2.1 p2 p4 h51 e58) dX11_fault_58 rfl rfl (Nat.le_of_ble_eq_true rfl) (by decide) (by decide)) (fun r58 => ?_)
      exact v_retWi (x := r58) hB hK hR dX11_fault_61
    · refine v_aload_n hB 0 dX11_fault_40 rfl rfl ?_
      refine v_iload hB 5 dX11_fault_41 rfl ?_
      refine v_bWi (fun r43 h43 e43 => v_callV hB hK hR.rm [.int s0] [] (oM_0 g) lb_X11_no lv_X11_8 (c_X11_no g hK.A X.1.2.1 s0 h e43) dX11_fault_43 rfl rfl (Nat.le_of_ble_eq_true rfl) (by decide) (by decide)) (fun r43 h43 => ?_)
      exact v_retWi (x := r43) hB hK hR dX11_fault_46
  unfold f_X11_fault
  refine v_aload_n hB 0 dX11_fault_0 rfl rfl ?_
  refine v_iload_n hB 1 dX11_fault_1 rfl rfl ?_
  refine v_iload_n hB 2 dX11_fault_2 rfl rfl ?_
  refine v_bT (v_callV hB hK hR.rm [.int p1, .int p2] [] (oM_0 g) lb_X11_notSide lv_X11_246 (c_X11_notSide g hK.A X.1.2.1 p1 p2 h) dX11_fault_3 rfl rfl (Nat.le_of_ble_eq_true rfl) (by decide) (by decide)) ?_
  refine v_if_eq (tgt := 13) hB dX11_fault_6 rfl ?_ ?_
  · refine v_iload hB 4 dX11_fault_13 rfl ?_
    refine v_bT (v_callS hB hK hR.rm [.int p4] [] lb_X11_isSort lv_X11_249 (c_X11_isSort g hK.A X.1.2.1 p4 h) dX11_fault_15 rfl rfl (Nat.le_of_ble_eq_true rfl) (by decide) (by decide)) ?_
    refine v_ifz_ne (r := f_X11_isSort p4) (tgt := 26) hB dX11_fault_18 rfl ?_ ?_
    · refine v_iload_n hB 3 dX11_fault_26 rfl rfl ?_
      refine v_iconst hB 0 dX11_fault_27 (by decide) ?_
      refine v_bipush hB 12 dX11_fault_28 (by decide) ?_
      refine v_bT (v_callS hB hK hR.rm [.int p3, .int 0, .int 12] [] lb_X11_bound lv_X11_154 (c_X11_bound g hK.A X.1.2.1 p3 0 12 h) dX11_fault_30 rfl rfl (Nat.le_of_ble_eq_true rfl) (by decide) (by decide)) ?_
      exact V.sub [0, 1, 2, 3, 4] rfl (hn33 (f_X11_bound p3 0 12) h)
    · refine v_bipush hB (-2) dX11_fault_21 (by decide) ?_
      refine v_goto (tgt := 33) hB dX11_fault_23 rfl ?_
      exact V.sub [0, 1, 2, 3, 4] rfl (hn33 (-2) h)
  · refine v_iconst hB (-1) dX11_fault_9 (by decide) ?_
    refine v_goto (tgt := 33) hB dX11_fault_10 rfl ?_
    exact V.sub [0, 1, 2, 3, 4] rfl (hn33 (-1) h)

def f_X11_leastOf_j41 (w10 : Int32 → pq_H → Option (Int32 × pq_H)) (v4 : Int32) (h : pq_H) : Option (Int32 × pq_H) :=
  w10 (v4 + 1) h
def f_X11_leastOf_l10 (p2 : Int32) (p3 : Int32) (w10 : Int32 → pq_H → Option (Int32 × pq_H)) (v4 : Int32) (h : pq_H) : Option (Int32 × pq_H) :=
  if 12 < v4 then (some ((-9), h)) else ((f_X11_firstFault p2 p3 h).bind fun r20 => if 0 ≤ r20 then (if 12 ≤ v4 then (f_X11_leastOf_j41 w10 v4 h) else ((f_X11_rises p2 h).bind fun h38 => f_X11_leastOf_j41 w10 v4 h38)) else (some (v4, h)))
def f_X11_leastOf (p1 : Int32) (p2 : Int32) (p3 : Int32) (h : pq_H) : Option (Int32 × pq_H) :=
  (f_X11_takes p1 p2 0 h).bind fun h4 => lp (fun _ _ => none) (f_X11_leastOf_l10 p2 p3) 1000 0 h4
set_option maxRecDepth 100000 in
set_option maxHeartbeats 4000000 in
theorem c_X11_leastOf (g : pq_g) {A : Nat → Prop} (hA : pq_A (SM g) A) (l : Launch) (p1 : Int32) (p2 : Int32) (p3 : Int32) (h : pq_H) {rr : Int32} {hh : pq_H} (e : f_X11_leastOf p1 p2 p3 h = some (rr, hh)) : pq_M (SM g) A l yX11_leastOf cX11_leastOf 5 (some .int) 4 95 [.ref ((SM g).1.2.1 0), .int p1, .int p2, .int p3] h (some (.int rr)) hh := by
  refine pq_met hA l (own := RX11) 4 95 _ [(0, .ref ((SM g).1.2.1 0)), (1, .int p1), (2, .int p2), (3, .int p3)] h _ hh (by decide +kernel) rfl (Nat.le_of_ble_eq_true rfl) rfl (fun X hXl hXA hB hK hR => ?_)
  refine V.cast (F' := f_X11_leastOf p1 p2 p3 h) (res' := (rr, hh)) (fun _ => e) ?_
  have hn10 : ∀ (n : Nat), ∀ (v4 : Int32) (h : pq_H), V X (SM g) (rr, hh) 5 10 [(0, .ref ((SM g).1.2.1 0)), (2, .int p2), (3, .int p3), (4, .int v4)] [] h (lp (fun _ _ => none) (f_X11_leastOf_l10 p2 p3) n v4 h) := by
    refine lp_ind (fun (w10 : Int32 → pq_H → Option (Int32 × pq_H)) => ∀ (v4 : Int32) (h : pq_H), V X (SM g) (rr, hh) 5 10 [(0, .ref ((SM g).1.2.1 0)), (2, .int p2), (3, .int p3), (4, .int v4)] [] h (w10 v4 h)) (fun _ _ => V.none _ _ _ _) (fun w10 ih10 => ?_)
    have hn41 : ∀ (v4 : Int32) (h : pq_H), V X (SM g) (rr, hh) 5 41 [(0, .ref ((SM g).1.2.1 0)), (2, .int p2), (3, .int p3), (4, .int v4)] [] h (f_X11_leastOf_j41 w10 v4 h) := by
      intro v4 h
      unfold f_X11_leastOf_j41
      refine v_iinc hB (v4 + 1) [(0, .ref ((SM g).1.2.1 0)), (2, .int p2), (3, .int p3), (4, .int (v4 + 1))] 3 [1, 2, 3, 0] dX11_leastOf_41 rfl rfl (by decide) rfl ?_
      refine v_goto (tgt := 10) hB dX11_leastOf_44 rfl ?_
      exact V.sub [0, 1, 2, 3] rfl (ih10 (v4 + 1) h)
    intro v4 h
    unfold f_X11_leastOf_l10
    refine v_iload hB 3 dX11_leastOf_10 rfl ?_
    refine v_bipush hB 12 dX11_leastOf_12 (by decide) ?_
    refine v_icmp_gt (tgt := 47) hB dX11_leastOf_14 rfl ?_ ?_
    · refine v_bipush hB (-9) dX11_leastOf_47 (by decide) ?_
      exact v_retWi (x := (-9)) hB hK hR dX11_leastOf_49
    · refine v_aload_n hB 0 dX11_leastOf_17 rfl rfl ?_
      refine v_iload_n hB 1 dX11_leastOf_18 rfl rfl ?_
      refine v_iload_n hB 2 dX11_leastOf_19 rfl rfl ?_
      refine v_bRi (fun r20 e20 => v_callV hB hK hR.rm [.int p2, .int p3] [] (oM_0 g) lb_X11_firstFault lv_X11_252 (c_X11_firstFault g hK.A X.1.2.1 p2 p3 h e20) dX11_leastOf_20 rfl rfl (Nat.le_of_ble_eq_true rfl) (by decide) (by decide)) (fun r20 => ?_)
      refine v_if_ge (tgt := 29) hB dX11_leastOf_23 rfl ?_ ?_
      · refine v_iload hB 3 dX11_leastOf_29 rfl ?_
        refine v_bipush hB 12 dX11_leastOf_31 (by decide) ?_
        refine v_icmp_ge (tgt := 41) hB dX11_leastOf_33 rfl ?_ ?_
        · exact V.sub [0, 1, 2, 3] rfl (hn41 v4 h)
        · refine v_aload_n hB 0 dX11_leastOf_36 rfl rfl ?_
          refine v_iload_n hB 1 dX11_leastOf_37 rfl rfl ?_
          refine v_bV (fun h38 e38 => v_callV hB hK hR.rm [.int p2] [] (oM_0 g) lb_X11_rises lv_X11_242 (c_X11_rises g hK.A X.1.2.1 p2 h e38) dX11_leastOf_38 rfl rfl (Nat.le_of_ble_eq_true rfl) (by decide) (by decide)) (fun h38 => ?_)
          exact V.sub [0, 1, 2, 3] rfl (hn41 v4 h38)
      · refine v_iload hB 3 dX11_leastOf_26 rfl ?_
        exact v_retWi (x := v4) hB hK hR dX11_leastOf_28
  unfold f_X11_leastOf
  refine v_aload_n hB 0 dX11_leastOf_0 rfl rfl ?_
  refine v_iload_n hB 1 dX11_leastOf_1 rfl rfl ?_
  refine v_iload_n hB 2 dX11_leastOf_2 rfl rfl ?_
  refine v_iconst hB 0 dX11_leastOf_3 (by decide) ?_
  refine v_bV (fun h4 e4 => v_callV hB hK hR.rm [.int p1, .int p2, .int 0] [] (oM_0 g) lb_X11_takes lv_X11_136 (c_X11_takes g hK.A X.1.2.1 p1 p2 0 h e4) dX11_leastOf_4 rfl rfl (Nat.le_of_ble_eq_true rfl) (by decide) (by decide)) (fun h4 => ?_)
  refine v_iconst hB 0 dX11_leastOf_7 (by decide) ?_
  refine v_istore hB [(0, .ref ((SM g).1.2.1 0)), (1, .int p1), (2, .int p2), (3, .int p3), (4, .int 0)] [1, 2, 3, 4, 0] dX11_leastOf_8 (by decide) rfl ?_
  exact V.sub [0, 2, 3, 4] rfl (hn10 1000 0 h4)

def f_X11_least_j26 (p1 : Int32) (p2 : Int32) (p3 : Int32) (s0 : Int32) (h : pq_H) : Option (Int32 × pq_H) :=
  if s0 = 0 then (bd2 (f_X11_leastOf p1 p2 p3 h) fun r46 h46 => some (r46, h46)) else (bd2 (f_X11_no s0 h) fun r36 h36 => some (r36, h36))
def f_X11_least (p1 : Int32) (p2 : Int32) (p3 : Int32) (h : pq_H) : Option (Int32 × pq_H) :=
  if (f_X11_notSide p1 p2 h) = 0 then (if (f_X11_isSort p3) = true then (f_X11_least_j26 p1 p2 p3 0 h) else (f_X11_least_j26 p1 p2 p3 (-2) h)) else (f_X11_least_j26 p1 p2 p3 (-1) h)
set_option maxRecDepth 100000 in
set_option maxHeartbeats 4000000 in
theorem c_X11_least (g : pq_g) {A : Nat → Prop} (hA : pq_A (SM g) A) (l : Launch) (p1 : Int32) (p2 : Int32) (p3 : Int32) (h : pq_H) {rr : Int32} {hh : pq_H} (e : f_X11_least p1 p2 p3 h = some (rr, hh)) : pq_M (SM g) A l yX11_least cX11_least 5 (some .int) 5 119 [.ref ((SM g).1.2.1 0), .int p1, .int p2, .int p3] h (some (.int rr)) hh := by
  refine pq_met hA l (own := RX11) 5 119 _ [(0, .ref ((SM g).1.2.1 0)), (1, .int p1), (2, .int p2), (3, .int p3)] h _ hh (by decide +kernel) rfl (Nat.le_of_ble_eq_true rfl) rfl (fun X hXl hXA hB hK hR => ?_)
  refine V.cast (F' := f_X11_least p1 p2 p3 h) (res' := (rr, hh)) (fun _ => e) ?_
  have hn26 : ∀ (s0 : Int32) (h : pq_H), V X (SM g) (rr, hh) 5 26 [(0, .ref ((SM g).1.2.1 0)), (1, .int p1), (2, .int p2), (3, .int p3)] [.int s0] h (f_X11_least_j26 p1 p2 p3 s0 h) := by
    intro s0 h
    unfold f_X11_least_j26
    refine v_istore hB [(0, .ref ((SM g).1.2.1 0)), (1, .int p1), (2, .int p2), (3, .int p3), (4, .int s0)] [1, 2, 3, 4, 0] dX11_least_26 (by decide) rfl ?_
    refine v_iload hB 4 dX11_least_28 rfl ?_
    refine v_if_eq (tgt := 42) hB dX11_least_30 rfl ?_ ?_
    · refine v_aload_n hB 0 dX11_least_42 rfl rfl ?_
      refine v_iload_n hB 1 dX11_least_43 rfl rfl ?_
      refine v_iload_n hB 2 dX11_least_44 rfl rfl ?_
      refine v_iload_n hB 3 dX11_least_45 rfl rfl ?_
      refine v_bWi (fun r46 h46 e46 => v_callV hB hK hR.rm [.int p1, .int p2, .int p3] [] (oM_0 g) lb_X11_leastOf lv_X11_255 (c_X11_leastOf g hK.A X.1.2.1 p1 p2 p3 h e46) dX11_least_46 rfl rfl (Nat.le_of_ble_eq_true rfl) (by decide) (by decide)) (fun r46 h46 => ?_)
      exact v_retWi (x := r46) hB hK hR dX11_least_49
    · refine v_aload_n hB 0 dX11_least_33 rfl rfl ?_
      refine v_iload hB 4 dX11_least_34 rfl ?_
      refine v_bWi (fun r36 h36 e36 => v_callV hB hK hR.rm [.int s0] [] (oM_0 g) lb_X11_no lv_X11_8 (c_X11_no g hK.A X.1.2.1 s0 h e36) dX11_least_36 rfl rfl (Nat.le_of_ble_eq_true rfl) (by decide) (by decide)) (fun r36 h36 => ?_)
      refine v_goto (tgt := 49) hB dX11_least_39 rfl ?_
      exact v_retWi (x := r36) hB hK hR dX11_least_49
  unfold f_X11_least
  refine v_aload_n hB 0 dX11_least_0 rfl rfl ?_
  refine v_iload_n hB 1 dX11_least_1 rfl rfl ?_
  refine v_iload_n hB 2 dX11_least_2 rfl rfl ?_
  refine v_bT (v_callV hB hK hR.rm [.int p1, .int p2] [] (oM_0 g) lb_X11_notSide lv_X11_246 (c_X11_notSide g hK.A X.1.2.1 p1 p2 h) dX11_least_3 rfl rfl (Nat.le_of_ble_eq_true rfl) (by decide) (by decide)) ?_
  refine v_if_eq (tgt := 13) hB dX11_least_6 rfl ?_ ?_
  · refine v_iload_n hB 3 dX11_least_13 rfl rfl ?_
    refine v_bT (v_callS hB hK hR.rm [.int p3] [] lb_X11_isSort lv_X11_249 (c_X11_isSort g hK.A X.1.2.1 p3 h) dX11_least_14 rfl rfl (Nat.le_of_ble_eq_true rfl) (by decide) (by decide)) ?_
    refine v_ifz_ne (r := f_X11_isSort p3) (tgt := 25) hB dX11_least_17 rfl ?_ ?_
    · refine v_iconst hB 0 dX11_least_25 (by decide) ?_
      exact V.sub [0, 1, 2, 3] rfl (hn26 0 h)
    · refine v_bipush hB (-2) dX11_least_20 (by decide) ?_
      refine v_goto (tgt := 26) hB dX11_least_22 rfl ?_
      exact V.sub [0, 1, 2, 3] rfl (hn26 (-2) h)
  · refine v_iconst hB (-1) dX11_least_9 (by decide) ?_
    refine v_goto (tgt := 26) hB dX11_least_10 rfl ?_
    exact V.sub [0, 1, 2, 3] rfl (hn26 (-1) h)

def f_X11_firstPoint (p1 : Int32) (h : pq_H) : Option pq_H :=
  hl (wI h 0 22 p1) fun h2 => hl (wI h2 0 23 0) fun h7 => some (wI h7 0 24 0)
set_option maxRecDepth 100000 in
set_option maxHeartbeats 4000000 in
theorem c_X11_firstPoint (g : pq_g) {A : Nat → Prop} (hA : pq_A (SM g) A) (l : Launch) (p1 : Int32) (h : pq_H) {hh : pq_H} (e : f_X11_firstPoint p1 h = some hh) : pq_M (SM g) A l yX11_firstPoint cX11_firstPoint 2 none 0 0 [.ref ((SM g).1.2.1 0), .int p1] h none hh := by
  refine pq_met hA l (own := RX11) 0 0 _ [(0, .ref ((SM g).1.2.1 0)), (1, .int p1)] h _ hh (by decide +kernel) rfl (Nat.le_of_ble_eq_true rfl) rfl (fun X hXl hXA hB hK hR => ?_)
  refine V.cast (F' := f_X11_firstPoint p1 h) (res' := hh) (fun _ => e) ?_
  unfold f_X11_firstPoint
  refine v_aload_n hB 0 dX11_firstPoint_0 rfl rfl ?_
  refine v_iload_n hB 1 dX11_firstPoint_1 rfl rfl ?_
  refine v_putI hB hK (fl_X11_258 g) (fin_X11_22 g) (cMI_0_22 g) dX11_firstPoint_2 ?_
  refine v_hl (fun h2 => ?_)
  refine v_aload_n hB 0 dX11_firstPoint_5 rfl rfl ?_
  refine v_iconst hB 0 dX11_firstPoint_6 (by decide) ?_
  refine v_putI hB hK (fl_X11_261 g) (fin_X11_23 g) (cMI_0_23 g) dX11_firstPoint_7 ?_
  refine v_hl (fun h7 => ?_)
  refine v_aload_n hB 0 dX11_firstPoint_10 rfl rfl ?_
  refine v_iconst hB 0 dX11_firstPoint_11 (by decide) ?_
  refine v_putI hB hK (fl_X11_264 g) (fin_X11_24 g) (cMI_0_24 g) dX11_firstPoint_12 ?_
  exact v_retWv hB hK hR dX11_firstPoint_15

