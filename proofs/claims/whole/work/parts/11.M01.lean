def f_X11_takes_l64 (p2 : Int32) (p3 : Int32) (w64 : Int32 → pq_H → Option pq_H) (v4 : Int32) (h : pq_H) : Option pq_H :=
  if p3 ≤ v4 then (some h) else ((f_X11_rises p2 h).bind fun h72 => w64 (v4 + 1) h72)
def f_X11_takes_j61 (p2 : Int32) (p3 : Int32) (h : pq_H) : Option pq_H :=
  lp (fun _ _ => none) (f_X11_takes_l64 p2 p3) 1000 0 h
def f_X11_takes_j54 (w13 : Int32 → pq_H → Option pq_H) (v4 : Int32) (s1 : Int32) (s2 : Int64) (h : pq_H) : Option pq_H :=
  gd (inb s1 190) (w13 (v4 + 1) (wJ h 15 s1.toNatClampNeg s2))
def f_X11_takes_l13 (p1 : Int32) (p2 : Int32) (p3 : Int32) (w13 : Int32 → pq_H → Option pq_H) (v4 : Int32) (h : pq_H) : Option pq_H :=
  (f_X11_isTerm p1 v4 h).bind fun r17 => if r17 = true then ((f_X11_isOn (rI h 0 21) v4 p2).bind fun r36 => if r36 = true then ((f_X11_coefficientOf p1 v4 h).bind fun r46 => f_X11_takes_j54 w13 v4 v4 r46.toInt64 h) else (f_X11_takes_j54 w13 v4 v4 0 h)) else (f_X11_takes_j61 p2 p3 h)
def f_X11_takes (p1 : Int32) (p2 : Int32) (p3 : Int32) (h : pq_H) : Option pq_H :=
  gd (inb p1 6) (hl (wI h 0 21 (rI h 5 p1.toNatClampNeg)) fun h7 => lp (fun _ _ => none) (f_X11_takes_l13 p1 p2 p3) 1000 0 h7)
set_option maxRecDepth 100000 in
set_option maxHeartbeats 4000000 in
theorem c_X11_takes (g : pq_g) {A : Nat → Prop} (hA : pq_A (SM g) A) (l : Launch) (p1 : Int32) (p2 : Int32) (p3 : Int32) (h : pq_H) {hh : pq_H} (e : f_X11_takes p1 p2 p3 h = some hh) : pq_M (SM g) A l yX11_takes cX11_takes 5 none 3 71 [.ref ((SM g).1.2.1 0), .int p1, .int p2, .int p3] h none hh := by
  refine pq_met hA l (own := RX11) 3 71 _ [(0, .ref ((SM g).1.2.1 0)), (1, .int p1), (2, .int p2), (3, .int p3)] h _ hh (by decide +kernel) rfl (Nat.le_of_ble_eq_true rfl) rfl (fun X hXl hXA hB hK hR => ?_)
  refine V.cast (F' := f_X11_takes p1 p2 p3 h) (res' := hh) (fun _ => e) ?_
  have hn64 : ∀ (n : Nat), ∀ (v4 : Int32) (h : pq_H), V X (SM g) hh 5 64 [(0, .ref ((SM g).1.2.1 0)), (2, .int p2), (3, .int p3), (4, .int v4)] [] h (lp (fun _ _ => none) (f_X11_takes_l64 p2 p3) n v4 h) := by
    refine lp_ind (fun (w64 : Int32 → pq_H → Option pq_H) => ∀ (v4 : Int32) (h : pq_H), V X (SM g) hh 5 64 [(0, .ref ((SM g).1.2.1 0)), (2, .int p2), (3, .int p3), (4, .int v4)] [] h (w64 v4 h)) (fun _ _ => V.none _ _ _ _) (fun w64 ih64 => ?_)
    intro v4 h
    unfold f_X11_takes_l64
    refine v_iload hB 3 dX11_takes_64 rfl ?_
    refine v_iload_n hB 2 dX11_takes_66 rfl rfl ?_
    refine v_icmp_ge (tgt := 81) hB dX11_takes_67 rfl ?_ ?_
    · exact v_retWv hB hK hR dX11_takes_81
    · refine v_aload_n hB 0 dX11_takes_70 rfl rfl ?_
      refine v_iload_n hB 1 dX11_takes_71 rfl rfl ?_
      refine v_bV (fun h72 e72 => v_callV hB hK hR.rm [.int p2] [] (oM_0 g) lb_X11_rises lv_X11_242 (c_X11_rises g hK.A X.1.2.1 p2 h e72) dX11_takes_72 rfl rfl (Nat.le_of_ble_eq_true rfl) (by decide) (by decide)) (fun h72 => ?_)
      refine v_iinc hB (v4 + 1) [(0, .ref ((SM g).1.2.1 0)), (2, .int p2), (3, .int p3), (4, .int (v4 + 1))] 3 [1, 2, 3, 0] dX11_takes_75 rfl rfl (by decide) rfl ?_
      refine v_goto (tgt := 64) hB dX11_takes_78 rfl ?_
      exact V.sub [0, 1, 2, 3] rfl (ih64 (v4 + 1) h72)
  have hn61 : ∀ (h : pq_H), V X (SM g) hh 5 61 [(0, .ref ((SM g).1.2.1 0)), (2, .int p2), (3, .int p3)] [] h (f_X11_takes_j61 p2 p3 h) := by
    intro h
    unfold f_X11_takes_j61
    refine v_iconst hB 0 dX11_takes_61 (by decide) ?_
    refine v_istore hB [(0, .ref ((SM g).1.2.1 0)), (2, .int p2), (3, .int p3), (4, .int 0)] [1, 2, 3, 0] dX11_takes_62 (by decide) rfl ?_
    exact V.sub [0, 1, 2, 3] rfl (hn64 1000 0 h)
  have hn13 : ∀ (n : Nat), ∀ (v4 : Int32) (h : pq_H), V X (SM g) hh 5 13 [(0, .ref ((SM g).1.2.1 0)), (1, .int p1), (2, .int p2), (3, .int p3), (4, .int v4)] [] h (lp (fun _ _ => none) (f_X11_takes_l13 p1 p2 p3) n v4 h) := by
    refine lp_ind (fun (w13 : Int32 → pq_H → Option pq_H) => ∀ (v4 : Int32) (h : pq_H), V X (SM g) hh 5 13 [(0, .ref ((SM g).1.2.1 0)), (1, .int p1), (2, .int p2), (3, .int p3), (4, .int v4)] [] h (w13 v4 h)) (fun _ _ => V.none _ _ _ _) (fun w13 ih13 => ?_)
    have hn54 : ∀ (v4 : Int32) (s1 : Int32) (s2 : Int64) (h : pq_H), V X (SM g) hh 5 54 [(0, .ref ((SM g).1.2.1 0)), (1, .int p1), (2, .int p2), (3, .int p3), (4, .int v4)] [.long s2, .int s1, .ref ((SM g).1.2.1 15)] h (f_X11_takes_j54 w13 v4 s1 s2 h) := by
      intro v4 s1 s2 h
      unfold f_X11_takes_j54
      refine v_last hB hK (aMJ_15 g) dX11_takes_54 ?_
      refine v_iinc hB (v4 + 1) [(0, .ref ((SM g).1.2.1 0)), (1, .int p1), (2, .int p2), (3, .int p3), (4, .int (v4 + 1))] 4 [1, 2, 3, 4, 0] dX11_takes_55 rfl rfl (by decide) rfl ?_
      refine v_goto (tgt := 13) hB dX11_takes_58 rfl ?_
      exact V.sub [0, 1, 2, 3, 4] rfl (ih13 (v4 + 1) (wJ h 15 s1.toNatClampNeg s2))
    intro v4 h
    unfold f_X11_takes_l13
    refine v_aload_n hB 0 dX11_takes_13 rfl rfl ?_
    refine v_iload_n hB 1 dX11_takes_14 rfl rfl ?_
    refine v_iload hB 4 dX11_takes_15 rfl ?_
    refine v_bRz (fun r17 e17 => v_callV hB hK hR.rm [.int p1, .int v4] [] (oM_0 g) lb_X11_isTerm lv_X11_111 (c_X11_isTerm g hK.A X.1.2.1 p1 v4 h e17) dX11_takes_17 rfl rfl (Nat.le_of_ble_eq_true rfl) (by decide) (by decide)) (fun r17 => ?_)
    refine v_ifz_eq (r := r17) (tgt := 61) hB dX11_takes_20 rfl ?_ ?_
    · exact V.sub [0, 2, 3] rfl (hn61 h)
    · refine v_aload_n hB 0 dX11_takes_23 rfl rfl ?_
      refine v_getA hB hK (fl_X11_67 g) (cMA_0_19 g) dX11_takes_24 ?_
      refine v_iload hB 4 dX11_takes_27 rfl ?_
      refine v_aload_n hB 0 dX11_takes_29 rfl rfl ?_
      refine v_getI hB hK (fl_X11_239 g) (cMI_0_21 g) dX11_takes_30 ?_
      refine v_iload hB 4 dX11_takes_33 rfl ?_
      refine v_iload_n hB 2 dX11_takes_35 rfl rfl ?_
      refine v_bRz (fun r36 e36 => v_callS hB hK hR.rm [.int (rI h 0 21), .int v4, .int p2] [.int v4, .ref ((SM g).1.2.1 15)] lb_X11_isOn lv_X11_140 (c_X11_isOn g hK.A X.1.2.1 (rI h 0 21) v4 p2 h e36) dX11_takes_36 rfl rfl (Nat.le_of_ble_eq_true rfl) (by decide) (by decide)) (fun r36 => ?_)
      refine v_ifz_eq (r := r36) (tgt := 53) hB dX11_takes_39 rfl ?_ ?_
      · refine v_lconst hB 0 dX11_takes_53 (by decide) ?_
        exact V.sub [0, 1, 2, 3, 4] rfl (hn54 v4 v4 0 h)
      · refine v_aload_n hB 0 dX11_takes_42 rfl rfl ?_
        refine v_iload_n hB 1 dX11_takes_43 rfl rfl ?_
        refine v_iload hB 4 dX11_takes_44 rfl ?_
        refine v_bRi (fun r46 e46 => v_callV hB hK hR.rm [.int p1, .int v4] [.int v4, .ref ((SM g).1.2.1 15)] (oM_0 g) lb_X11_coefficientOf lv_X11_115 (c_X11_coefficientOf g hK.A X.1.2.1 p1 v4 h e46) dX11_takes_46 rfl rfl (Nat.le_of_ble_eq_true rfl) (by decide) (by decide)) (fun r46 => ?_)
        refine v_i2l hB dX11_takes_49 ?_
        refine v_goto (tgt := 54) hB dX11_takes_50 rfl ?_
        exact V.sub [0, 1, 2, 3, 4] rfl (hn54 v4 v4 r46.toInt64 h)
  unfold f_X11_takes
  refine v_aload_n hB 0 dX11_takes_0 rfl rfl ?_
  refine v_aload_n hB 0 dX11_takes_1 rfl rfl ?_
  refine v_getA hB hK (fl_X11_36 g) (cMA_0_4 g) dX11_takes_2 ?_
  refine v_iload_n hB 1 dX11_takes_5 rfl rfl ?_
  refine v_iald hB hK (aMI_5 g) dX11_takes_6 ?_
  refine v_putI hB hK (fl_X11_239 g) (fin_X11_21 g) (cMI_0_21 g) dX11_takes_7 ?_
  refine v_hl (fun h7 => ?_)
  refine v_iconst hB 0 dX11_takes_10 (by decide) ?_
  refine v_istore hB [(0, .ref ((SM g).1.2.1 0)), (1, .int p1), (2, .int p2), (3, .int p3), (4, .int 0)] [1, 2, 3, 4, 0] dX11_takes_11 (by decide) rfl ?_
  exact V.sub [0, 1, 2, 3, 4] rfl (hn13 1000 0 h7)

def f_X11_lifts_j58 (v3 : Int32) (h : pq_H) : Option (Int32 × pq_H) :=
  bd2 (f_X11_comesIf v3 h) fun r60 h60 => some (r60, h60)
def f_X11_lifts_l29 (v3 : Int32) (w29 : Int32 → pq_H → Option (Int32 × pq_H)) (v4 : Int32) (h : pq_H) : Option (Int32 × pq_H) :=
  if (f_X11_termsOf v3) ≤ v4 then (f_X11_lifts_j58 v3 h) else (gd (inb v4 190) (gd (inb v4 28) (w29 (v4 + 1) (wJ h 8 v4.toNatClampNeg (rJ h 15 v4.toNatClampNeg)))))
def f_X11_lifts (p1 : Int32) (p2 : Int32) (h : pq_H) : Option (Int32 × pq_H) :=
  gd (inb p1 6) (if ((rI h 5 p1.toNatClampNeg) + p2) ≤ 6 then ((f_X11_takes p1 7 p2 h).bind fun h23 => lp (fun _ _ => none) (f_X11_lifts_l29 ((rI h 5 p1.toNatClampNeg) + p2)) 1000 0 h23) else (some ((-6), h)))
set_option maxRecDepth 100000 in
set_option maxHeartbeats 4000000 in
theorem c_X11_lifts (g : pq_g) {A : Nat → Prop} (hA : pq_A (SM g) A) (l : Launch) (p1 : Int32) (p2 : Int32) (h : pq_H) {rr : Int32} {hh : pq_H} (e : f_X11_lifts p1 p2 h = some (rr, hh)) : pq_M (SM g) A l yX11_lifts cX11_lifts 5 (some .int) 4 95 [.ref ((SM g).1.2.1 0), .int p1, .int p2] h (some (.int rr)) hh := by
  refine pq_met hA l (own := RX11) 4 95 _ [(0, .ref ((SM g).1.2.1 0)), (1, .int p1), (2, .int p2)] h _ hh (by decide +kernel) rfl (Nat.le_of_ble_eq_true rfl) rfl (fun X hXl hXA hB hK hR => ?_)
  refine V.cast (F' := f_X11_lifts p1 p2 h) (res' := (rr, hh)) (fun _ => e) ?_
  have hn58 : ∀ (v3 : Int32) (h : pq_H), V X (SM g) (rr, hh) 5 58 [(0, .ref ((SM g).1.2.1 0)), (3, .int v3)] [] h (f_X11_lifts_j58 v3 h) := by
    intro v3 h
    unfold f_X11_lifts_j58
    refine v_aload_n hB 0 dX11_lifts_58 rfl rfl ?_
    refine v_iload_n hB 1 dX11_lifts_59 rfl rfl ?_
    refine v_bWi (fun r60 h60 e60 => v_callV hB hK hR.rm [.int v3] [] (oM_0 g) lb_X11_comesIf lv_X11_133 (c_X11_comesIf g hK.A X.1.2.1 v3 h e60) dX11_lifts_60 rfl rfl (Nat.le_of_ble_eq_true rfl) (by decide) (by decide)) (fun r60 h60 => ?_)
    exact v_retWi (x := r60) hB hK hR dX11_lifts_63
  have hn29 : ∀ (v3 : Int32) (n : Nat), ∀ (v4 : Int32) (h : pq_H), V X (SM g) (rr, hh) 5 29 [(0, .ref ((SM g).1.2.1 0)), (3, .int v3), (4, .int v4)] [] h (lp (fun _ _ => none) (f_X11_lifts_l29 v3) n v4 h) := by
    intro v3
    refine lp_ind (fun (w29 : Int32 → pq_H → Option (Int32 × pq_H)) => ∀ (v4 : Int32) (h : pq_H), V X (SM g) (rr, hh) 5 29 [(0, .ref ((SM g).1.2.1 0)), (3, .int v3), (4, .int v4)] [] h (w29 v4 h)) (fun _ _ => V.none _ _ _ _) (fun w29 ih29 => ?_)
    intro v4 h
    unfold f_X11_lifts_l29
    refine v_iload hB 2 dX11_lifts_29 rfl ?_
    refine v_iload_n hB 1 dX11_lifts_31 rfl rfl ?_
    refine v_bT (v_callS hB hK hR.rm [.int v3] [.int v4] lb_X11_termsOf lv_X11_102 (c_X11_termsOf g hK.A X.1.2.1 v3 h) dX11_lifts_32 rfl rfl (Nat.le_of_ble_eq_true rfl) (by decide) (by decide)) ?_
    refine v_icmp_ge (tgt := 58) hB dX11_lifts_35 rfl ?_ ?_
    · exact V.sub [0, 1] rfl (hn58 v3 h)
    · refine v_aload_n hB 0 dX11_lifts_38 rfl rfl ?_
      refine v_getA hB hK (fl_X11_45 g) (cMA_0_9 g) dX11_lifts_39 ?_
      refine v_iload hB 2 dX11_lifts_42 rfl ?_
      refine v_aload_n hB 0 dX11_lifts_44 rfl rfl ?_
      refine v_getA hB hK (fl_X11_67 g) (cMA_0_19 g) dX11_lifts_45 ?_
      refine v_iload hB 2 dX11_lifts_48 rfl ?_
      refine v_lald hB hK (aMJ_15 g) dX11_lifts_50 ?_
      refine v_last hB hK (aMJ_8 g) dX11_lifts_51 ?_
      refine v_iinc hB (v4 + 1) [(0, .ref ((SM g).1.2.1 0)), (3, .int v3), (4, .int (v4 + 1))] 2 [1, 2, 0] dX11_lifts_52 rfl rfl (by decide) rfl ?_
      refine v_goto (tgt := 29) hB dX11_lifts_55 rfl ?_
      exact V.sub [0, 1, 2] rfl (ih29 (v4 + 1) (wJ h 8 v4.toNatClampNeg (rJ h 15 v4.toNatClampNeg)))
  unfold f_X11_lifts
  refine v_aload_n hB 0 dX11_lifts_0 rfl rfl ?_
  refine v_getA hB hK (fl_X11_36 g) (cMA_0_4 g) dX11_lifts_1 ?_
  refine v_iload_n hB 1 dX11_lifts_4 rfl rfl ?_
  refine v_iald hB hK (aMI_5 g) dX11_lifts_5 ?_
  refine v_iload_n hB 2 dX11_lifts_6 rfl rfl ?_
  refine v_iadd hB dX11_lifts_7 ?_
  refine v_istore_n hB [(0, .ref ((SM g).1.2.1 0)), (1, .int p1), (2, .int p2), (3, .int ((rI h 5 p1.toNatClampNeg) + p2))] [1, 2, 3, 0] dX11_lifts_8 rfl (by decide) rfl ?_
  refine v_iload_n hB 3 dX11_lifts_9 rfl rfl ?_
  refine v_bipush hB 6 dX11_lifts_10 (by decide) ?_
  refine v_icmp_le (tgt := 18) hB dX11_lifts_12 rfl ?_ ?_
  · refine v_aload_n hB 0 dX11_lifts_18 rfl rfl ?_
    refine v_iload_n hB 1 dX11_lifts_19 rfl rfl ?_
    refine v_bipush hB 7 dX11_lifts_20 (by decide) ?_
    refine v_iload_n hB 2 dX11_lifts_22 rfl rfl ?_
    refine v_bV (fun h23 e23 => v_callV hB hK hR.rm [.int p1, .int 7, .int p2] [] (oM_0 g) lb_X11_takes lv_X11_136 (c_X11_takes g hK.A X.1.2.1 p1 7 p2 h e23) dX11_lifts_23 rfl rfl (Nat.le_of_ble_eq_true rfl) (by decide) (by decide)) (fun h23 => ?_)
    refine v_iconst hB 0 dX11_lifts_26 (by decide) ?_
    refine v_istore hB [(0, .ref ((SM g).1.2.1 0)), (1, .int p1), (2, .int p2), (3, .int ((rI h 5 p1.toNatClampNeg) + p2)), (4, .int 0)] [1, 2, 3, 4, 0] dX11_lifts_27 (by decide) rfl ?_
    exact V.sub [0, 3, 4] rfl (hn29 ((rI h 5 p1.toNatClampNeg) + p2) 1000 0 h23)
  · refine v_bipush hB (-6) dX11_lifts_15 (by decide) ?_
    exact v_retWi (x := (-6)) hB hK hR dX11_lifts_17

def f_X11_turnsBelow_j31 (p1 : Int32) (h : pq_H) : Option (Int32 × pq_H) :=
  gd (inb p1 6) (bd2 (f_X11_comesIf (rI h 5 p1.toNatClampNeg) h) fun r38 h38 => some (r38, h38))
def f_X11_turnsBelow_l2 (p1 : Int32) (w2 : Int32 → pq_H → Option (Int32 × pq_H)) (v2 : Int32) (h : pq_H) : Option (Int32 × pq_H) :=
  (f_X11_isTerm p1 v2 h).bind fun r5 => if r5 = true then ((f_X11_coefficientOf p1 v2 h).bind fun r19 => gd (inb v2 28) (w2 (v2 + 1) (wJ h 8 v2.toNatClampNeg ((-r19).toInt64)))) else (f_X11_turnsBelow_j31 p1 h)
def f_X11_turnsBelow (p1 : Int32) (h : pq_H) : Option (Int32 × pq_H) :=
  lp (fun _ _ => none) (f_X11_turnsBelow_l2 p1) 1000 0 h
set_option maxRecDepth 100000 in
set_option maxHeartbeats 4000000 in
theorem c_X11_turnsBelow (g : pq_g) {A : Nat → Prop} (hA : pq_A (SM g) A) (l : Launch) (p1 : Int32) (h : pq_H) {rr : Int32} {hh : pq_H} (e : f_X11_turnsBelow p1 h = some (rr, hh)) : pq_M (SM g) A l yX11_turnsBelow cX11_turnsBelow 3 (some .int) 3 71 [.ref ((SM g).1.2.1 0), .int p1] h (some (.int rr)) hh := by
  refine pq_met hA l (own := RX11) 3 71 _ [(0, .ref ((SM g).1.2.1 0)), (1, .int p1)] h _ hh (by decide +kernel) rfl (Nat.le_of_ble_eq_true rfl) rfl (fun X hXl hXA hB hK hR => ?_)
  refine V.cast (F' := f_X11_turnsBelow p1 h) (res' := (rr, hh)) (fun _ => e) ?_
  have hn31 : ∀ (h : pq_H), V X (SM g) (rr, hh) 3 31 [(0, .ref ((SM g).1.2.1 0)), (1, .int p1)] [] h (f_X11_turnsBelow_j31 p1 h) := by
    intro h
    unfold f_X11_turnsBelow_j31
    refine v_aload_n hB 0 dX11_turnsBelow_31 rfl rfl ?_
    refine v_aload_n hB 0 dX11_turnsBelow_32 rfl rfl ?_
    refine v_getA hB hK (fl_X11_36 g) (cMA_0_4 g) dX11_turnsBelow_33 ?_
    refine v_iload_n hB 1 dX11_turnsBelow_36 rfl rfl ?_
    refine v_iald hB hK (aMI_5 g) dX11_turnsBelow_37 ?_
    refine v_bWi (fun r38 h38 e38 => v_callV hB hK hR.rm [.int (rI h 5 p1.toNatClampNeg)] [] (oM_0 g) lb_X11_comesIf lv_X11_133 (c_X11_comesIf g hK.A X.1.2.1 (rI h 5 p1.toNatClampNeg) h e38) dX11_turnsBelow_38 rfl rfl (Nat.le_of_ble_eq_true rfl) (by decide) (by decide)) (fun r38 h38 => ?_)
    exact v_retWi (x := r38) hB hK hR dX11_turnsBelow_41
  have hn2 : ∀ (n : Nat), ∀ (v2 : Int32) (h : pq_H), V X (SM g) (rr, hh) 3 2 [(0, .ref ((SM g).1.2.1 0)), (1, .int p1), (2, .int v2)] [] h (lp (fun _ _ => none) (f_X11_turnsBelow_l2 p1) n v2 h) := by
    refine lp_ind (fun (w2 : Int32 → pq_H → Option (Int32 × pq_H)) => ∀ (v2 : Int32) (h : pq_H), V X (SM g) (rr, hh) 3 2 [(0, .ref ((SM g).1.2.1 0)), (1, .int p1), (2, .int v2)] [] h (w2 v2 h)) (fun _ _ => V.none _ _ _ _) (fun w2 ih2 => ?_)
    intro v2 h
    unfold f_X11_turnsBelow_l2
    refine v_aload_n hB 0 dX11_turnsBelow_2 rfl rfl ?_
    refine v_iload_n hB 1 dX11_turnsBelow_3 rfl rfl ?_
    refine v_iload_n hB 2 dX11_turnsBelow_4 rfl rfl ?_
    refine v_bRz (fun r5 e5 => v_callV hB hK hR.rm [.int p1, .int v2] [] (oM_0 g) lb_X11_isTerm lv_X11_111 (c_X11_isTerm g hK.A X.1.2.1 p1 v2 h e5) dX11_turnsBelow_5 rfl rfl (Nat.le_of_ble_eq_true rfl) (by decide) (by decide)) (fun r5 => ?_)
    refine v_ifz_eq (r := r5) (tgt := 31) hB dX11_turnsBelow_8 rfl ?_ ?_
    · exact V.sub [0, 1] rfl (hn31 h)
    · refine v_aload_n hB 0 dX11_turnsBelow_11 rfl rfl ?_
      refine v_getA hB hK (fl_X11_45 g) (cMA_0_9 g) dX11_turnsBelow_12 ?_
      refine v_iload_n hB 2 dX11_turnsBelow_15 rfl rfl ?_
      refine v_aload_n hB 0 dX11_turnsBelow_16 rfl rfl ?_
      refine v_iload_n hB 1 dX11_turnsBelow_17 rfl rfl ?_
      refine v_iload_n hB 2 dX11_turnsBelow_18 rfl rfl ?_
      refine v_bRi (fun r19 e19 => v_callV hB hK hR.rm [.int p1, .int v2] [.int v2, .ref ((SM g).1.2.1 8)] (oM_0 g) lb_X11_coefficientOf lv_X11_115 (c_X11_coefficientOf g hK.A X.1.2.1 p1 v2 h e19) dX11_turnsBelow_19 rfl rfl (Nat.le_of_ble_eq_true rfl) (by decide) (by decide)) (fun r19 => ?_)
      refine v_ineg hB dX11_turnsBelow_22 ?_
      refine v_i2l hB dX11_turnsBelow_23 ?_
      refine v_last hB hK (aMJ_8 g) dX11_turnsBelow_24 ?_
      refine v_iinc hB (v2 + 1) [(0, .ref ((SM g).1.2.1 0)), (1, .int p1), (2, .int (v2 + 1))] 2 [1, 2, 0] dX11_turnsBelow_25 rfl rfl (by decide) rfl ?_
      refine v_goto (tgt := 2) hB dX11_turnsBelow_28 rfl ?_
      exact V.sub [0, 1, 2] rfl (ih2 (v2 + 1) (wJ h 8 v2.toNatClampNeg ((-r19).toInt64)))
  unfold f_X11_turnsBelow
  refine v_iconst hB 0 dX11_turnsBelow_0 (by decide) ?_
  refine v_istore_n hB [(0, .ref ((SM g).1.2.1 0)), (1, .int p1), (2, .int 0)] [1, 2, 0] dX11_turnsBelow_1 rfl (by decide) rfl ?_
  exact V.sub [0, 1, 2] rfl (hn2 1000 0 h)

def f_X11_staysOn_j48 (p1 : Int32) (h : pq_H) : Option (Int32 × pq_H) :=
  gd (inb p1 6) (bd2 (f_X11_comesIf (rI h 5 p1.toNatClampNeg) h) fun r55 h55 => some (r55, h55))
def f_X11_staysOn_j41 (w2 : Int32 → pq_H → Option (Int32 × pq_H)) (v3 : Int32) (s1 : Int32) (s2 : Int64) (h : pq_H) : Option (Int32 × pq_H) :=
  gd (inb s1 28) (w2 (v3 + 1) (wJ h 8 s1.toNatClampNeg s2))
def f_X11_staysOn_l2 (p1 : Int32) (p2 : Int32) (w2 : Int32 → pq_H → Option (Int32 × pq_H)) (v3 : Int32) (h : pq_H) : Option (Int32 × pq_H) :=
  (f_X11_isTerm p1 v3 h).bind fun r5 => if r5 = true then (gd (inb p1 6) ((f_X11_isOn (rI h 5 p1.toNatClampNeg) v3 p2).bind fun r24 => if r24 = true then ((f_X11_coefficientOf p1 v3 h).bind fun r33 => f_X11_staysOn_j41 w2 v3 v3 r33.toInt64 h) else (f_X11_staysOn_j41 w2 v3 v3 0 h))) else (f_X11_staysOn_j48 p1 h)
def f_X11_staysOn (p1 : Int32) (p2 : Int32) (h : pq_H) : Option (Int32 × pq_H) :=
  lp (fun _ _ => none) (f_X11_staysOn_l2 p1 p2) 1000 0 h
set_option maxRecDepth 100000 in
set_option maxHeartbeats 4000000 in
theorem c_X11_staysOn (g : pq_g) {A : Nat → Prop} (hA : pq_A (SM g) A) (l : Launch) (p1 : Int32) (p2 : Int32) (h : pq_H) {rr : Int32} {hh : pq_H} (e : f_X11_staysOn p1 p2 h = some (rr, hh)) : pq_M (SM g) A l yX11_staysOn cX11_staysOn 4 (some .int) 3 71 [.ref ((SM g).1.2.1 0), .int p1, .int p2] h (some (.int rr)) hh := by
  refine pq_met hA l (own := RX11) 3 71 _ [(0, .ref ((SM g).1.2.1 0)), (1, .int p1), (2, .int p2)] h _ hh (by decide +kernel) rfl (Nat.le_of_ble_eq_true rfl) rfl (fun X hXl hXA hB hK hR => ?_)
  refine V.cast (F' := f_X11_staysOn p1 p2 h) (res' := (rr, hh)) (fun _ => e) ?_
  have hn48 : ∀ (h : pq_H), V X (SM g) (rr, hh) 4 48 [(0, .ref ((SM g).1.2.1 0)), (1, .int p1)] [] h (f_X11_staysOn_j48 p1 h) := by
    intro h
    unfold f_X11_staysOn_j48
    refine v_aload_n hB 0 dX11_staysOn_48 rfl rfl ?_
    refine v_aload_n hB 0 dX11_staysOn_49 rfl rfl ?_
    refine v_getA hB hK (fl_X11_36 g) (cMA_0_4 g) dX11_staysOn_50 ?_
    refine v_iload_n hB 1 dX11_staysOn_53 rfl rfl ?_
    refine v_iald hB hK (aMI_5 g) dX11_staysOn_54 ?_
    refine v_bWi (fun r55 h55 e55 => v_callV hB hK hR.rm [.int (rI h 5 p1.toNatClampNeg)] [] (oM_0 g) lb_X11_comesIf lv_X11_133 (c_X11_comesIf g hK.A X.1.2.1 (rI h 5 p1.toNatClampNeg) h e55) dX11_staysOn_55 rfl rfl (Nat.le_of_ble_eq_true rfl) (by decide) (by decide)) (fun r55 h55 => ?_)
    exact v_retWi (x := r55) hB hK hR dX11_staysOn_58
  have hn2 : ∀ (n : Nat), ∀ (v3 : Int32) (h : pq_H), V X (SM g) (rr, hh) 4 2 [(0, .ref ((SM g).1.2.1 0)), (1, .int p1), (2, .int p2), (3, .int v3)] [] h (lp (fun _ _ => none) (f_X11_staysOn_l2 p1 p2) n v3 h) := by
    refine lp_ind (fun (w2 : Int32 → pq_H → Option (Int32 × pq_H)) => ∀ (v3 : Int32) (h : pq_H), V X (SM g) (rr, hh) 4 2 [(0, .ref ((SM g).1.2.1 0)), (1, .int p1), (2, .int p2), (3, .int v3)] [] h (w2 v3 h)) (fun _ _ => V.none _ _ _ _) (fun w2 ih2 => ?_)
    have hn41 : ∀ (v3 : Int32) (s1 : Int32) (s2 : Int64) (h : pq_H), V X (SM g) (rr, hh) 4 41 [(0, .ref ((SM g).1.2.1 0)), (1, .int p1), (2, .int p2), (3, .int v3)] [.long s2, .int s1, .ref ((SM g).1.2.1 8)] h (f_X11_staysOn_j41 w2 v3 s1 s2 h) := by
      intro v3 s1 s2 h
      unfold f_X11_staysOn_j41
      refine v_last hB hK (aMJ_8 g) dX11_staysOn_41 ?_
      refine v_iinc hB (v3 + 1) [(0, .ref ((SM g).1.2.1 0)), (1, .int p1), (2, .int p2), (3, .int (v3 + 1))] 3 [1, 2, 3, 0] dX11_staysOn_42 rfl rfl (by decide) rfl ?_
      refine v_goto (tgt := 2) hB dX11_staysOn_45 rfl ?_
      exact V.sub [0, 1, 2, 3] rfl (ih2 (v3 + 1) (wJ h 8 s1.toNatClampNeg s2))
    intro v3 h
    unfold f_X11_staysOn_l2
    refine v_aload_n hB 0 dX11_staysOn_2 rfl rfl ?_
    refine v_iload_n hB 1 dX11_staysOn_3 rfl rfl ?_
    refine v_iload_n hB 3 dX11_staysOn_4 rfl rfl ?_
    refine v_bRz (fun r5 e5 => v_callV hB hK hR.rm [.int p1, .int v3] [] (oM_0 g) lb_X11_isTerm lv_X11_111 (c_X11_isTerm g hK.A X.1.2.1 p1 v3 h e5) dX11_staysOn_5 rfl rfl (Nat.le_of_ble_eq_true rfl) (by decide) (by decide)) (fun r5 => ?_)
    refine v_ifz_eq (r := r5) (tgt := 48) hB dX11_staysOn_8 rfl ?_ ?_
    · exact V.sub [0, 1] rfl (hn48 h)
    · refine v_aload_n hB 0 dX11_staysOn_11 rfl rfl ?_
      refine v_getA hB hK (fl_X11_45 g) (cMA_0_9 g) dX11_staysOn_12 ?_
      refine v_iload_n hB 3 dX11_staysOn_15 rfl rfl ?_
      refine v_aload_n hB 0 dX11_staysOn_16 rfl rfl ?_
      refine v_getA hB hK (fl_X11_36 g) (cMA_0_4 g) dX11_staysOn_17 ?_
      refine v_iload_n hB 1 dX11_staysOn_20 rfl rfl ?_
      refine v_iald hB hK (aMI_5 g) dX11_staysOn_21 ?_
      refine v_iload_n hB 3 dX11_staysOn_22 rfl rfl ?_
      refine v_iload_n hB 2 dX11_staysOn_23 rfl rfl ?_
      refine v_bRz (fun r24 e24 => v_callS hB hK hR.rm [.int (rI h 5 p1.toNatClampNeg), .int v3, .int p2] [.int v3, .ref ((SM g).1.2.1 8)] lb_X11_isOn lv_X11_140 (c_X11_isOn g hK.A X.1.2.1 (rI h 5 p1.toNatClampNeg) v3 p2 h e24) dX11_staysOn_24 rfl rfl (Nat.le_of_ble_eq_true rfl) (by decide) (by decide)) (fun r24 => ?_)
      refine v_ifz_eq (r := r24) (tgt := 40) hB dX11_staysOn_27 rfl ?_ ?_
      · refine v_lconst hB 0 dX11_staysOn_40 (by decide) ?_
        exact V.sub [0, 1, 2, 3] rfl (hn41 v3 v3 0 h)
      · refine v_aload_n hB 0 dX11_staysOn_30 rfl rfl ?_
        refine v_iload_n hB 1 dX11_staysOn_31 rfl rfl ?_
        refine v_iload_n hB 3 dX11_staysOn_32 rfl rfl ?_
        refine v_bRi (fun r33 e33 => v_callV hB hK hR.rm [.int p1, .int v3] [.int v3, .ref ((SM g).1.2.1 8)] (oM_0 g) lb_X11_coefficientOf lv_X11_115 (c_X11_coefficientOf g hK.A X.1.2.1 p1 v3 h e33) dX11_staysOn_33 rfl rfl (Nat.le_of_ble_eq_true rfl) (by decide) (by decide)) (fun r33 => ?_)
        refine v_i2l hB dX11_staysOn_36 ?_
        refine v_goto (tgt := 41) hB dX11_staysOn_37 rfl ?_
        exact V.sub [0, 1, 2, 3] rfl (hn41 v3 v3 r33.toInt64 h)
  unfold f_X11_staysOn
  refine v_iconst hB 0 dX11_staysOn_0 (by decide) ?_
  refine v_istore_n hB [(0, .ref ((SM g).1.2.1 0)), (1, .int p1), (2, .int p2), (3, .int 0)] [1, 2, 3, 0] dX11_staysOn_1 rfl (by decide) rfl ?_
  exact V.sub [0, 1, 2, 3] rfl (hn2 1000 0 h)

def f_X11_told (p1 : Int32) (h : pq_H) : Option (Int32 × pq_H) :=
  if 0 ≤ p1 then (some (p1, wI h 0 8 0)) else (bd2 (f_X11_no p1 h) fun r6 h6 => some (r6, h6))
set_option maxRecDepth 100000 in
set_option maxHeartbeats 4000000 in
theorem c_X11_told (g : pq_g) {A : Nat → Prop} (hA : pq_A (SM g) A) (l : Launch) (p1 : Int32) (h : pq_H) {rr : Int32} {hh : pq_H} (e : f_X11_told p1 h = some (rr, hh)) : pq_M (SM g) A l yX11_told cX11_told 2 (some .int) 1 21 [.ref ((SM g).1.2.1 0), .int p1] h (some (.int rr)) hh := by
  refine pq_met hA l (own := RX11) 1 21 _ [(0, .ref ((SM g).1.2.1 0)), (1, .int p1)] h _ hh (by decide +kernel) rfl (Nat.le_of_ble_eq_true rfl) rfl (fun X hXl hXA hB hK hR => ?_)
  refine V.cast (F' := f_X11_told p1 h) (res' := (rr, hh)) (fun _ => e) ?_
  unfold f_X11_told
  refine v_iload_n hB 1 dX11_told_0 rfl rfl ?_
  refine v_if_ge (tgt := 10) hB dX11_told_1 rfl ?_ ?_
  · refine v_aload_n hB 0 dX11_told_10 rfl rfl ?_
    refine v_iconst hB 0 dX11_told_11 (by decide) ?_
    refine v_putI hB hK (fl_X11_119 g) (fin_X11_8 g) (cMI_0_8 g) dX11_told_12 ?_
    refine v_iload_n hB 1 dX11_told_15 rfl rfl ?_
    exact v_retWi (x := p1) hB hK hR dX11_told_16
  · refine v_aload_n hB 0 dX11_told_4 rfl rfl ?_
    refine v_iload_n hB 1 dX11_told_5 rfl rfl ?_
    refine v_bWi (fun r6 h6 e6 => v_callV hB hK hR.rm [.int p1] [] (oM_0 g) lb_X11_no lv_X11_8 (c_X11_no g hK.A X.1.2.1 p1 h e6) dX11_told_6 rfl rfl (Nat.le_of_ble_eq_true rfl) (by decide) (by decide)) (fun r6 h6 => ?_)
    exact v_retWi (x := r6) hB hK hR dX11_told_9

def f_X11_sum_j16 (h : pq_H) : Option (Int32 × pq_H) :=
  bd2 (f_X11_no (-1) h) fun r18 h18 => some (r18, h18)
def f_X11_sum (p1 : Int32) (p2 : Int32) (h : pq_H) : Option (Int32 × pq_H) :=
  if (f_X11_isForm p1 h) = true then (if (f_X11_isForm p2 h) = true then (gd (inb p1 6) (gd (inb p2 6) (if (rI h 5 p1.toNatClampNeg) = (rI h 5 p2.toNatClampNeg) then (bd2 (f_X11_sums p1 p2 h) fun r50 h50 => bd2 (f_X11_told r50 h50) fun r53 h53 => some (r53, h53)) else (bd2 (f_X11_no (-3) h) fun r40 h40 => some (r40, h40))))) else (f_X11_sum_j16 h)) else (f_X11_sum_j16 h)
set_option maxRecDepth 100000 in
set_option maxHeartbeats 4000000 in
theorem c_X11_sum (g : pq_g) {A : Nat → Prop} (hA : pq_A (SM g) A) (l : Launch) (p1 : Int32) (p2 : Int32) (h : pq_H) {rr : Int32} {hh : pq_H} (e : f_X11_sum p1 p2 h = some (rr, hh)) : pq_M (SM g) A l yX11_sum cX11_sum 3 (some .int) 4 94 [.ref ((SM g).1.2.1 0), .int p1, .int p2] h (some (.int rr)) hh := by
  refine pq_met hA l (own := RX11) 4 94 _ [(0, .ref ((SM g).1.2.1 0)), (1, .int p1), (2, .int p2)] h _ hh (by decide +kernel) rfl (Nat.le_of_ble_eq_true rfl) rfl (fun X hXl hXA hB hK hR => ?_)
  refine V.cast (F' := f_X11_sum p1 p2 h) (res' := (rr, hh)) (fun _ => e) ?_
  have hn16 : ∀ (h : pq_H), V X (SM g) (rr, hh) 3 16 [(0, .ref ((SM g).1.2.1 0))] [] h (f_X11_sum_j16 h) := by
    intro h
    unfold f_X11_sum_j16
    refine v_aload_n hB 0 dX11_sum_16 rfl rfl ?_
    refine v_iconst hB (-1) dX11_sum_17 (by decide) ?_
    refine v_bWi (fun r18 h18 e18 => v_callV hB hK hR.rm [.int (-1)] [] (oM_0 g) lb_X11_no lv_X11_8 (c_X11_no g hK.A X.1.2.1 (-1) h e18) dX11_sum_18 rfl rfl (Nat.le_of_ble_eq_true rfl) (by decide) (by decide)) (fun r18 h18 => ?_)
    exact v_retWi (x := r18) hB hK hR dX11_sum_21
  unfold f_X11_sum
  refine v_aload_n hB 0 dX11_sum_0 rfl rfl ?_
  refine v_iload_n hB 1 dX11_sum_1 rfl rfl ?_
  refine v_bT (v_callV hB hK hR.rm [.int p1] [] (oM_0 g) lb_X11_isForm lv_X11_143 (c_X11_isForm g hK.A X.1.2.1 p1 h) dX11_sum_2 rfl rfl (Nat.le_of_ble_eq_true rfl) (by decide) (by decide)) ?_
  refine v_ifz_eq (r := f_X11_isForm p1 h) (tgt := 16) hB dX11_sum_5 rfl ?_ ?_
  · exact V.sub [0] rfl (hn16 h)
  · refine v_aload_n hB 0 dX11_sum_8 rfl rfl ?_
    refine v_iload_n hB 2 dX11_sum_9 rfl rfl ?_
    refine v_bT (v_callV hB hK hR.rm [.int p2] [] (oM_0 g) lb_X11_isForm lv_X11_143 (c_X11_isForm g hK.A X.1.2.1 p2 h) dX11_sum_10 rfl rfl (Nat.le_of_ble_eq_true rfl) (by decide) (by decide)) ?_
    refine v_ifz_ne (r := f_X11_isForm p2 h) (tgt := 22) hB dX11_sum_13 rfl ?_ ?_
    · refine v_aload_n hB 0 dX11_sum_22 rfl rfl ?_
      refine v_getA hB hK (fl_X11_36 g) (cMA_0_4 g) dX11_sum_23 ?_
      refine v_iload_n hB 1 dX11_sum_26 rfl rfl ?_
      refine v_iald hB hK (aMI_5 g) dX11_sum_27 ?_
      refine v_aload_n hB 0 dX11_sum_28 rfl rfl ?_
      refine v_getA hB hK (fl_X11_36 g) (cMA_0_4 g) dX11_sum_29 ?_
      refine v_iload_n hB 2 dX11_sum_32 rfl rfl ?_
      refine v_iald hB hK (aMI_5 g) dX11_sum_33 ?_
      refine v_icmp_eq (tgt := 46) hB dX11_sum_34 rfl ?_ ?_
      · refine v_aload_n hB 0 dX11_sum_46 rfl rfl ?_
        refine v_aload_n hB 0 dX11_sum_47 rfl rfl ?_
        refine v_iload_n hB 1 dX11_sum_48 rfl rfl ?_
        refine v_iload_n hB 2 dX11_sum_49 rfl rfl ?_
        refine v_bWi (fun r50 h50 e50 => v_callV hB hK hR.rm [.int p1, .int p2] [.ref ((SM g).1.2.1 0)] (oM_0 g) lb_X11_sums lv_X11_146 (c_X11_sums g hK.A X.1.2.1 p1 p2 h e50) dX11_sum_50 rfl rfl (Nat.le_of_ble_eq_true rfl) (by decide) (by decide)) (fun r50 h50 => ?_)
        refine v_bWi (fun r53 h53 e53 => v_callV hB hK hR.rm [.int r50] [] (oM_0 g) lb_X11_told lv_X11_149 (c_X11_told g hK.A X.1.2.1 r50 h50 e53) dX11_sum_53 rfl rfl (Nat.le_of_ble_eq_true rfl) (by decide) (by decide)) (fun r53 h53 => ?_)
        exact v_retWi (x := r53) hB hK hR dX11_sum_56
      · refine v_aload_n hB 0 dX11_sum_37 rfl rfl ?_
        refine v_bipush hB (-3) dX11_sum_38 (by decide) ?_
        refine v_bWi (fun r40 h40 e40 => v_callV hB hK hR.rm [.int (-3)] [] (oM_0 g) lb_X11_no lv_X11_8 (c_X11_no g hK.A X.1.2.1 (-3) h e40) dX11_sum_40 rfl rfl (Nat.le_of_ble_eq_true rfl) (by decide) (by decide)) (fun r40 h40 => ?_)
        refine v_goto (tgt := 56) hB dX11_sum_43 rfl ?_
        exact v_retWi (x := r40) hB hK hR dX11_sum_56
    · exact V.sub [0] rfl (hn16 h)

def f_X11_product_j16 (h : pq_H) : Option (Int32 × pq_H) :=
  bd2 (f_X11_no (-1) h) fun r18 h18 => some (r18, h18)
def f_X11_product (p1 : Int32) (p2 : Int32) (h : pq_H) : Option (Int32 × pq_H) :=
  if (f_X11_isForm p1 h) = true then (if (f_X11_isForm p2 h) = true then (bd2 (f_X11_multiplies p1 p2 h) fun r28 h28 => bd2 (f_X11_told r28 h28) fun r31 h31 => some (r31, h31)) else (f_X11_product_j16 h)) else (f_X11_product_j16 h)
set_option maxRecDepth 100000 in
set_option maxHeartbeats 4000000 in
theorem c_X11_product (g : pq_g) {A : Nat → Prop} (hA : pq_A (SM g) A) (l : Launch) (p1 : Int32) (p2 : Int32) (h : pq_H) {rr : Int32} {hh : pq_H} (e : f_X11_product p1 p2 h = some (rr, hh)) : pq_M (SM g) A l yX11_product cX11_product 3 (some .int) 4 96 [.ref ((SM g).1.2.1 0), .int p1, .int p2] h (some (.int rr)) hh := by
  refine pq_met hA l (own := RX11) 4 96 _ [(0, .ref ((SM g).1.2.1 0)), (1, .int p1), (2, .int p2)] h _ hh (by decide +kernel) rfl (Nat.le_of_ble_eq_true rfl) rfl (fun X hXl hXA hB hK hR => ?_)
  refine V.cast (F' := f_X11_product p1 p2 h) (res' := (rr, hh)) (fun _ => e) ?_
  have hn16 : ∀ (h : pq_H), V X (SM g) (rr, hh) 3 16 [(0, .ref ((SM g).1.2.1 0))] [] h (f_X11_product_j16 h) := by
    intro h
    unfold f_X11_product_j16
    refine v_aload_n hB 0 dX11_product_16 rfl rfl ?_
    refine v_iconst hB (-1) dX11_product_17 (by decide) ?_
    refine v_bWi (fun r18 h18 e18 => v_callV hB hK hR.rm [.int (-1)] [] (oM_0 g) lb_X11_no lv_X11_8 (c_X11_no g hK.A X.1.2.1 (-1) h e18) dX11_product_18 rfl rfl (Nat.le_of_ble_eq_true rfl) (by decide) (by decide)) (fun r18 h18 => ?_)
    refine v_goto (tgt := 34) hB dX11_product_21 rfl ?_
    exact v_retWi (x := r18) hB hK hR dX11_product_34
  unfold f_X11_product
  refine v_aload_n hB 0 dX11_product_0 rfl rfl ?_
  refine v_iload_n hB 1 dX11_product_1 rfl rfl ?_
  refine v_bT (v_callV hB hK hR.rm [.int p1] [] (oM_0 g) lb_X11_isForm lv_X11_143 (c_X11_isForm g hK.A X.1.2.1 p1 h) dX11_product_2 rfl rfl (Nat.le_of_ble_eq_true rfl) (by decide) (by decide)) ?_
  refine v_ifz_eq (r := f_X11_isForm p1 h) (tgt := 16) hB dX11_product_5 rfl ?_ ?_
  · exact V.sub [0] rfl (hn16 h)
  · refine v_aload_n hB 0 dX11_product_8 rfl rfl ?_
    refine v_iload_n hB 2 dX11_product_9 rfl rfl ?_
    refine v_bT (v_callV hB hK hR.rm [.int p2] [] (oM_0 g) lb_X11_isForm lv_X11_143 (c_X11_isForm g hK.A X.1.2.1 p2 h) dX11_product_10 rfl rfl (Nat.le_of_ble_eq_true rfl) (by decide) (by decide)) ?_
    refine v_ifz_ne (r := f_X11_isForm p2 h) (tgt := 24) hB dX11_product_13 rfl ?_ ?_
    · refine v_aload_n hB 0 dX11_product_24 rfl rfl ?_
      refine v_aload_n hB 0 dX11_product_25 rfl rfl ?_
      refine v_iload_n hB 1 dX11_product_26 rfl rfl ?_
      refine v_iload_n hB 2 dX11_product_27 rfl rfl ?_
      refine v_bWi (fun r28 h28 e28 => v_callV hB hK hR.rm [.int p1, .int p2] [.ref ((SM g).1.2.1 0)] (oM_0 g) lb_X11_multiplies lv_X11_151 (c_X11_multiplies g hK.A X.1.2.1 p1 p2 h e28) dX11_product_28 rfl rfl (Nat.le_of_ble_eq_true rfl) (by decide) (by decide)) (fun r28 h28 => ?_)
      refine v_bWi (fun r31 h31 e31 => v_callV hB hK hR.rm [.int r28] [] (oM_0 g) lb_X11_told lv_X11_149 (c_X11_told g hK.A X.1.2.1 r28 h28 e31) dX11_product_31 rfl rfl (Nat.le_of_ble_eq_true rfl) (by decide) (by decide)) (fun r31 h31 => ?_)
      exact v_retWi (x := r31) hB hK hR dX11_product_34
    · exact V.sub [0] rfl (hn16 h)

def f_X11_lift_j19 (p1 : Int32) (p2 : Int32) (s0 : Int32) (h : pq_H) : Option (Int32 × pq_H) :=
  if s0 = 0 then (bd2 (f_X11_lifts p1 p2 h) fun r36 h36 => bd2 (f_X11_told r36 h36) fun r39 h39 => some (r39, h39)) else (bd2 (f_X11_no s0 h) fun r26 h26 => some (r26, h26))
def f_X11_lift (p1 : Int32) (p2 : Int32) (h : pq_H) : Option (Int32 × pq_H) :=
  if (f_X11_isForm p1 h) = true then (f_X11_lift_j19 p1 p2 (f_X11_bound p2 0 6) h) else (f_X11_lift_j19 p1 p2 (-1) h)
set_option maxRecDepth 100000 in
set_option maxHeartbeats 4000000 in
theorem c_X11_lift (g : pq_g) {A : Nat → Prop} (hA : pq_A (SM g) A) (l : Launch) (p1 : Int32) (p2 : Int32) (h : pq_H) {rr : Int32} {hh : pq_H} (e : f_X11_lift p1 p2 h = some (rr, hh)) : pq_M (SM g) A l yX11_lift cX11_lift 4 (some .int) 5 119 [.ref ((SM g).1.2.1 0), .int p1, .int p2] h (some (.int rr)) hh := by
  refine pq_met hA l (own := RX11) 5 119 _ [(0, .ref ((SM g).1.2.1 0)), (1, .int p1), (2, .int p2)] h _ hh (by decide +kernel) rfl (Nat.le_of_ble_eq_true rfl) rfl (fun X hXl hXA hB hK hR => ?_)
  refine V.cast (F' := f_X11_lift p1 p2 h) (res' := (rr, hh)) (fun _ => e) ?_
  have hn19 : ∀ (s0 : Int32) (h : pq_H), V X (SM g) (rr, hh) 4 19 [(0, .ref ((SM g).1.2.1 0)), (1, .int p1), (2, .int p2)] [.int s0] h (f_X11_lift_j19 p1 p2 s0 h) := by
    intro s0 h
    unfold f_X11_lift_j19
    refine v_istore_n hB [(0, .ref ((SM g).1.2.1 0)), (1, .int p1), (2, .int p2), (3, .int s0)] [1, 2, 3, 0] dX11_lift_19 rfl (by decide) rfl ?_
    refine v_iload_n hB 3 dX11_lift_20 rfl rfl ?_
    refine v_if_eq (tgt := 32) hB dX11_lift_21 rfl ?_ ?_
    · refine v_aload_n hB 0 dX11_lift_32 rfl rfl ?_
      refine v_aload_n hB 0 dX11_lift_33 rfl rfl ?_
      refine v_iload_n hB 1 dX11_lift_34 rfl rfl ?_
      refine v_iload_n hB 2 dX11_lift_35 rfl rfl ?_
      refine v_bWi (fun r36 h36 e36 => v_callV hB hK hR.rm [.int p1, .int p2] [.ref ((SM g).1.2.1 0)] (oM_0 g) lb_X11_lifts lv_X11_157 (c_X11_lifts g hK.A X.1.2.1 p1 p2 h e36) dX11_lift_36 rfl rfl (Nat.le_of_ble_eq_true rfl) (by decide) (by decide)) (fun r36 h36 => ?_)
      refine v_bWi (fun r39 h39 e39 => v_callV hB hK hR.rm [.int r36] [] (oM_0 g) lb_X11_told lv_X11_149 (c_X11_told g hK.A X.1.2.1 r36 h36 e39) dX11_lift_39 rfl rfl (Nat.le_of_ble_eq_true rfl) (by decide) (by decide)) (fun r39 h39 => ?_)
      exact v_retWi (x := r39) hB hK hR dX11_lift_42
    · refine v_aload_n hB 0 dX11_lift_24 rfl rfl ?_
      refine v_iload_n hB 3 dX11_lift_25 rfl rfl ?_
      refine v_bWi (fun r26 h26 e26 => v_callV hB hK hR.rm [.int s0] [] (oM_0 g) lb_X11_no lv_X11_8 (c_X11_no g hK.A X.1.2.1 s0 h e26) dX11_lift_26 rfl rfl (Nat.le_of_ble_eq_true rfl) (by decide) (by decide)) (fun r26 h26 => ?_)
      refine v_goto (tgt := 42) hB dX11_lift_29 rfl ?_
      exact v_retWi (x := r26) hB hK hR dX11_lift_42
  unfold f_X11_lift
  refine v_aload_n hB 0 dX11_lift_0 rfl rfl ?_
  refine v_iload_n hB 1 dX11_lift_1 rfl rfl ?_
  refine v_bT (v_callV hB hK hR.rm [.int p1] [] (oM_0 g) lb_X11_isForm lv_X11_143 (c_X11_isForm g hK.A X.1.2.1 p1 h) dX11_lift_2 rfl rfl (Nat.le_of_ble_eq_true rfl) (by decide) (by decide)) ?_
  refine v_ifz_ne (r := f_X11_isForm p1 h) (tgt := 12) hB dX11_lift_5 rfl ?_ ?_
  · refine v_iload_n hB 2 dX11_lift_12 rfl rfl ?_
    refine v_iconst hB 0 dX11_lift_13 (by decide) ?_
    refine v_bipush hB 6 dX11_lift_14 (by decide) ?_
    refine v_bT (v_callS hB hK hR.rm [.int p2, .int 0, .int 6] [] lb_X11_bound lv_X11_154 (c_X11_bound g hK.A X.1.2.1 p2 0 6 h) dX11_lift_16 rfl rfl (Nat.le_of_ble_eq_true rfl) (by decide) (by decide)) ?_
    exact V.sub [0, 1, 2] rfl (hn19 (f_X11_bound p2 0 6) h)
  · refine v_iconst hB (-1) dX11_lift_8 (by decide) ?_
    refine v_goto (tgt := 19) hB dX11_lift_9 rfl ?_
    exact V.sub [0, 1, 2] rfl (hn19 (-1) h)

def f_X11_negative (p1 : Int32) (h : pq_H) : Option (Int32 × pq_H) :=
  if (f_X11_isForm p1 h) = true then (bd2 (f_X11_turnsBelow p1 h) fun r19 h19 => bd2 (f_X11_told r19 h19) fun r22 h22 => some (r22, h22)) else (bd2 (f_X11_no (-1) h) fun r10 h10 => some (r10, h10))
set_option maxRecDepth 100000 in
set_option maxHeartbeats 4000000 in
theorem c_X11_negative (g : pq_g) {A : Nat → Prop} (hA : pq_A (SM g) A) (l : Launch) (p1 : Int32) (h : pq_H) {rr : Int32} {hh : pq_H} (e : f_X11_negative p1 h = some (rr, hh)) : pq_M (SM g) A l yX11_negative cX11_negative 2 (some .int) 4 93 [.ref ((SM g).1.2.1 0), .int p1] h (some (.int rr)) hh := by
  refine pq_met hA l (own := RX11) 4 93 _ [(0, .ref ((SM g).1.2.1 0)), (1, .int p1)] h _ hh (by decide +kernel) rfl (Nat.le_of_ble_eq_true rfl) rfl (fun X hXl hXA hB hK hR => ?_)
  refine V.cast (F' := f_X11_negative p1 h) (res' := (rr, hh)) (fun _ => e) ?_
  unfold f_X11_negative
  refine v_aload_n hB 0 dX11_negative_0 rfl rfl ?_
  refine v_iload_n hB 1 dX11_negative_1 rfl rfl ?_
  refine v_bT (v_callV hB hK hR.rm [.int p1] [] (oM_0 g) lb_X11_isForm lv_X11_143 (c_X11_isForm g hK.A X.1.2.1 p1 h) dX11_negative_2 rfl rfl (Nat.le_of_ble_eq_true rfl) (by decide) (by decide)) ?_
  refine v_ifz_ne (r := f_X11_isForm p1 h) (tgt := 16) hB dX11_negative_5 rfl ?_ ?_
  · refine v_aload_n hB 0 dX11_negative_16 rfl rfl ?_
    refine v_aload_n hB 0 dX11_negative_17 rfl rfl ?_
    refine v_iload_n hB 1 dX11_negative_18 rfl rfl ?_
    refine v_bWi (fun r19 h19 e19 => v_callV hB hK hR.rm [.int p1] [.ref ((SM g).1.2.1 0)] (oM_0 g) lb_X11_turnsBelow lv_X11_160 (c_X11_turnsBelow g hK.A X.1.2.1 p1 h e19) dX11_negative_19 rfl rfl (Nat.le_of_ble_eq_true rfl) (by decide) (by decide)) (fun r19 h19 => ?_)
    refine v_bWi (fun r22 h22 e22 => v_callV hB hK hR.rm [.int r19] [] (oM_0 g) lb_X11_told lv_X11_149 (c_X11_told g hK.A X.1.2.1 r19 h19 e22) dX11_negative_22 rfl rfl (Nat.le_of_ble_eq_true rfl) (by decide) (by decide)) (fun r22 h22 => ?_)
    exact v_retWi (x := r22) hB hK hR dX11_negative_25
  · refine v_aload_n hB 0 dX11_negative_8 rfl rfl ?_
    refine v_iconst hB (-1) dX11_negative_9 (by decide) ?_
    refine v_bWi (fun r10 h10 e10 => v_callV hB hK hR.rm [.int (-1)] [] (oM_0 g) lb_X11_no lv_X11_8 (c_X11_no g hK.A X.1.2.1 (-1) h e10) dX11_negative_10 rfl rfl (Nat.le_of_ble_eq_true rfl) (by decide) (by decide)) (fun r10 h10 => ?_)
    refine v_goto (tgt := 25) hB dX11_negative_13 rfl ?_
    exact v_retWi (x := r10) hB hK hR dX11_negative_25

def f_X11_on_j15 (h : pq_H) : Option (Int32 × pq_H) :=
  bd2 (f_X11_no (-1) h) fun r17 h17 => some (r17, h17)
def f_X11_on (p1 : Int32) (p2 : Int32) (h : pq_H) : Option (Int32 × pq_H) :=
  if (f_X11_isForm p1 h) = true then (if (f_X11_isSide p2) = true then (bd2 (f_X11_staysOn p1 p2 h) fun r27 h27 => bd2 (f_X11_told r27 h27) fun r30 h30 => some (r30, h30)) else (f_X11_on_j15 h)) else (f_X11_on_j15 h)
set_option maxRecDepth 100000 in
set_option maxHeartbeats 4000000 in
theorem c_X11_on (g : pq_g) {A : Nat → Prop} (hA : pq_A (SM g) A) (l : Launch) (p1 : Int32) (p2 : Int32) (h : pq_H) {rr : Int32} {hh : pq_H} (e : f_X11_on p1 p2 h = some (rr, hh)) : pq_M (SM g) A l yX11_on cX11_on 3 (some .int) 4 94 [.ref ((SM g).1.2.1 0), .int p1, .int p2] h (some (.int rr)) hh := by
  refine pq_met hA l (own := RX11) 4 94 _ [(0, .ref ((SM g).1.2.1 0)), (1, .int p1), (2, .int p2)] h _ hh (by decide +kernel) rfl (Nat.le_of_ble_eq_true rfl) rfl (fun X hXl hXA hB hK hR => ?_)
  refine V.cast (F' := f_X11_on p1 p2 h) (res' := (rr, hh)) (fun _ => e) ?_
  have hn15 : ∀ (h : pq_H), V X (SM g) (rr, hh) 3 15 [(0, .ref ((SM g).1.2.1 0))] [] h (f_X11_on_j15 h) := by
    intro h
    unfold f_X11_on_j15
    refine v_aload_n hB 0 dX11_on_15 rfl rfl ?_
    refine v_iconst hB (-1) dX11_on_16 (by decide) ?_
    refine v_bWi (fun r17 h17 e17 => v_callV hB hK hR.rm [.int (-1)] [] (oM_0 g) lb_X11_no lv_X11_8 (c_X11_no g hK.A X.1.2.1 (-1) h e17) dX11_on_17 rfl rfl (Nat.le_of_ble_eq_true rfl) (by decide) (by decide)) (fun r17 h17 => ?_)
    refine v_goto (tgt := 33) hB dX11_on_20 rfl ?_
    exact v_retWi (x := r17) hB hK hR dX11_on_33
  unfold f_X11_on
  refine v_aload_n hB 0 dX11_on_0 rfl rfl ?_
  refine v_iload_n hB 1 dX11_on_1 rfl rfl ?_
  refine v_bT (v_callV hB hK hR.rm [.int p1] [] (oM_0 g) lb_X11_isForm lv_X11_143 (c_X11_isForm g hK.A X.1.2.1 p1 h) dX11_on_2 rfl rfl (Nat.le_of_ble_eq_true rfl) (by decide) (by decide)) ?_
  refine v_ifz_eq (r := f_X11_isForm p1 h) (tgt := 15) hB dX11_on_5 rfl ?_ ?_
  · exact V.sub [0] rfl (hn15 h)
  · refine v_iload_n hB 2 dX11_on_8 rfl rfl ?_
    refine v_bT (v_callS hB hK hR.rm [.int p2] [] lb_X11_isSide lv_X11_163 (c_X11_isSide g hK.A X.1.2.1 p2 h) dX11_on_9 rfl rfl (Nat.le_of_ble_eq_true rfl) (by decide) (by decide)) ?_
    refine v_ifz_ne (r := f_X11_isSide p2) (tgt := 23) hB dX11_on_12 rfl ?_ ?_
    · refine v_aload_n hB 0 dX11_on_23 rfl rfl ?_
      refine v_aload_n hB 0 dX11_on_24 rfl rfl ?_
      refine v_iload_n hB 1 dX11_on_25 rfl rfl ?_
      refine v_iload_n hB 2 dX11_on_26 rfl rfl ?_
      refine v_bWi (fun r27 h27 e27 => v_callV hB hK hR.rm [.int p1, .int p2] [.ref ((SM g).1.2.1 0)] (oM_0 g) lb_X11_staysOn lv_X11_166 (c_X11_staysOn g hK.A X.1.2.1 p1 p2 h e27) dX11_on_27 rfl rfl (Nat.le_of_ble_eq_true rfl) (by decide) (by decide)) (fun r27 h27 => ?_)
      refine v_bWi (fun r30 h30 e30 => v_callV hB hK hR.rm [.int r27] [] (oM_0 g) lb_X11_told lv_X11_149 (c_X11_told g hK.A X.1.2.1 r27 h27 e30) dX11_on_30 rfl rfl (Nat.le_of_ble_eq_true rfl) (by decide) (by decide)) (fun r30 h30 => ?_)
      exact v_retWi (x := r30) hB hK hR dX11_on_33
    · exact V.sub [0] rfl (hn15 h)

def f_X11_letter_j27 (h : pq_H) : Option (Int32 × pq_H) :=
  bd2 (f_X11_no (-6) h) fun r30 h30 => some (r30, h30)
def f_X11_letter (p1 : Int32) (h : pq_H) : Option (Int32 × pq_H) :=
  if 0 ≤ p1 then (if 255 < p1 then (f_X11_letter_j27 h) else (if (rI h 0 11) = 72 then (f_X11_letter_j27 h) else (gd (inb (rI h 0 11) 72) (hl (wI h 9 (rI h 0 11).toNatClampNeg p1) fun h43 => hl (wI h43 0 11 ((rI h43 0 11) + 1)) fun h51 => some (rI h51 0 11, h51))))) else (bd2 (f_X11_no (-4) h) fun r7 h7 => some (r7, h7))
set_option maxRecDepth 100000 in
set_option maxHeartbeats 4000000 in
theorem c_X11_letter (g : pq_g) {A : Nat → Prop} (hA : pq_A (SM g) A) (l : Launch) (p1 : Int32) (h : pq_H) {rr : Int32} {hh : pq_H} (e : f_X11_letter p1 h = some (rr, hh)) : pq_M (SM g) A l yX11_letter cX11_letter 2 (some .int) 1 21 [.ref ((SM g).1.2.1 0), .int p1] h (some (.int rr)) hh := by
  refine pq_met hA l (own := RX11) 1 21 _ [(0, .ref ((SM g).1.2.1 0)), (1, .int p1)] h _ hh (by decide +kernel) rfl (Nat.le_of_ble_eq_true rfl) rfl (fun X hXl hXA hB hK hR => ?_)
  refine V.cast (F' := f_X11_letter p1 h) (res' := (rr, hh)) (fun _ => e) ?_
  have hn27 : ∀ (h : pq_H), V X (SM g) (rr, hh) 2 27 [(0, .ref ((SM g).1.2.1 0))] [] h (f_X11_letter_j27 h) := by
    intro h
    unfold f_X11_letter_j27
    refine v_aload_n hB 0 dX11_letter_27 rfl rfl ?_
    refine v_bipush hB (-6) dX11_letter_28 (by decide) ?_
    refine v_bWi (fun r30 h30 e30 => v_callV hB hK hR.rm [.int (-6)] [] (oM_0 g) lb_X11_no lv_X11_8 (c_X11_no g hK.A X.1.2.1 (-6) h e30) dX11_letter_30 rfl rfl (Nat.le_of_ble_eq_true rfl) (by decide) (by decide)) (fun r30 h30 => ?_)
    exact v_retWi (x := r30) hB hK hR dX11_letter_33
  unfold f_X11_letter
  refine v_iload_n hB 1 dX11_letter_0 rfl rfl ?_
  refine v_if_ge (tgt := 11) hB dX11_letter_1 rfl ?_ ?_
  · refine v_iload_n hB 1 dX11_letter_11 rfl rfl ?_
    refine v_sipush hB 255 dX11_letter_12 (by decide) ?_
    refine v_icmp_gt (tgt := 27) hB dX11_letter_15 rfl ?_ ?_
    · exact V.sub [0] rfl (hn27 h)
    · refine v_aload_n hB 0 dX11_letter_18 rfl rfl ?_
      refine v_getI hB hK (fl_X11_169 g) (cMI_0_11 g) dX11_letter_19 ?_
      refine v_bipush hB 72 dX11_letter_22 (by decide) ?_
      refine v_icmp_ne (tgt := 34) hB dX11_letter_24 rfl ?_ ?_
      · refine v_aload_n hB 0 dX11_letter_34 rfl rfl ?_
        refine v_getA hB hK (fl_X11_49 g) (cMA_0_10 g) dX11_letter_35 ?_
        refine v_aload_n hB 0 dX11_letter_38 rfl rfl ?_
        refine v_getI hB hK (fl_X11_169 g) (cMI_0_11 g) dX11_letter_39 ?_
        refine v_iload_n hB 1 dX11_letter_42 rfl rfl ?_
        refine v_iast hB hK (aMI_9 g) dX11_letter_43 ?_
        refine v_hl (fun h43 => ?_)
        refine v_aload_n hB 0 dX11_letter_44 rfl rfl ?_
        refine v_dup hB dX11_letter_45 rfl ?_
        refine v_getI hB hK (fl_X11_169 g) (cMI_0_11 g) dX11_letter_46 ?_
        refine v_iconst hB 1 dX11_letter_49 (by decide) ?_
        refine v_iadd hB dX11_letter_50 ?_
        refine v_putI hB hK (fl_X11_169 g) (fin_X11_11 g) (cMI_0_11 g) dX11_letter_51 ?_
        refine v_hl (fun h51 => ?_)
        refine v_aload_n hB 0 dX11_letter_54 rfl rfl ?_
        refine v_getI hB hK (fl_X11_169 g) (cMI_0_11 g) dX11_letter_55 ?_
        exact v_retWi (x := rI h51 0 11) hB hK hR dX11_letter_58
      · exact V.sub [0] rfl (hn27 h)
  · refine v_aload_n hB 0 dX11_letter_4 rfl rfl ?_
    refine v_bipush hB (-4) dX11_letter_5 (by decide) ?_
    refine v_bWi (fun r7 h7 e7 => v_callV hB hK hR.rm [.int (-4)] [] (oM_0 g) lb_X11_no lv_X11_8 (c_X11_no g hK.A X.1.2.1 (-4) h e7) dX11_letter_7 rfl rfl (Nat.le_of_ble_eq_true rfl) (by decide) (by decide)) (fun r7 h7 => ?_)
    exact v_retWi (x := r7) hB hK hR dX11_letter_10

def f_X11_next (h : pq_H) : Option Int32 :=
  if (rI h 0 11) ≤ (rI h 0 12) then (some (-9)) else (gd (inb (rI h 0 12) 72) (some (rI h 9 (rI h 0 12).toNatClampNeg)))
set_option maxRecDepth 100000 in
set_option maxHeartbeats 4000000 in
theorem c_X11_next (g : pq_g) {A : Nat → Prop} (hA : pq_A (SM g) A) (l : Launch) (h : pq_H) {rr : Int32} (e : f_X11_next h = some rr) : pq_M (SM g) A l yX11_next cX11_next 1 (some .int) 0 0 [.ref ((SM g).1.2.1 0)] h (some (.int rr)) h := by
  refine pq_met hA l (own := RX11) 0 0 _ [(0, .ref ((SM g).1.2.1 0))] h _ h (by decide +kernel) rfl (Nat.le_of_ble_eq_true rfl) rfl (fun X hXl hXA hB hK hR => ?_)
  refine V.cast (F' := f_X11_next h) (res' := rr) (fun _ => e) ?_
  unfold f_X11_next
  refine v_aload_n hB 0 dX11_next_0 rfl rfl ?_
  refine v_getI hB hK (fl_X11_172 g) (cMI_0_12 g) dX11_next_1 ?_
  refine v_aload_n hB 0 dX11_next_4 rfl rfl ?_
  refine v_getI hB hK (fl_X11_169 g) (cMI_0_11 g) dX11_next_5 ?_
  refine v_icmp_ge (tgt := 23) hB dX11_next_8 rfl ?_ ?_
  · refine v_bipush hB (-9) dX11_next_23 (by decide) ?_
    exact v_retRi (x := (-9)) hB hK hR dX11_next_25
  · refine v_aload_n hB 0 dX11_next_11 rfl rfl ?_
    refine v_getA hB hK (fl_X11_49 g) (cMA_0_10 g) dX11_next_12 ?_
    refine v_aload_n hB 0 dX11_next_15 rfl rfl ?_
    refine v_getI hB hK (fl_X11_172 g) (cMI_0_12 g) dX11_next_16 ?_
    refine v_iald hB hK (aMI_9 g) dX11_next_19 ?_
    refine v_goto (tgt := 25) hB dX11_next_20 rfl ?_
    exact v_retRi (x := rI h 9 (rI h 0 12).toNatClampNeg) hB hK hR dX11_next_25

def f_X11_isDigit (h : pq_H) : Option Bool :=
  (f_X11_next h).bind fun r1 => some (f_X11_isIn r1 48 57)
set_option maxRecDepth 100000 in
set_option maxHeartbeats 4000000 in
theorem c_X11_isDigit (g : pq_g) {A : Nat → Prop} (hA : pq_A (SM g) A) (l : Launch) (h : pq_H) {rr : Bool} (e : f_X11_isDigit h = some rr) : pq_M (SM g) A l yX11_isDigit cX11_isDigit 1 (some .boolean) 1 22 [.ref ((SM g).1.2.1 0)] h (some (.int (b2i rr))) h := by
  refine pq_met hA l (own := RX11) 1 22 _ [(0, .ref ((SM g).1.2.1 0))] h _ h (by decide +kernel) rfl (Nat.le_of_ble_eq_true rfl) rfl (fun X hXl hXA hB hK hR => ?_)
  refine V.cast (F' := f_X11_isDigit h) (res' := rr) (fun _ => e) ?_
  unfold f_X11_isDigit
  refine v_aload_n hB 0 dX11_isDigit_0 rfl rfl ?_
  refine v_bRi (fun r1 e1 => v_callV hB hK hR.rm [] [] (oM_0 g) lb_X11_next lv_X11_175 (c_X11_next g hK.A X.1.2.1 h e1) dX11_isDigit_1 rfl rfl (Nat.le_of_ble_eq_true rfl) (by decide) (by decide)) (fun r1 => ?_)
  refine v_bipush hB 48 dX11_isDigit_4 (by decide) ?_
  refine v_bipush hB 57 dX11_isDigit_6 (by decide) ?_
  refine v_bT (v_callS hB hK hR.rm [.int r1, .int 48, .int 57] [] lb_X11_isIn lv_X11_98 (c_X11_isIn g hK.A X.1.2.1 r1 48 57 h) dX11_isDigit_8 rfl rfl (Nat.le_of_ble_eq_true rfl) (by decide) (by decide)) ?_
  exact v_retRz (x := f_X11_isIn r1 48 57) hB hK hR dX11_isDigit_11

def f_X11_readsPower (p1 : Int32) (p2 : Int32) (h : pq_H) : Option (Bool × pq_H) :=
  gd (inb p1 3) (hl (wI h 10 p1.toNatClampNeg 0) fun h6 => (f_X11_next h6).bind fun r8 => if r8 = (97 + p1) then (if 1 ≤ p2 then (hl (wI h6 0 12 ((rI h6 0 12) + 1)) fun h34 => gd (inb p1 3) (hl (wI h34 10 p1.toNatClampNeg 1) fun h43 => (f_X11_next h43).bind fun r45 => if r45 = 94 then (hl (wI h43 0 12 ((rI h43 0 12) + 1)) fun h62 => (f_X11_next h62).bind fun r66 => if (f_X11_isIn r66 49 54) = true then ((f_X11_next h62).bind fun r80 => if (r80 - 48) ≤ p2 then ((f_X11_next h62).bind fun r98 => gd (inb p1 3) (hl (wI h62 10 p1.toNatClampNeg (r98 - 48)) fun h104 => some (true, wI h104 0 12 ((rI h104 0 12) + 1)))) else (some (false, h62))) else (some (false, h62))) else (some (true, h43)))) else (some (false, h6))) else (some (true, h6)))
set_option maxRecDepth 100000 in
set_option maxHeartbeats 4000000 in
theorem c_X11_readsPower (g : pq_g) {A : Nat → Prop} (hA : pq_A (SM g) A) (l : Launch) (p1 : Int32) (p2 : Int32) (h : pq_H) {rr : Bool} {hh : pq_H} (e : f_X11_readsPower p1 p2 h = some (rr, hh)) : pq_M (SM g) A l yX11_readsPower cX11_readsPower 3 (some .boolean) 1 22 [.ref ((SM g).1.2.1 0), .int p1, .int p2] h (some (.int (b2i rr))) hh := by
  refine pq_met hA l (own := RX11) 1 22 _ [(0, .ref ((SM g).1.2.1 0)), (1, .int p1), (2, .int p2)] h _ hh (by decide +kernel) rfl (Nat.le_of_ble_eq_true rfl) rfl (fun X hXl hXA hB hK hR => ?_)
  refine V.cast (F' := f_X11_readsPower p1 p2 h) (res' := (rr, hh)) (fun _ => e) ?_
  unfold f_X11_readsPower
  refine v_aload_n hB 0 dX11_readsPower_0 rfl rfl ?_
  refine v_getA hB hK (fl_X11_52 g) (cMA_0_13 g) dX11_readsPower_1 ?_
  refine v_iload_n hB 1 dX11_readsPower_4 rfl rfl ?_
  refine v_iconst hB 0 dX11_readsPower_5 (by decide) ?_
  refine v_iast hB hK (aMI_10 g) dX11_readsPower_6 ?_
  refine v_hl (fun h6 => ?_)
  refine v_aload_n hB 0 dX11_readsPower_7 rfl rfl ?_
  refine v_bRi (fun r8 e8 => v_callV hB hK hR.rm [] [] (oM_0 g) lb_X11_next lv_X11_175 (c_X11_next g hK.A X.1.2.1 h6 e8) dX11_readsPower_8 rfl rfl (Nat.le_of_ble_eq_true rfl) (by decide) (by decide)) (fun r8 => ?_)
  refine v_bipush hB 97 dX11_readsPower_11 (by decide) ?_
  refine v_iload_n hB 1 dX11_readsPower_13 rfl rfl ?_
  refine v_iadd hB dX11_readsPower_14 ?_
  refine v_icmp_eq (tgt := 20) hB dX11_readsPower_15 rfl ?_ ?_
  · refine v_iload_n hB 2 dX11_readsPower_20 rfl rfl ?_
    refine v_iconst hB 1 dX11_readsPower_21 (by decide) ?_
    refine v_icmp_ge (tgt := 27) hB dX11_readsPower_22 rfl ?_ ?_
    · refine v_aload_n hB 0 dX11_readsPower_27 rfl rfl ?_
      refine v_dup hB dX11_readsPower_28 rfl ?_
      refine v_getI hB hK (fl_X11_172 g) (cMI_0_12 g) dX11_readsPower_29 ?_
      refine v_iconst hB 1 dX11_readsPower_32 (by decide) ?_
      refine v_iadd hB dX11_readsPower_33 ?_
      refine v_putI hB hK (fl_X11_172 g) (fin_X11_12 g) (cMI_0_12 g) dX11_readsPower_34 ?_
      refine v_hl (fun h34 => ?_)
      refine v_aload_n hB 0 dX11_readsPower_37 rfl rfl ?_
      refine v_getA hB hK (fl_X11_52 g) (cMA_0_13 g) dX11_readsPower_38 ?_
      refine v_iload_n hB 1 dX11_readsPower_41 rfl rfl ?_
      refine v_iconst hB 1 dX11_readsPower_42 (by decide) ?_
      refine v_iast hB hK (aMI_10 g) dX11_readsPower_43 ?_
      refine v_hl (fun h43 => ?_)
      refine v_aload_n hB 0 dX11_readsPower_44 rfl rfl ?_
      refine v_bRi (fun r45 e45 => v_callV hB hK hR.rm [] [] (oM_0 g) lb_X11_next lv_X11_175 (c_X11_next g hK.A X.1.2.1 h43 e45) dX11_readsPower_45 rfl rfl (Nat.le_of_ble_eq_true rfl) (by decide) (by decide)) (fun r45 => ?_)
      refine v_bipush hB 94 dX11_readsPower_48 (by decide) ?_
      refine v_icmp_eq (tgt := 55) hB dX11_readsPower_50 rfl ?_ ?_
      · refine v_aload_n hB 0 dX11_readsPower_55 rfl rfl ?_
        refine v_dup hB dX11_readsPower_56 rfl ?_
        refine v_getI hB hK (fl_X11_172 g) (cMI_0_12 g) dX11_readsPower_57 ?_
        refine v_iconst hB 1 dX11_readsPower_60 (by decide) ?_
        refine v_iadd hB dX11_readsPower_61 ?_
        refine v_putI hB hK (fl_X11_172 g) (fin_X11_12 g) (cMI_0_12 g) dX11_readsPower_62 ?_
        refine v_hl (fun h62 => ?_)
        refine v_aload_n hB 0 dX11_readsPower_65 rfl rfl ?_
        refine v_bRi (fun r66 e66 => v_callV hB hK hR.rm [] [] (oM_0 g) lb_X11_next lv_X11_175 (c_X11_next g hK.A X.1.2.1 h62 e66) dX11_readsPower_66 rfl rfl (Nat.le_of_ble_eq_true rfl) (by decide) (by decide)) (fun r66 => ?_)
        refine v_bipush hB 49 dX11_readsPower_69 (by decide) ?_
        refine v_bipush hB 54 dX11_readsPower_71 (by decide) ?_
        refine v_bT (v_callS hB hK hR.rm [.int r66, .int 49, .int 54] [] lb_X11_isIn lv_X11_98 (c_X11_isIn g hK.A X.1.2.1 r66 49 54 h62) dX11_readsPower_73 rfl rfl (Nat.le_of_ble_eq_true rfl) (by decide) (by decide)) ?_
        refine v_ifz_eq (r := f_X11_isIn r66 49 54) (tgt := 90) hB dX11_readsPower_76 rfl ?_ ?_
        · refine v_iconst hB 0 dX11_readsPower_90 (by decide) ?_
          exact v_retWz (x := false) hB hK hR dX11_readsPower_91
        · refine v_aload_n hB 0 dX11_readsPower_79 rfl rfl ?_
          refine v_bRi (fun r80 e80 => v_callV hB hK hR.rm [] [] (oM_0 g) lb_X11_next lv_X11_175 (c_X11_next g hK.A X.1.2.1 h62 e80) dX11_readsPower_80 rfl rfl (Nat.le_of_ble_eq_true rfl) (by decide) (by decide)) (fun r80 => ?_)
          refine v_bipush hB 48 dX11_readsPower_83 (by decide) ?_
          refine v_isub hB dX11_readsPower_85 ?_
          refine v_iload_n hB 2 dX11_readsPower_86 rfl rfl ?_
          refine v_icmp_le (tgt := 92) hB dX11_readsPower_87 rfl ?_ ?_
          · refine v_aload_n hB 0 dX11_readsPower_92 rfl rfl ?_
            refine v_getA hB hK (fl_X11_52 g) (cMA_0_13 g) dX11_readsPower_93 ?_
            refine v_iload_n hB 1 dX11_readsPower_96 rfl rfl ?_
            refine v_aload_n hB 0 dX11_readsPower_97 rfl rfl ?_
            refine v_bRi (fun r98 e98 => v_callV hB hK hR.rm [] [.int p1, .ref ((SM g).1.2.1 10)] (oM_0 g) lb_X11_next lv_X11_175 (c_X11_next g hK.A X.1.2.1 h62 e98) dX11_readsPower_98 rfl rfl (Nat.le_of_ble_eq_true rfl) (by decide) (by decide)) (fun r98 => ?_)
            refine v_bipush hB 48 dX11_readsPower_101 (by decide) ?_
            refine v_isub hB dX11_readsPower_103 ?_
            refine v_iast hB hK (aMI_10 g) dX11_readsPower_104 ?_
            refine v_hl (fun h104 => ?_)
            refine v_aload_n hB 0 dX11_readsPower_105 rfl rfl ?_
            refine v_dup hB dX11_readsPower_106 rfl ?_
            refine v_getI hB hK (fl_X11_172 g) (cMI_0_12 g) dX11_readsPower_107 ?_
            refine v_iconst hB 1 dX11_readsPower_110 (by decide) ?_
            refine v_iadd hB dX11_readsPower_111 ?_
            refine v_putI hB hK (fl_X11_172 g) (fin_X11_12 g) (cMI_0_12 g) dX11_readsPower_112 ?_
            refine v_iconst hB 1 dX11_readsPower_115 (by decide) ?_
            exact v_retWz (x := true) hB hK hR dX11_readsPower_116
          · refine v_iconst hB 0 dX11_readsPower_90 (by decide) ?_
            exact v_retWz (x := false) hB hK hR dX11_readsPower_91
      · refine v_iconst hB 1 dX11_readsPower_53 (by decide) ?_
        exact v_retWz (x := true) hB hK hR dX11_readsPower_54
    · refine v_iconst hB 0 dX11_readsPower_25 (by decide) ?_
      exact v_retWz (x := false) hB hK hR dX11_readsPower_26
  · refine v_iconst hB 1 dX11_readsPower_18 (by decide) ?_
    exact v_retWz (x := true) hB hK hR dX11_readsPower_19

def f_X11_readsMember_j173 (v5 : Int32) (s1 : Int32) (s2 : Int64) (s3 : Int64) (h : pq_H) : Option (Int32 × pq_H) :=
  gd (inb s1 28) (some (v5, wJ h 8 s1.toNatClampNeg (s2 + s3)))
def f_X11_readsMember_j138 (p1 : Bool) (v3 : Int32) (v5 : Int32) (h : pq_H) : Option (Int32 × pq_H) :=
  gd (inb 0 3) (gd (inb 2 3) (gd (inb (f_X11_termOf v5 (rI h 10 (0 : Int32).toNatClampNeg) (rI h 10 (2 : Int32).toNatClampNeg)) 28) (if p1 = true then (f_X11_readsMember_j173 v5 (f_X11_termOf v5 (rI h 10 (0 : Int32).toNatClampNeg) (rI h 10 (2 : Int32).toNatClampNeg)) (rJ h 8 (f_X11_termOf v5 (rI h 10 (0 : Int32).toNatClampNeg) (rI h 10 (2 : Int32).toNatClampNeg)).toNatClampNeg) ((-v3).toInt64) h) else (f_X11_readsMember_j173 v5 (f_X11_termOf v5 (rI h 10 (0 : Int32).toNatClampNeg) (rI h 10 (2 : Int32).toNatClampNeg)) (rJ h 8 (f_X11_termOf v5 (rI h 10 (0 : Int32).toNatClampNeg) (rI h 10 (2 : Int32).toNatClampNeg)).toNatClampNeg) v3.toInt64 h))))
def f_X11_readsMember_j125 (p1 : Bool) (p2 : Int32) (v3 : Int32) (v5 : Int32) (h : pq_H) : Option (Int32 × pq_H) :=
  if p2 < 0 then (f_X11_readsMember_j138 p1 v3 v5 h) else (if p2 ≤ v5 then (f_X11_readsMember_j138 p1 v3 v5 h) else (some ((-9), h)))
def f_X11_readsMember_j115 (p1 : Bool) (p2 : Int32) (v3 : Int32) (v4 : Bool) (v5 : Int32) (h : pq_H) : Option (Int32 × pq_H) :=
  if v4 = true then (f_X11_readsMember_j125 p1 p2 v3 v5 h) else (if v5 = 0 then (some ((-9), h)) else (f_X11_readsMember_j125 p1 p2 v3 v5 h))
def f_X11_readsMember_j85 (w66 : Int32 → Int32 → pq_H → Option (Int32 × pq_H)) (v5 : Int32) (v6 : Int32) (s1 : Int32) (s2 : Int32) (h : pq_H) : Option (Int32 × pq_H) :=
  bd2 (f_X11_readsPower s1 (s2 - v5) h) fun r88 h88 => if r88 = true then (gd (inb v6 3) (w66 (v5 + (rI h88 10 v6.toNatClampNeg)) (v6 + 1) h88)) else (some ((-9), h88))
def f_X11_readsMember_l66 (p1 : Bool) (p2 : Int32) (v3 : Int32) (v4 : Bool) (w66 : Int32 → Int32 → pq_H → Option (Int32 × pq_H)) (v5 : Int32) (v6 : Int32) (h : pq_H) : Option (Int32 × pq_H) :=
  if 3 ≤ v6 then (f_X11_readsMember_j115 p1 p2 v3 v4 v5 h) else (if 0 ≤ p2 then (f_X11_readsMember_j85 w66 v5 v6 v6 p2 h) else (f_X11_readsMember_j85 w66 v5 v6 v6 6 h))
def f_X11_readsMember_j60 (p1 : Bool) (p2 : Int32) (v3 : Int32) (v4 : Bool) (h : pq_H) : Option (Int32 × pq_H) :=
  lp (fun _ _ _ => none) (f_X11_readsMember_l66 p1 p2 v3 v4) 1000 0 0 h
def f_X11_readsMember_l18 (p1 : Bool) (p2 : Int32) (v4 : Bool) (w18 : Int32 → Int32 → pq_H → Option (Int32 × pq_H)) (v3 : Int32) (v5 : Int32) (h : pq_H) : Option (Int32 × pq_H) :=
  if 3 ≤ v5 then (f_X11_readsMember_j60 p1 p2 v3 v4 h) else ((f_X11_isDigit h).bind fun r25 => if r25 = true then ((f_X11_next h).bind fun r36 => w18 (((10 * v3) + r36) - 48) (v5 + 1) (wI h 0 12 ((rI h 0 12) + 1))) else (f_X11_readsMember_j60 p1 p2 v3 v4 h))
def f_X11_readsMember (p1 : Bool) (p2 : Int32) (h : pq_H) : Option (Int32 × pq_H) :=
  (f_X11_isDigit h).bind fun r3 => if r3 = true then (lp (fun _ _ _ => none) (f_X11_readsMember_l18 p1 p2 r3) 1000 0 0 h) else (f_X11_readsMember_j60 p1 p2 1 r3 h)
set_option maxRecDepth 100000 in
set_option maxHeartbeats 4000000 in
theorem c_X11_readsMember (g : pq_g) {A : Nat → Prop} (hA : pq_A (SM g) A) (l : Launch) (p1 : Bool) (p2 : Int32) (h : pq_H) {rr : Int32} {hh : pq_H} (e : f_X11_readsMember p1 p2 h = some (rr, hh)) : pq_M (SM g) A l yX11_readsMember cX11_readsMember 7 (some .int) 2 44 [.ref ((SM g).1.2.1 0), .int (b2i p1), .int p2] h (some (.int rr)) hh := by
  refine pq_met hA l (own := RX11) 2 44 _ [(0, .ref ((SM g).1.2.1 0)), (1, .int (b2i p1)), (2, .int p2)] h _ hh (by decide +kernel) rfl (Nat.le_of_ble_eq_true rfl) rfl (fun X hXl hXA hB hK hR => ?_)
  refine V.cast (F' := f_X11_readsMember p1 p2 h) (res' := (rr, hh)) (fun _ => e) ?_
  have hn173 : ∀ (v5 : Int32) (s1 : Int32) (s2 : Int64) (s3 : Int64) (h : pq_H), V X (SM g) (rr, hh) 7 173 [(5, .int v5)] [.long s3, .long s2, .int s1, .ref ((SM g).1.2.1 8)] h (f_X11_readsMember_j173 v5 s1 s2 s3 h) := by
    intro v5 s1 s2 s3 h
    unfold f_X11_readsMember_j173
    refine v_ladd hB dX11_readsMember_173 ?_
    refine v_last hB hK (aMJ_8 g) dX11_readsMember_174 ?_
    refine v_iload hB 0 dX11_readsMember_175 rfl ?_
    exact v_retWi (x := v5) hB hK hR dX11_readsMember_177
  have hn138 : ∀ (v3 : Int32) (v5 : Int32) (h : pq_H), V X (SM g) (rr, hh) 7 138 [(0, .ref ((SM g).1.2.1 0)), (1, .int (b2i p1)), (3, .int v3), (5, .int v5)] [] h (f_X11_readsMember_j138 p1 v3 v5 h) := by
    intro v3 v5 h
    unfold f_X11_readsMember_j138
    refine v_aload_n hB 0 dX11_readsMember_138 rfl rfl ?_
    refine v_getA hB hK (fl_X11_45 g) (cMA_0_9 g) dX11_readsMember_139 ?_
    refine v_iload hB 3 dX11_readsMember_142 rfl ?_
    refine v_aload_n hB 0 dX11_readsMember_144 rfl rfl ?_
    refine v_getA hB hK (fl_X11_52 g) (cMA_0_13 g) dX11_readsMember_145 ?_
    refine v_iconst hB 0 dX11_readsMember_148 (by decide) ?_
    refine v_iald hB hK (aMI_10 g) dX11_readsMember_149 ?_
    refine v_aload_n hB 0 dX11_readsMember_150 rfl rfl ?_
    refine v_getA hB hK (fl_X11_52 g) (cMA_0_13 g) dX11_readsMember_151 ?_
    refine v_iconst hB 2 dX11_readsMember_154 (by decide) ?_
    refine v_iald hB hK (aMI_10 g) dX11_readsMember_155 ?_
    refine v_bT (v_callS hB hK hR.rm [.int v5, .int (rI h 10 (0 : Int32).toNatClampNeg), .int (rI h 10 (2 : Int32).toNatClampNeg)] [.ref ((SM g).1.2.1 8)] lb_X11_termOf lv_X11_105 (c_X11_termOf g hK.A X.1.2.1 v5 (rI h 10 (0 : Int32).toNatClampNeg) (rI h 10 (2 : Int32).toNatClampNeg) h) dX11_readsMember_156 rfl rfl (Nat.le_of_ble_eq_true rfl) (by decide) (by decide)) ?_
    refine v_dup2 hB dX11_readsMember_159 rfl rfl ?_
    refine v_lald hB hK (aMJ_8 g) dX11_readsMember_160 ?_
    refine v_iload_n hB 1 dX11_readsMember_161 rfl rfl ?_
    refine v_ifz_eq (r := p1) (tgt := 171) hB dX11_readsMember_162 rfl ?_ ?_
    · refine v_iload_n hB 2 dX11_readsMember_171 rfl rfl ?_
      refine v_i2l hB dX11_readsMember_172 ?_
      exact V.sub [3] rfl (hn173 v5 (f_X11_termOf v5 (rI h 10 (0 : Int32).toNatClampNeg) (rI h 10 (2 : Int32).toNatClampNeg)) (rJ h 8 (f_X11_termOf v5 (rI h 10 (0 : Int32).toNatClampNeg) (rI h 10 (2 : Int32).toNatClampNeg)).toNatClampNeg) v3.toInt64 h)
    · refine v_iload_n hB 2 dX11_readsMember_165 rfl rfl ?_
      refine v_ineg hB dX11_readsMember_166 ?_
      refine v_i2l hB dX11_readsMember_167 ?_
      refine v_goto (tgt := 173) hB dX11_readsMember_168 rfl ?_
      exact V.sub [3] rfl (hn173 v5 (f_X11_termOf v5 (rI h 10 (0 : Int32).toNatClampNeg) (rI h 10 (2 : Int32).toNatClampNeg)) (rJ h 8 (f_X11_termOf v5 (rI h 10 (0 : Int32).toNatClampNeg) (rI h 10 (2 : Int32).toNatClampNeg)).toNatClampNeg) ((-v3).toInt64) h)
  have hn125 : ∀ (v3 : Int32) (v5 : Int32) (h : pq_H), V X (SM g) (rr, hh) 7 125 [(0, .ref ((SM g).1.2.1 0)), (1, .int (b2i p1)), (2, .int p2), (3, .int v3), (5, .int v5)] [] h (f_X11_readsMember_j125 p1 p2 v3 v5 h) := by
    intro v3 v5 h
    unfold f_X11_readsMember_j125
    refine v_iload_n hB 2 dX11_readsMember_125 rfl rfl ?_
    refine v_if_lt (tgt := 138) hB dX11_readsMember_126 rfl ?_ ?_
    · exact V.sub [0, 1, 3, 4] rfl (hn138 v3 v5 h)
    · refine v_iload hB 4 dX11_readsMember_129 rfl ?_
      refine v_iload_n hB 2 dX11_readsMember_131 rfl rfl ?_
      refine v_icmp_ge (tgt := 138) hB dX11_readsMember_132 rfl ?_ ?_
      · exact V.sub [0, 1, 3, 4] rfl (hn138 v3 v5 h)
      · refine v_bipush hB (-9) dX11_readsMember_135 (by decide) ?_
        exact v_retWi (x := (-9)) hB hK hR dX11_readsMember_137
  have hn115 : ∀ (v3 : Int32) (v4 : Bool) (v5 : Int32) (h : pq_H), V X (SM g) (rr, hh) 7 115 [(0, .ref ((SM g).1.2.1 0)), (1, .int (b2i p1)), (2, .int p2), (3, .int v3), (4, .int (b2i v4)), (5, .int v5)] [] h (f_X11_readsMember_j115 p1 p2 v3 v4 v5 h) := by
    intro v3 v4 v5 h
    unfold f_X11_readsMember_j115
    refine v_iload hB 4 dX11_readsMember_115 rfl ?_
    refine v_ifz_ne (r := v4) (tgt := 125) hB dX11_readsMember_117 rfl ?_ ?_
    · exact V.sub [0, 1, 2, 3, 5] rfl (hn125 v3 v5 h)
    · refine v_iload hB 5 dX11_readsMember_120 rfl ?_
      refine v_if_eq (tgt := 135) hB dX11_readsMember_122 rfl ?_ ?_
      · refine v_bipush hB (-9) dX11_readsMember_135 (by decide) ?_
        exact v_retWi (x := (-9)) hB hK hR dX11_readsMember_137
      · exact V.sub [0, 1, 2, 3, 5] rfl (hn125 v3 v5 h)
  have hn66 : ∀ (v3 : Int32) (v4 : Bool) (n : Nat), ∀ (v5 : Int32) (v6 : Int32) (h : pq_H), V X (SM g) (rr, hh) 7 66 [(0, .ref ((SM g).1.2.1 0)), (1, .int (b2i p1)), (2, .int p2), (3, .int v3), (4, .int (b2i v4)), (5, .int v5), (6, .int v6)] [] h (lp (fun _ _ _ => none) (f_X11_readsMember_l66 p1 p2 v3 v4) n v5 v6 h) := by
    intro v3 v4
    refine lp_ind (fun (w66 : Int32 → Int32 → pq_H → Option (Int32 × pq_H)) => ∀ (v5 : Int32) (v6 : Int32) (h : pq_H), V X (SM g) (rr, hh) 7 66 [(0, .ref ((SM g).1.2.1 0)), (1, .int (b2i p1)), (2, .int p2), (3, .int v3), (4, .int (b2i v4)), (5, .int v5), (6, .int v6)] [] h (w66 v5 v6 h)) (fun _ _ _ => V.none _ _ _ _) (fun w66 ih66 => ?_)
    have hn85 : ∀ (v5 : Int32) (v6 : Int32) (s1 : Int32) (s2 : Int32) (h : pq_H), V X (SM g) (rr, hh) 7 85 [(0, .ref ((SM g).1.2.1 0)), (1, .int (b2i p1)), (2, .int p2), (3, .int v3), (4, .int (b2i v4)), (5, .int v5), (6, .int v6)] [.int s2, .int s1, .ref ((SM g).1.2.1 0)] h (f_X11_readsMember_j85 w66 v5 v6 s1 s2 h) := by
      intro v5 v6 s1 s2 h
      unfold f_X11_readsMember_j85
      refine v_iload hB 5 dX11_readsMember_85 rfl ?_
      refine v_isub hB dX11_readsMember_87 ?_
      refine v_bWz (fun r88 h88 e88 => v_callV hB hK hR.rm [.int s1, .int (s2 - v5)] [] (oM_0 g) lb_X11_readsPower lv_X11_183 (c_X11_readsPower g hK.A X.1.2.1 s1 (s2 - v5) h e88) dX11_readsMember_88 rfl rfl (Nat.le_of_ble_eq_true rfl) (by decide) (by decide)) (fun r88 h88 => ?_)
      refine v_ifz_ne (r := r88) (tgt := 97) hB dX11_readsMember_91 rfl ?_ ?_
      · refine v_iload hB 5 dX11_readsMember_97 rfl ?_
        refine v_aload_n hB 0 dX11_readsMember_99 rfl rfl ?_
        refine v_getA hB hK (fl_X11_52 g) (cMA_0_13 g) dX11_readsMember_100 ?_
        refine v_iload hB 6 dX11_readsMember_103 rfl ?_
        refine v_iald hB hK (aMI_10 g) dX11_readsMember_105 ?_
        refine v_iadd hB dX11_readsMember_106 ?_
        refine v_istore hB [(0, .ref ((SM g).1.2.1 0)), (1, .int (b2i p1)), (2, .int p2), (3, .int v3), (4, .int (b2i v4)), (5, .int (v5 + (rI h88 10 v6.toNatClampNeg))), (6, .int v6)] [1, 2, 3, 4, 5, 0, 6] dX11_readsMember_107 (by decide) rfl ?_
        refine v_iinc hB (v6 + 1) [(0, .ref ((SM g).1.2.1 0)), (1, .int (b2i p1)), (2, .int p2), (3, .int v3), (4, .int (b2i v4)), (5, .int (v5 + (rI h88 10 v6.toNatClampNeg))), (6, .int (v6 + 1))] 6 [1, 2, 3, 4, 5, 6, 0] dX11_readsMember_109 rfl rfl (by decide) rfl ?_
        refine v_goto (tgt := 66) hB dX11_readsMember_112 rfl ?_
        exact V.sub [0, 1, 2, 3, 4, 5, 6] rfl (ih66 (v5 + (rI h88 10 v6.toNatClampNeg)) (v6 + 1) h88)
      · refine v_bipush hB (-9) dX11_readsMember_94 (by decide) ?_
        exact v_retWi (x := (-9)) hB hK hR dX11_readsMember_96
    intro v5 v6 h
    unfold f_X11_readsMember_l66
    refine v_iload hB 6 dX11_readsMember_66 rfl ?_
    refine v_iconst hB 3 dX11_readsMember_68 (by decide) ?_
    refine v_icmp_ge (tgt := 115) hB dX11_readsMember_69 rfl ?_ ?_
    · exact V.sub [0, 1, 2, 3, 4, 5] rfl (hn115 v3 v4 v5 h)
    · refine v_aload_n hB 0 dX11_readsMember_72 rfl rfl ?_
      refine v_iload hB 6 dX11_readsMember_73 rfl ?_
      refine v_iload_n hB 2 dX11_readsMember_75 rfl rfl ?_
      refine v_if_ge (tgt := 84) hB dX11_readsMember_76 rfl ?_ ?_
      · refine v_iload_n hB 2 dX11_readsMember_84 rfl rfl ?_
        exact V.sub [0, 1, 2, 3, 4, 5, 6] rfl (hn85 v5 v6 v6 p2 h)
      · refine v_bipush hB 6 dX11_readsMember_79 (by decide) ?_
        refine v_goto (tgt := 85) hB dX11_readsMember_81 rfl ?_
        exact V.sub [0, 1, 2, 3, 4, 5, 6] rfl (hn85 v5 v6 v6 6 h)
  have hn60 : ∀ (v3 : Int32) (v4 : Bool) (h : pq_H), V X (SM g) (rr, hh) 7 60 [(0, .ref ((SM g).1.2.1 0)), (1, .int (b2i p1)), (2, .int p2), (3, .int v3), (4, .int (b2i v4))] [] h (f_X11_readsMember_j60 p1 p2 v3 v4 h) := by
    intro v3 v4 h
    unfold f_X11_readsMember_j60
    refine v_iconst hB 0 dX11_readsMember_60 (by decide) ?_
    refine v_istore hB [(0, .ref ((SM g).1.2.1 0)), (1, .int (b2i p1)), (2, .int p2), (3, .int v3), (4, .int (b2i v4)), (5, .int 0)] [1, 2, 3, 4, 5, 0] dX11_readsMember_61 (by decide) rfl ?_
    refine v_iconst hB 0 dX11_readsMember_63 (by decide) ?_
    refine v_istore hB [(0, .ref ((SM g).1.2.1 0)), (1, .int (b2i p1)), (2, .int p2), (3, .int v3), (4, .int (b2i v4)), (5, .int 0), (6, .int 0)] [1, 2, 3, 4, 5, 6, 0] dX11_readsMember_64 (by decide) rfl ?_
    exact V.sub [0, 1, 2, 3, 4, 5, 6] rfl (hn66 v3 v4 1000 0 0 h)
  have hn18 : ∀ (v4 : Bool) (n : Nat), ∀ (v3 : Int32) (v5 : Int32) (h : pq_H), V X (SM g) (rr, hh) 7 18 [(0, .ref ((SM g).1.2.1 0)), (1, .int (b2i p1)), (2, .int p2), (3, .int v3), (4, .int (b2i v4)), (5, .int v5)] [] h (lp (fun _ _ _ => none) (f_X11_readsMember_l18 p1 p2 v4) n v3 v5 h) := by
    intro v4
    refine lp_ind (fun (w18 : Int32 → Int32 → pq_H → Option (Int32 × pq_H)) => ∀ (v3 : Int32) (v5 : Int32) (h : pq_H), V X (SM g) (rr, hh) 7 18 [(0, .ref ((SM g).1.2.1 0)), (1, .int (b2i p1)), (2, .int p2), (3, .int v3), (4, .int (b2i v4)), (5, .int v5)] [] h (w18 v3 v5 h)) (fun _ _ _ => V.none _ _ _ _) (fun w18 ih18 => ?_)
    intro v3 v5 h
    unfold f_X11_readsMember_l18
    refine v_iload hB 5 dX11_readsMember_18 rfl ?_
    refine v_iconst hB 3 dX11_readsMember_20 (by decide) ?_
    refine v_icmp_ge (tgt := 60) hB dX11_readsMember_21 rfl ?_ ?_
    · exact V.sub [0, 1, 2, 3, 4] rfl (hn60 v3 v4 h)
    · refine v_aload_n hB 0 dX11_readsMember_24 rfl rfl ?_
      refine v_bRz (fun r25 e25 => v_callV hB hK hR.rm [] [] (oM_0 g) lb_X11_isDigit lv_X11_179 (c_X11_isDigit g hK.A X.1.2.1 h e25) dX11_readsMember_25 rfl rfl (Nat.le_of_ble_eq_true rfl) (by decide) (by decide)) (fun r25 => ?_)
      refine v_ifz_eq (r := r25) (tgt := 60) hB dX11_readsMember_28 rfl ?_ ?_
      · exact V.sub [0, 1, 2, 3, 4] rfl (hn60 v3 v4 h)
      · refine v_bipush hB 10 dX11_readsMember_31 (by decide) ?_
        refine v_iload_n hB 3 dX11_readsMember_33 rfl rfl ?_
        refine v_imul hB dX11_readsMember_34 ?_
        refine v_aload_n hB 0 dX11_readsMember_35 rfl rfl ?_
        refine v_bRi (fun r36 e36 => v_callV hB hK hR.rm [] [.int (10 * v3)] (oM_0 g) lb_X11_next lv_X11_175 (c_X11_next g hK.A X.1.2.1 h e36) dX11_readsMember_36 rfl rfl (Nat.le_of_ble_eq_true rfl) (by decide) (by decide)) (fun r36 => ?_)
        refine v_iadd hB dX11_readsMember_39 ?_
        refine v_bipush hB 48 dX11_readsMember_40 (by decide) ?_
        refine v_isub hB dX11_readsMember_42 ?_
        refine v_istore_n hB [(0, .ref ((SM g).1.2.1 0)), (1, .int (b2i p1)), (2, .int p2), (3, .int (((10 * v3) + r36) - 48)), (4, .int (b2i v4)), (5, .int v5)] [1, 2, 3, 0, 4, 5] dX11_readsMember_43 rfl (by decide) rfl ?_
        refine v_aload_n hB 0 dX11_readsMember_44 rfl rfl ?_
        refine v_dup hB dX11_readsMember_45 rfl ?_
        refine v_getI hB hK (fl_X11_172 g) (cMI_0_12 g) dX11_readsMember_46 ?_
        refine v_iconst hB 1 dX11_readsMember_49 (by decide) ?_
        refine v_iadd hB dX11_readsMember_50 ?_
        refine v_putI hB hK (fl_X11_172 g) (fin_X11_12 g) (cMI_0_12 g) dX11_readsMember_51 ?_
        refine v_iinc hB (v5 + 1) [(0, .ref ((SM g).1.2.1 0)), (1, .int (b2i p1)), (2, .int p2), (3, .int (((10 * v3) + r36) - 48)), (4, .int (b2i v4)), (5, .int (v5 + 1))] 5 [1, 2, 3, 4, 5, 0] dX11_readsMember_54 rfl rfl (by decide) rfl ?_
        refine v_goto (tgt := 18) hB dX11_readsMember_57 rfl ?_
        exact V.sub [0, 1, 2, 3, 4, 5] rfl (ih18 (((10 * v3) + r36) - 48) (v5 + 1) (wI h 0 12 ((rI h 0 12) + 1)))
  unfold f_X11_readsMember
  refine v_iconst hB 1 dX11_readsMember_0 (by decide) ?_
  refine v_istore_n hB [(0, .ref ((SM g).1.2.1 0)), (1, .int (b2i p1)), (2, .int p2), (3, .int 1)] [1, 2, 3, 0] dX11_readsMember_1 rfl (by decide) rfl ?_
  refine v_aload_n hB 0 dX11_readsMember_2 rfl rfl ?_
  refine v_bRz (fun r3 e3 => v_callV hB hK hR.rm [] [] (oM_0 g) lb_X11_isDigit lv_X11_179 (c_X11_isDigit g hK.A X.1.2.1 h e3) dX11_readsMember_3 rfl rfl (Nat.le_of_ble_eq_true rfl) (by decide) (by decide)) (fun r3 => ?_)
  refine v_istore hB [(0, .ref ((SM g).1.2.1 0)), (1, .int (b2i p1)), (2, .int p2), (3, .int 1), (4, .int (b2i r3))] [1, 2, 3, 4, 0] dX11_readsMember_6 (by decide) rfl ?_
  refine v_iload hB 4 dX11_readsMember_8 rfl ?_
  refine v_ifz_eq (r := r3) (tgt := 60) hB dX11_readsMember_10 rfl ?_ ?_
  · exact V.sub [0, 1, 2, 3, 4] rfl (hn60 1 r3 h)
  · refine v_iconst hB 0 dX11_readsMember_13 (by decide) ?_
    refine v_istore_n hB [(0, .ref ((SM g).1.2.1 0)), (1, .int (b2i p1)), (2, .int p2), (3, .int 0), (4, .int (b2i r3))] [1, 2, 3, 0, 4] dX11_readsMember_14 rfl (by decide) rfl ?_
    refine v_iconst hB 0 dX11_readsMember_15 (by decide) ?_
    refine v_istore hB [(0, .ref ((SM g).1.2.1 0)), (1, .int (b2i p1)), (2, .int p2), (3, .int 0), (4, .int (b2i r3)), (5, .int 0)] [1, 2, 3, 4, 5, 0] dX11_readsMember_16 (by decide) rfl ?_
    exact V.sub [0, 1, 2, 3, 4, 5] rfl (hn18 r3 1000 0 0 h)

def f_X11_readsForm_j126 (v2 : Int32) (v3 : Int32) (h : pq_H) : Option (Int32 × pq_H) :=
  if v3 < 0 then (some ((-9), h)) else (if (rI h 0 12) = (rI h 0 11) then (some (v2, h)) else (some ((-9), h)))
def f_X11_readsForm_j118 (v2 : Int32) (w64 : Int32 → pq_H → Option (Int32 × pq_H)) (s1 : Bool) (h : pq_H) : Option (Int32 × pq_H) :=
  bd2 (f_X11_readsMember s1 v2 h) fun r119 h119 => w64 r119 h119
def f_X11_readsForm_j86 (v2 : Int32) (w64 : Int32 → pq_H → Option (Int32 × pq_H)) (h : pq_H) : Option (Int32 × pq_H) :=
  hl (wI h 0 12 ((rI h 0 12) + 1)) fun h93 => gd (inb ((rI h93 0 12) - 1) 72) (if (rI h93 9 ((rI h93 0 12) - 1).toNatClampNeg) = 45 then (f_X11_readsForm_j118 v2 w64 true h93) else (f_X11_readsForm_j118 v2 w64 false h93))
def f_X11_readsForm_l64 (v2 : Int32) (w64 : Int32 → pq_H → Option (Int32 × pq_H)) (v3 : Int32) (h : pq_H) : Option (Int32 × pq_H) :=
  if v3 < 0 then (f_X11_readsForm_j126 v2 v3 h) else ((f_X11_next h).bind fun r69 => if r69 = 43 then (f_X11_readsForm_j86 v2 w64 h) else ((f_X11_next h).bind fun r78 => if r78 = 45 then (f_X11_readsForm_j86 v2 w64 h) else (f_X11_readsForm_j126 v2 v3 h)))
def f_X11_readsForm_j50 (v1 : Bool) (s1 : Int32) (s2 : Int32) (h : pq_H) : Option (Int32 × pq_H) :=
  hl (wI h 0 12 (s1 + s2)) fun h51 => bd2 (f_X11_readsMember v1 (-9) h51) fun r58 h58 => lp (fun _ _ => none) (f_X11_readsForm_l64 r58) 1000 r58 h58
def f_X11_readsForm_j35 (s0 : Bool) (h : pq_H) : Option (Int32 × pq_H) :=
  if s0 = true then (f_X11_readsForm_j50 s0 (rI h 0 12) 1 h) else (f_X11_readsForm_j50 s0 (rI h 0 12) 0 h)
def f_X11_readsForm_j21 (h : pq_H) : Option (Int32 × pq_H) :=
  (f_X11_next h).bind fun r22 => if r22 = 45 then (f_X11_readsForm_j35 true h) else (f_X11_readsForm_j35 false h)
def f_X11_readsForm_l2 (w2 : Int32 → pq_H → Option (Int32 × pq_H)) (v1 : Int32) (h : pq_H) : Option (Int32 × pq_H) :=
  if 28 ≤ v1 then (f_X11_readsForm_j21 h) else (gd (inb v1 28) (w2 (v1 + 1) (wJ h 8 v1.toNatClampNeg 0)))
def f_X11_readsForm (h : pq_H) : Option (Int32 × pq_H) :=
  lp (fun _ _ => none) (f_X11_readsForm_l2) 1000 0 h
set_option maxRecDepth 100000 in
set_option maxHeartbeats 4000000 in
theorem c_X11_readsForm (g : pq_g) {A : Nat → Prop} (hA : pq_A (SM g) A) (l : Launch) (h : pq_H) {rr : Int32} {hh : pq_H} (e : f_X11_readsForm h = some (rr, hh)) : pq_M (SM g) A l yX11_readsForm cX11_readsForm 4 (some .int) 3 70 [.ref ((SM g).1.2.1 0)] h (some (.int rr)) hh := by
  refine pq_met hA l (own := RX11) 3 70 _ [(0, .ref ((SM g).1.2.1 0))] h _ hh (by decide +kernel) rfl (Nat.le_of_ble_eq_true rfl) rfl (fun X hXl hXA hB hK hR => ?_)
  refine V.cast (F' := f_X11_readsForm h) (res' := (rr, hh)) (fun _ => e) ?_
  have hn126 : ∀ (v2 : Int32) (v3 : Int32) (h : pq_H), V X (SM g) (rr, hh) 4 126 [(0, .ref ((SM g).1.2.1 0)), (2, .int v2), (3, .int v3)] [] h (f_X11_readsForm_j126 v2 v3 h) := by
    intro v2 v3 h
    unfold f_X11_readsForm_j126
    refine v_iload_n hB 2 dX11_readsForm_126 rfl rfl ?_
    refine v_if_lt (tgt := 145) hB dX11_readsForm_127 rfl ?_ ?_
    · refine v_bipush hB (-9) dX11_readsForm_145 (by decide) ?_
      exact v_retWi (x := (-9)) hB hK hR dX11_readsForm_147
    · refine v_aload_n hB 0 dX11_readsForm_130 rfl rfl ?_
      refine v_getI hB hK (fl_X11_172 g) (cMI_0_12 g) dX11_readsForm_131 ?_
      refine v_aload_n hB 0 dX11_readsForm_134 rfl rfl ?_
      refine v_getI hB hK (fl_X11_169 g) (cMI_0_11 g) dX11_readsForm_135 ?_
      refine v_icmp_ne (tgt := 145) hB dX11_readsForm_138 rfl ?_ ?_
      · refine v_bipush hB (-9) dX11_readsForm_145 (by decide) ?_
        exact v_retWi (x := (-9)) hB hK hR dX11_readsForm_147
      · refine v_iload_n hB 1 dX11_readsForm_141 rfl rfl ?_
        refine v_goto (tgt := 147) hB dX11_readsForm_142 rfl ?_
        exact v_retWi (x := v2) hB hK hR dX11_readsForm_147
  have hn64 : ∀ (v2 : Int32) (n : Nat), ∀ (v3 : Int32) (h : pq_H), V X (SM g) (rr, hh) 4 64 [(0, .ref ((SM g).1.2.1 0)), (2, .int v2), (3, .int v3)] [] h (lp (fun _ _ => none) (f_X11_readsForm_l64 v2) n v3 h) := by
    intro v2
    refine lp_ind (fun (w64 : Int32 → pq_H → Option (Int32 × pq_H)) => ∀ (v3 : Int32) (h : pq_H), V X (SM g) (rr, hh) 4 64 [(0, .ref ((SM g).1.2.1 0)), (2, .int v2), (3, .int v3)] [] h (w64 v3 h)) (fun _ _ => V.none _ _ _ _) (fun w64 ih64 => ?_)
    have hn118 : ∀ (s1 : Bool) (h : pq_H), V X (SM g) (rr, hh) 4 118 [(0, .ref ((SM g).1.2.1 0)), (2, .int v2)] [.int (b2i s1), .ref ((SM g).1.2.1 0)] h (f_X11_readsForm_j118 v2 w64 s1 h) := by
      intro s1 h
      unfold f_X11_readsForm_j118
      refine v_iload_n hB 1 dX11_readsForm_118 rfl rfl ?_
      refine v_bWi (fun r119 h119 e119 => v_callV hB hK hR.rm [.int (b2i s1), .int v2] [] (oM_0 g) lb_X11_readsMember lv_X11_186 (c_X11_readsMember g hK.A X.1.2.1 s1 v2 h e119) dX11_readsForm_119 rfl rfl (Nat.le_of_ble_eq_true rfl) (by decide) (by decide)) (fun r119 h119 => ?_)
      refine v_istore_n hB [(0, .ref ((SM g).1.2.1 0)), (2, .int v2), (3, .int r119)] [1, 2, 0] dX11_readsForm_122 rfl (by decide) rfl ?_
      refine v_goto (tgt := 64) hB dX11_readsForm_123 rfl ?_
      exact V.sub [0, 1, 2] rfl (ih64 r119 h119)
    have hn86 : ∀ (h : pq_H), V X (SM g) (rr, hh) 4 86 [(0, .ref ((SM g).1.2.1 0)), (2, .int v2)] [] h (f_X11_readsForm_j86 v2 w64 h) := by
      intro h
      unfold f_X11_readsForm_j86
      refine v_aload_n hB 0 dX11_readsForm_86 rfl rfl ?_
      refine v_dup hB dX11_readsForm_87 rfl ?_
      refine v_getI hB hK (fl_X11_172 g) (cMI_0_12 g) dX11_readsForm_88 ?_
      refine v_iconst hB 1 dX11_readsForm_91 (by decide) ?_
      refine v_iadd hB dX11_readsForm_92 ?_
      refine v_putI hB hK (fl_X11_172 g) (fin_X11_12 g) (cMI_0_12 g) dX11_readsForm_93 ?_
      refine v_hl (fun h93 => ?_)
      refine v_aload_n hB 0 dX11_readsForm_96 rfl rfl ?_
      refine v_aload_n hB 0 dX11_readsForm_97 rfl rfl ?_
      refine v_getA hB hK (fl_X11_49 g) (cMA_0_10 g) dX11_readsForm_98 ?_
      refine v_aload_n hB 0 dX11_readsForm_101 rfl rfl ?_
      refine v_getI hB hK (fl_X11_172 g) (cMI_0_12 g) dX11_readsForm_102 ?_
      refine v_iconst hB 1 dX11_readsForm_105 (by decide) ?_
      refine v_isub hB dX11_readsForm_106 ?_
      refine v_iald hB hK (aMI_9 g) dX11_readsForm_107 ?_
      refine v_bipush hB 45 dX11_readsForm_108 (by decide) ?_
      refine v_icmp_ne (tgt := 117) hB dX11_readsForm_110 rfl ?_ ?_
      · refine v_iconst hB 0 dX11_readsForm_117 (by decide) ?_
        exact V.sub [0, 1] rfl (hn118 false h93)
      · refine v_iconst hB 1 dX11_readsForm_113 (by decide) ?_
        refine v_goto (tgt := 118) hB dX11_readsForm_114 rfl ?_
        exact V.sub [0, 1] rfl (hn118 true h93)
    intro v3 h
    unfold f_X11_readsForm_l64
    refine v_iload_n hB 2 dX11_readsForm_64 rfl rfl ?_
    refine v_if_lt (tgt := 126) hB dX11_readsForm_65 rfl ?_ ?_
    · exact V.sub [0, 1, 2] rfl (hn126 v2 v3 h)
    · refine v_aload_n hB 0 dX11_readsForm_68 rfl rfl ?_
      refine v_bRi (fun r69 e69 => v_callV hB hK hR.rm [] [] (oM_0 g) lb_X11_next lv_X11_175 (c_X11_next g hK.A X.1.2.1 h e69) dX11_readsForm_69 rfl rfl (Nat.le_of_ble_eq_true rfl) (by decide) (by decide)) (fun r69 => ?_)
      refine v_bipush hB 43 dX11_readsForm_72 (by decide) ?_
      refine v_icmp_eq (tgt := 86) hB dX11_readsForm_74 rfl ?_ ?_
      · exact V.sub [0, 1] rfl (hn86 h)
      · refine v_aload_n hB 0 dX11_readsForm_77 rfl rfl ?_
        refine v_bRi (fun r78 e78 => v_callV hB hK hR.rm [] [] (oM_0 g) lb_X11_next lv_X11_175 (c_X11_next g hK.A X.1.2.1 h e78) dX11_readsForm_78 rfl rfl (Nat.le_of_ble_eq_true rfl) (by decide) (by decide)) (fun r78 => ?_)
        refine v_bipush hB 45 dX11_readsForm_81 (by decide) ?_
        refine v_icmp_ne (tgt := 126) hB dX11_readsForm_83 rfl ?_ ?_
        · exact V.sub [0, 1, 2] rfl (hn126 v2 v3 h)
        · exact V.sub [0, 1] rfl (hn86 h)
  have hn50 : ∀ (v1 : Bool) (s1 : Int32) (s2 : Int32) (h : pq_H), V X (SM g) (rr, hh) 4 50 [(0, .ref ((SM g).1.2.1 0)), (1, .int (b2i v1))] [.int s2, .int s1, .ref ((SM g).1.2.1 0)] h (f_X11_readsForm_j50 v1 s1 s2 h) := by
    intro v1 s1 s2 h
    unfold f_X11_readsForm_j50
    refine v_iadd hB dX11_readsForm_50 ?_
    refine v_putI hB hK (fl_X11_172 g) (fin_X11_12 g) (cMI_0_12 g) dX11_readsForm_51 ?_
    refine v_hl (fun h51 => ?_)
    refine v_aload_n hB 0 dX11_readsForm_54 rfl rfl ?_
    refine v_iload_n hB 1 dX11_readsForm_55 rfl rfl ?_
    refine v_bipush hB (-9) dX11_readsForm_56 (by decide) ?_
    refine v_bWi (fun r58 h58 e58 => v_callV hB hK hR.rm [.int (b2i v1), .int (-9)] [] (oM_0 g) lb_X11_readsMember lv_X11_186 (c_X11_readsMember g hK.A X.1.2.1 v1 (-9) h51 e58) dX11_readsForm_58 rfl rfl (Nat.le_of_ble_eq_true rfl) (by decide) (by decide)) (fun r58 h58 => ?_)
    refine v_istore_n hB [(0, .ref ((SM g).1.2.1 0)), (1, .int (b2i v1)), (2, .int r58)] [1, 2, 0] dX11_readsForm_61 rfl (by decide) rfl ?_
    refine v_iload_n hB 2 dX11_readsForm_62 rfl rfl ?_
    refine v_istore_n hB [(0, .ref ((SM g).1.2.1 0)), (1, .int (b2i v1)), (2, .int r58), (3, .int r58)] [1, 2, 3, 0] dX11_readsForm_63 rfl (by decide) rfl ?_
    exact V.sub [0, 2, 3] rfl (hn64 r58 1000 r58 h58)
  have hn35 : ∀ (s0 : Bool) (h : pq_H), V X (SM g) (rr, hh) 4 35 [(0, .ref ((SM g).1.2.1 0))] [.int (b2i s0)] h (f_X11_readsForm_j35 s0 h) := by
    intro s0 h
    unfold f_X11_readsForm_j35
    refine v_istore_n hB [(0, .ref ((SM g).1.2.1 0)), (1, .int (b2i s0))] [1, 0] dX11_readsForm_35 rfl (by decide) rfl ?_
    refine v_aload_n hB 0 dX11_readsForm_36 rfl rfl ?_
    refine v_dup hB dX11_readsForm_37 rfl ?_
    refine v_getI hB hK (fl_X11_172 g) (cMI_0_12 g) dX11_readsForm_38 ?_
    refine v_iload_n hB 1 dX11_readsForm_41 rfl rfl ?_
    refine v_ifz_eq (r := s0) (tgt := 49) hB dX11_readsForm_42 rfl ?_ ?_
    · refine v_iconst hB 0 dX11_readsForm_49 (by decide) ?_
      exact V.sub [0, 1] rfl (hn50 s0 (rI h 0 12) 0 h)
    · refine v_iconst hB 1 dX11_readsForm_45 (by decide) ?_
      refine v_goto (tgt := 50) hB dX11_readsForm_46 rfl ?_
      exact V.sub [0, 1] rfl (hn50 s0 (rI h 0 12) 1 h)
  have hn21 : ∀ (h : pq_H), V X (SM g) (rr, hh) 4 21 [(0, .ref ((SM g).1.2.1 0))] [] h (f_X11_readsForm_j21 h) := by
    intro h
    unfold f_X11_readsForm_j21
    refine v_aload_n hB 0 dX11_readsForm_21 rfl rfl ?_
    refine v_bRi (fun r22 e22 => v_callV hB hK hR.rm [] [] (oM_0 g) lb_X11_next lv_X11_175 (c_X11_next g hK.A X.1.2.1 h e22) dX11_readsForm_22 rfl rfl (Nat.le_of_ble_eq_true rfl) (by decide) (by decide)) (fun r22 => ?_)
    refine v_bipush hB 45 dX11_readsForm_25 (by decide) ?_
    refine v_icmp_ne (tgt := 34) hB dX11_readsForm_27 rfl ?_ ?_
    · refine v_iconst hB 0 dX11_readsForm_34 (by decide) ?_
      exact V.sub [0] rfl (hn35 false h)
    · refine v_iconst hB 1 dX11_readsForm_30 (by decide) ?_
      refine v_goto (tgt := 35) hB dX11_readsForm_31 rfl ?_
      exact V.sub [0] rfl (hn35 true h)
  have hn2 : ∀ (n : Nat), ∀ (v1 : Int32) (h : pq_H), V X (SM g) (rr, hh) 4 2 [(0, .ref ((SM g).1.2.1 0)), (1, .int v1)] [] h (lp (fun _ _ => none) (f_X11_readsForm_l2) n v1 h) := by
    refine lp_ind (fun (w2 : Int32 → pq_H → Option (Int32 × pq_H)) => ∀ (v1 : Int32) (h : pq_H), V X (SM g) (rr, hh) 4 2 [(0, .ref ((SM g).1.2.1 0)), (1, .int v1)] [] h (w2 v1 h)) (fun _ _ => V.none _ _ _ _) (fun w2 ih2 => ?_)
    intro v1 h
    unfold f_X11_readsForm_l2
    refine v_iload_n hB 1 dX11_readsForm_2 rfl rfl ?_
    refine v_bipush hB 28 dX11_readsForm_3 (by decide) ?_
    refine v_icmp_ge (tgt := 21) hB dX11_readsForm_5 rfl ?_ ?_
    · exact V.sub [0] rfl (hn21 h)
    · refine v_aload_n hB 0 dX11_readsForm_8 rfl rfl ?_
      refine v_getA hB hK (fl_X11_45 g) (cMA_0_9 g) dX11_readsForm_9 ?_
      refine v_iload_n hB 1 dX11_readsForm_12 rfl rfl ?_
      refine v_lconst hB 0 dX11_readsForm_13 (by decide) ?_
      refine v_last hB hK (aMJ_8 g) dX11_readsForm_14 ?_
      refine v_iinc hB (v1 + 1) [(0, .ref ((SM g).1.2.1 0)), (1, .int (v1 + 1))] 1 [1, 0] dX11_readsForm_15 rfl rfl (by decide) rfl ?_
      refine v_goto (tgt := 2) hB dX11_readsForm_18 rfl ?_
      exact V.sub [0, 1] rfl (ih2 (v1 + 1) (wJ h 8 v1.toNatClampNeg 0))
  unfold f_X11_readsForm
  refine v_iconst hB 0 dX11_readsForm_0 (by decide) ?_
  refine v_istore_n hB [(0, .ref ((SM g).1.2.1 0)), (1, .int 0)] [1, 0] dX11_readsForm_1 rfl (by decide) rfl ?_
  exact V.sub [0, 1] rfl (hn2 1000 0 h)

def f_X11_form (h : pq_H) : Option (Int32 × pq_H) :=
  if (rI h 0 5) = 6 then (bd2 (f_X11_no (-6) h) fun r12 h12 => some (r12, h12)) else (hl (wI h 0 12 0) fun h18 => bd2 (f_X11_readsForm h18) fun r22 h22 => hl (wI h22 0 11 0) fun h28 => if 0 ≤ r22 then (hl (wI h28 0 8 0) fun h46 => bd2 (f_X11_comes r22 h46) fun r51 h51 => some (r51, h51)) else (some ((-1000) - (rI h28 0 12), h28)))
set_option maxRecDepth 100000 in
set_option maxHeartbeats 4000000 in
theorem c_X11_form (g : pq_g) {A : Nat → Prop} (hA : pq_A (SM g) A) (l : Launch) (h : pq_H) {rr : Int32} {hh : pq_H} (e : f_X11_form h = some (rr, hh)) : pq_M (SM g) A l yX11_form cX11_form 2 (some .int) 4 93 [.ref ((SM g).1.2.1 0)] h (some (.int rr)) hh := by
  refine pq_met hA l (own := RX11) 4 93 _ [(0, .ref ((SM g).1.2.1 0))] h _ hh (by decide +kernel) rfl (Nat.le_of_ble_eq_true rfl) rfl (fun X hXl hXA hB hK hR => ?_)
  refine V.cast (F' := f_X11_form h) (res' := (rr, hh)) (fun _ => e) ?_
  unfold f_X11_form
  refine v_aload_n hB 0 dX11_form_0 rfl rfl ?_
  refine v_getI hB hK (fl_X11_95 g) (cMI_0_5 g) dX11_form_1 ?_
  refine v_bipush hB 6 dX11_form_4 (by decide) ?_
  refine v_icmp_ne (tgt := 16) hB dX11_form_6 rfl ?_ ?_
  · refine v_aload_n hB 0 dX11_form_16 rfl rfl ?_
    refine v_iconst hB 0 dX11_form_17 (by decide) ?_
    refine v_putI hB hK (fl_X11_172 g) (fin_X11_12 g) (cMI_0_12 g) dX11_form_18 ?_
    refine v_hl (fun h18 => ?_)
    refine v_aload_n hB 0 dX11_form_21 rfl rfl ?_
    refine v_bWi (fun r22 h22 e22 => v_callV hB hK hR.rm [] [] (oM_0 g) lb_X11_readsForm lv_X11_190 (c_X11_readsForm g hK.A X.1.2.1 h18 e22) dX11_form_22 rfl rfl (Nat.le_of_ble_eq_true rfl) (by decide) (by decide)) (fun r22 h22 => ?_)
    refine v_istore_n hB [(0, .ref ((SM g).1.2.1 0)), (1, .int r22)] [1, 0] dX11_form_25 rfl (by decide) rfl ?_
    refine v_aload_n hB 0 dX11_form_26 rfl rfl ?_
    refine v_iconst hB 0 dX11_form_27 (by decide) ?_
    refine v_putI hB hK (fl_X11_169 g) (fin_X11_11 g) (cMI_0_11 g) dX11_form_28 ?_
    refine v_hl (fun h28 => ?_)
    refine v_iload_n hB 1 dX11_form_31 rfl rfl ?_
    refine v_if_ge (tgt := 44) hB dX11_form_32 rfl ?_ ?_
    · refine v_aload_n hB 0 dX11_form_44 rfl rfl ?_
      refine v_iconst hB 0 dX11_form_45 (by decide) ?_
      refine v_putI hB hK (fl_X11_119 g) (fin_X11_8 g) (cMI_0_8 g) dX11_form_46 ?_
      refine v_hl (fun h46 => ?_)
      refine v_aload_n hB 0 dX11_form_49 rfl rfl ?_
      refine v_iload_n hB 1 dX11_form_50 rfl rfl ?_
      refine v_bWi (fun r51 h51 e51 => v_callV hB hK hR.rm [.int r22] [] (oM_0 g) lb_X11_comes lv_X11_130 (c_X11_comes g hK.A X.1.2.1 r22 h46 e51) dX11_form_51 rfl rfl (Nat.le_of_ble_eq_true rfl) (by decide) (by decide)) (fun r51 h51 => ?_)
      exact v_retWi (x := r51) hB hK hR dX11_form_54
    · refine v_sipush hB (-1000) dX11_form_35 (by decide) ?_
      refine v_aload_n hB 0 dX11_form_38 rfl rfl ?_
      refine v_getI hB hK (fl_X11_172 g) (cMI_0_12 g) dX11_form_39 ?_
      refine v_isub hB dX11_form_42 ?_
      exact v_retWi (x := (-1000) - (rI h28 0 12)) hB hK hR dX11_form_43
  · refine v_aload_n hB 0 dX11_form_9 rfl rfl ?_
    refine v_bipush hB (-6) dX11_form_10 (by decide) ?_
    refine v_bWi (fun r12 h12 e12 => v_callV hB hK hR.rm [.int (-6)] [] (oM_0 g) lb_X11_no lv_X11_8 (c_X11_no g hK.A X.1.2.1 (-6) h e12) dX11_form_12 rfl rfl (Nat.le_of_ble_eq_true rfl) (by decide) (by decide)) (fun r12 h12 => ?_)
    exact v_retWi (x := r12) hB hK hR dX11_form_15

def f_X11_isWord_j86 (p1 : Int32) (p6 : Int32) (h : pq_H) (v7 : Int32) : Option Bool :=
  if v7 < 5 then (some true) else (gd (inb (p1 + 4) 72) (if (rI h 9 (p1 + 4).toNatClampNeg) = p6 then (some true) else (some false)))
def f_X11_isWord_j19 (p1 : Int32) (p2 : Int32) (p3 : Int32) (p4 : Int32) (p5 : Int32) (p6 : Int32) (h : pq_H) (s0 : Int32) : Option Bool :=
  if ((rI h 0 12) - p1) = s0 then (gd (inb p1 72) (if (rI h 9 p1.toNatClampNeg) = p2 then (gd (inb (p1 + 1) 72) (if (rI h 9 (p1 + 1).toNatClampNeg) = p3 then (gd (inb (p1 + 2) 72) (if (rI h 9 (p1 + 2).toNatClampNeg) = p4 then (if s0 < 4 then (f_X11_isWord_j86 p1 p6 h s0) else (gd (inb (p1 + 3) 72) (if (rI h 9 (p1 + 3).toNatClampNeg) = p5 then (f_X11_isWord_j86 p1 p6 h s0) else (some false)))) else (some false))) else (some false))) else (some false))) else (some false)
def f_X11_isWord (p1 : Int32) (p2 : Int32) (p3 : Int32) (p4 : Int32) (p5 : Int32) (p6 : Int32) (h : pq_H) : Option Bool :=
  if p6 = 0 then (if p5 = 0 then (f_X11_isWord_j19 p1 p2 p3 p4 p5 p6 h 3) else (f_X11_isWord_j19 p1 p2 p3 p4 p5 p6 h 4)) else (f_X11_isWord_j19 p1 p2 p3 p4 p5 p6 h 5)
set_option maxRecDepth 100000 in
set_option maxHeartbeats 4000000 in
theorem c_X11_isWord (g : pq_g) {A : Nat → Prop} (hA : pq_A (SM g) A) (l : Launch) (p1 : Int32) (p2 : Int32) (p3 : Int32) (p4 : Int32) (p5 : Int32) (p6 : Int32) (h : pq_H) {rr : Bool} (e : f_X11_isWord p1 p2 p3 p4 p5 p6 h = some rr) : pq_M (SM g) A l yX11_isWord cX11_isWord 8 (some .boolean) 0 0 [.ref ((SM g).1.2.1 0), .int p1, .int p2, .int p3, .int p4, .int p5, .int p6] h (some (.int (b2i rr))) h := by
  refine pq_met hA l (own := RX11) 0 0 _ [(0, .ref ((SM g).1.2.1 0)), (1, .int p1), (2, .int p2), (3, .int p3), (4, .int p4), (5, .int p5), (6, .int p6)] h _ h (by decide +kernel) rfl (Nat.le_of_ble_eq_true rfl) rfl (fun X hXl hXA hB hK hR => ?_)
  refine V.cast (F' := f_X11_isWord p1 p2 p3 p4 p5 p6 h) (res' := rr) (fun _ => e) ?_
  have hn86 : ∀ (v7 : Int32), V X (SM g) rr 8 86 [(0, .ref ((SM g).1.2.1 0)), (1, .int p1), (6, .int p6), (7, .int v7)] [] h (f_X11_isWord_j86 p1 p6 h v7) := by
    intro v7
    unfold f_X11_isWord_j86
    refine v_iload hB 3 dX11_isWord_86 rfl ?_
    refine v_iconst hB 5 dX11_isWord_88 (by decide) ?_
    refine v_icmp_lt (tgt := 105) hB dX11_isWord_89 rfl ?_ ?_
    · refine v_iconst hB 1 dX11_isWord_105 (by decide) ?_
      refine v_goto (tgt := 110) hB dX11_isWord_106 rfl ?_
      exact v_retRz (x := true) hB hK hR dX11_isWord_110
    · refine v_aload_n hB 0 dX11_isWord_92 rfl rfl ?_
      refine v_getA hB hK (fl_X11_49 g) (cMA_0_10 g) dX11_isWord_93 ?_
      refine v_iload_n hB 1 dX11_isWord_96 rfl rfl ?_
      refine v_iconst hB 4 dX11_isWord_97 (by decide) ?_
      refine v_iadd hB dX11_isWord_98 ?_
      refine v_iald hB hK (aMI_9 g) dX11_isWord_99 ?_
      refine v_iload hB 2 dX11_isWord_100 rfl ?_
      refine v_icmp_ne (tgt := 109) hB dX11_isWord_102 rfl ?_ ?_
      · refine v_iconst hB 0 dX11_isWord_109 (by decide) ?_
        exact v_retRz (x := false) hB hK hR dX11_isWord_110
      · refine v_iconst hB 1 dX11_isWord_105 (by decide) ?_
        refine v_goto (tgt := 110) hB dX11_isWord_106 rfl ?_
        exact v_retRz (x := true) hB hK hR dX11_isWord_110
  have hn19 : ∀ (s0 : Int32), V X (SM g) rr 8 19 [(0, .ref ((SM g).1.2.1 0)), (1, .int p1), (2, .int p2), (3, .int p3), (4, .int p4), (5, .int p5), (6, .int p6)] [.int s0] h (f_X11_isWord_j19 p1 p2 p3 p4 p5 p6 h s0) := by
    intro s0
    unfold f_X11_isWord_j19
    refine v_istore hB [(0, .ref ((SM g).1.2.1 0)), (1, .int p1), (2, .int p2), (3, .int p3), (4, .int p4), (5, .int p5), (6, .int p6), (7, .int s0)] [1, 2, 3, 4, 5, 6, 7, 0] dX11_isWord_19 (by decide) rfl ?_
    refine v_aload_n hB 0 dX11_isWord_21 rfl rfl ?_
    refine v_getI hB hK (fl_X11_172 g) (cMI_0_12 g) dX11_isWord_22 ?_
    refine v_iload_n hB 1 dX11_isWord_25 rfl rfl ?_
    refine v_isub hB dX11_isWord_26 ?_
    refine v_iload hB 7 dX11_isWord_27 rfl ?_
    refine v_icmp_ne (tgt := 109) hB dX11_isWord_29 rfl ?_ ?_
    · refine v_iconst hB 0 dX11_isWord_109 (by decide) ?_
      exact v_retRz (x := false) hB hK hR dX11_isWord_110
    · refine v_aload_n hB 0 dX11_isWord_32 rfl rfl ?_
      refine v_getA hB hK (fl_X11_49 g) (cMA_0_10 g) dX11_isWord_33 ?_
      refine v_iload_n hB 1 dX11_isWord_36 rfl rfl ?_
      refine v_iald hB hK (aMI_9 g) dX11_isWord_37 ?_
      refine v_iload_n hB 2 dX11_isWord_38 rfl rfl ?_
      refine v_icmp_ne (tgt := 109) hB dX11_isWord_39 rfl ?_ ?_
      · refine v_iconst hB 0 dX11_isWord_109 (by decide) ?_
        exact v_retRz (x := false) hB hK hR dX11_isWord_110
      · refine v_aload_n hB 0 dX11_isWord_42 rfl rfl ?_
        refine v_getA hB hK (fl_X11_49 g) (cMA_0_10 g) dX11_isWord_43 ?_
        refine v_iload_n hB 1 dX11_isWord_46 rfl rfl ?_
        refine v_iconst hB 1 dX11_isWord_47 (by decide) ?_
        refine v_iadd hB dX11_isWord_48 ?_
        refine v_iald hB hK (aMI_9 g) dX11_isWord_49 ?_
        refine v_iload_n hB 3 dX11_isWord_50 rfl rfl ?_
        refine v_icmp_ne (tgt := 109) hB dX11_isWord_51 rfl ?_ ?_
        · refine v_iconst hB 0 dX11_isWord_109 (by decide) ?_
          exact v_retRz (x := false) hB hK hR dX11_isWord_110
        · refine v_aload_n hB 0 dX11_isWord_54 rfl rfl ?_
          refine v_getA hB hK (fl_X11_49 g) (cMA_0_10 g) dX11_isWord_55 ?_
          refine v_iload_n hB 1 dX11_isWord_58 rfl rfl ?_
          refine v_iconst hB 2 dX11_isWord_59 (by decide) ?_
          refine v_iadd hB dX11_isWord_60 ?_
          refine v_iald hB hK (aMI_9 g) dX11_isWord_61 ?_
          refine v_iload hB 4 dX11_isWord_62 rfl ?_
          refine v_icmp_ne (tgt := 109) hB dX11_isWord_64 rfl ?_ ?_
          · refine v_iconst hB 0 dX11_isWord_109 (by decide) ?_
            exact v_retRz (x := false) hB hK hR dX11_isWord_110
          · refine v_iload hB 7 dX11_isWord_67 rfl ?_
            refine v_iconst hB 4 dX11_isWord_69 (by decide) ?_
            refine v_icmp_lt (tgt := 86) hB dX11_isWord_70 rfl ?_ ?_
            · exact V.sub [0, 1, 6, 7] rfl (hn86 s0)
            · refine v_aload_n hB 0 dX11_isWord_73 rfl rfl ?_
              refine v_getA hB hK (fl_X11_49 g) (cMA_0_10 g) dX11_isWord_74 ?_
              refine v_iload_n hB 1 dX11_isWord_77 rfl rfl ?_
              refine v_iconst hB 3 dX11_isWord_78 (by decide) ?_
              refine v_iadd hB dX11_isWord_79 ?_
              refine v_iald hB hK (aMI_9 g) dX11_isWord_80 ?_
              refine v_iload hB 5 dX11_isWord_81 rfl ?_
              refine v_icmp_ne (tgt := 109) hB dX11_isWord_83 rfl ?_ ?_
              · refine v_iconst hB 0 dX11_isWord_109 (by decide) ?_
                exact v_retRz (x := false) hB hK hR dX11_isWord_110
              · exact V.sub [0, 1, 6, 7] rfl (hn86 s0)
  unfold f_X11_isWord
  refine v_iload hB 6 dX11_isWord_0 rfl ?_
  refine v_if_ne (tgt := 18) hB dX11_isWord_2 rfl ?_ ?_
  · refine v_iconst hB 5 dX11_isWord_18 (by decide) ?_
    exact V.sub [0, 1, 2, 3, 4, 5, 6] rfl (hn19 5)
  · refine v_iload hB 5 dX11_isWord_5 rfl ?_
    refine v_if_ne (tgt := 14) hB dX11_isWord_7 rfl ?_ ?_
    · refine v_iconst hB 4 dX11_isWord_14 (by decide) ?_
      refine v_goto (tgt := 19) hB dX11_isWord_15 rfl ?_
      exact V.sub [0, 1, 2, 3, 4, 5, 6] rfl (hn19 4)
    · refine v_iconst hB 3 dX11_isWord_10 (by decide) ?_
      refine v_goto (tgt := 19) hB dX11_isWord_11 rfl ?_
      exact V.sub [0, 1, 2, 3, 4, 5, 6] rfl (hn19 3)

def f_X11_readsWord_j32 (v1 : Int32) (h : pq_H) : Option (Int32 × pq_H) :=
  (f_X11_isWord v1 115 117 109 0 0 h).bind fun r42 => if r42 = true then (some (0, h)) else ((f_X11_isWord v1 116 105 109 101 115 h).bind fun r62 => if r62 = true then (some (1, h)) else ((f_X11_isWord v1 108 105 102 116 0 h).bind fun r81 => if r81 = true then (some (2, h)) else ((f_X11_isWord v1 109 105 110 117 115 h).bind fun r101 => if r101 = true then (some (3, h)) else ((f_X11_isWord v1 115 105 100 101 0 h).bind fun r120 => if r120 = true then (some (4, h)) else (some ((-9), wI h 0 12 v1))))))
def f_X11_readsWord_l5 (v1 : Int32) (w5 : pq_H → Option (Int32 × pq_H)) (h : pq_H) : Option (Int32 × pq_H) :=
  (f_X11_next h).bind fun r6 => if (f_X11_isIn r6 97 122) = true then (w5 (wI h 0 12 ((rI h 0 12) + 1))) else (f_X11_readsWord_j32 v1 h)
def f_X11_readsWord (h : pq_H) : Option (Int32 × pq_H) :=
  lp (fun _ => none) (f_X11_readsWord_l5 (rI h 0 12)) 1000 h
set_option maxRecDepth 100000 in
set_option maxHeartbeats 4000000 in
theorem c_X11_readsWord (g : pq_g) {A : Nat → Prop} (hA : pq_A (SM g) A) (l : Launch) (h : pq_H) {rr : Int32} {hh : pq_H} (e : f_X11_readsWord h = some (rr, hh)) : pq_M (SM g) A l yX11_readsWord cX11_readsWord 2 (some .int) 1 27 [.ref ((SM g).1.2.1 0)] h (some (.int rr)) hh := by
  refine pq_met hA l (own := RX11) 1 27 _ [(0, .ref ((SM g).1.2.1 0))] h _ hh (by decide +kernel) rfl (Nat.le_of_ble_eq_true rfl) rfl (fun X hXl hXA hB hK hR => ?_)
  refine V.cast (F' := f_X11_readsWord h) (res' := (rr, hh)) (fun _ => e) ?_
  have hn32 : ∀ (v1 : Int32) (h : pq_H), V X (SM g) (rr, hh) 2 32 [(0, .ref ((SM g).1.2.1 0)), (1, .int v1)] [] h (f_X11_readsWord_j32 v1 h) := by
    intro v1 h
    unfold f_X11_readsWord_j32
    refine v_aload_n hB 0 dX11_readsWord_32 rfl rfl ?_
    refine v_iload_n hB 1 dX11_readsWord_33 rfl rfl ?_
    refine v_bipush hB 115 dX11_readsWord_34 (by decide) ?_
    refine v_bipush hB 117 dX11_readsWord_36 (by decide) ?_
    refine v_bipush hB 109 dX11_readsWord_38 (by decide) ?_
    refine v_iconst hB 0 dX11_readsWord_40 (by decide) ?_
    refine v_iconst hB 0 dX11_readsWord_41 (by decide) ?_
    refine v_bRz (fun r42 e42 => v_callV hB hK hR.rm [.int v1, .int 115, .int 117, .int 109, .int 0, .int 0] [] (oM_0 g) lb_X11_isWord lv_X11_193 (c_X11_isWord g hK.A X.1.2.1 v1 115 117 109 0 0 h e42) dX11_readsWord_42 rfl rfl (Nat.le_of_ble_eq_true rfl) (by decide) (by decide)) (fun r42 => ?_)
    refine v_ifz_eq (r := r42) (tgt := 50) hB dX11_readsWord_45 rfl ?_ ?_
    · refine v_aload_n hB 0 dX11_readsWord_50 rfl rfl ?_
      refine v_iload_n hB 1 dX11_readsWord_51 rfl rfl ?_
      refine v_bipush hB 116 dX11_readsWord_52 (by decide) ?_
      refine v_bipush hB 105 dX11_readsWord_54 (by decide) ?_
      refine v_bipush hB 109 dX11_readsWord_56 (by decide) ?_
      refine v_bipush hB 101 dX11_readsWord_58 (by decide) ?_
      refine v_bipush hB 115 dX11_readsWord_60 (by decide) ?_
      refine v_bRz (fun r62 e62 => v_callV hB hK hR.rm [.int v1, .int 116, .int 105, .int 109, .int 101, .int 115] [] (oM_0 g) lb_X11_isWord lv_X11_193 (c_X11_isWord g hK.A X.1.2.1 v1 116 105 109 101 115 h e62) dX11_readsWord_62 rfl rfl (Nat.le_of_ble_eq_true rfl) (by decide) (by decide)) (fun r62 => ?_)
      refine v_ifz_eq (r := r62) (tgt := 70) hB dX11_readsWord_65 rfl ?_ ?_
      · refine v_aload_n hB 0 dX11_readsWord_70 rfl rfl ?_
        refine v_iload_n hB 1 dX11_readsWord_71 rfl rfl ?_
        refine v_bipush hB 108 dX11_readsWord_72 (by decide) ?_
        refine v_bipush hB 105 dX11_readsWord_74 (by decide) ?_
        refine v_bipush hB 102 dX11_readsWord_76 (by decide) ?_
        refine v_bipush hB 116 dX11_readsWord_78 (by decide) ?_
        refine v_iconst hB 0 dX11_readsWord_80 (by decide) ?_
        refine v_bRz (fun r81 e81 => v_callV hB hK hR.rm [.int v1, .int 108, .int 105, .int 102, .int 116, .int 0] [] (oM_0 g) lb_X11_isWord lv_X11_193 (c_X11_isWord g hK.A X.1.2.1 v1 108 105 102 116 0 h e81) dX11_readsWord_81 rfl rfl (Nat.le_of_ble_eq_true rfl) (by decide) (by decide)) (fun r81 => ?_)
        refine v_ifz_eq (r := r81) (tgt := 89) hB dX11_readsWord_84 rfl ?_ ?_
        · refine v_aload_n hB 0 dX11_readsWord_89 rfl rfl ?_
          refine v_iload_n hB 1 dX11_readsWord_90 rfl rfl ?_
          refine v_bipush hB 109 dX11_readsWord_91 (by decide) ?_
          refine v_bipush hB 105 dX11_readsWord_93 (by decide) ?_
          refine v_bipush hB 110 dX11_readsWord_95 (by decide) ?_
          refine v_bipush hB 117 dX11_readsWord_97 (by decide) ?_
          refine v_bipush hB 115 dX11_readsWord_99 (by decide) ?_
          refine v_bRz (fun r101 e101 => v_callV hB hK hR.rm [.int v1, .int 109, .int 105, .int 110, .int 117, .int 115] [] (oM_0 g) lb_X11_isWord lv_X11_193 (c_X11_isWord g hK.A X.1.2.1 v1 109 105 110 117 115 h e101) dX11_readsWord_101 rfl rfl (Nat.le_of_ble_eq_true rfl) (by decide) (by decide)) (fun r101 => ?_)
          refine v_ifz_eq (r := r101) (tgt := 109) hB dX11_readsWord_104 rfl ?_ ?_
          · refine v_aload_n hB 0 dX11_readsWord_109 rfl rfl ?_
            refine v_iload_n hB 1 dX11_readsWord_110 rfl rfl ?_
            refine v_bipush hB 115 dX11_readsWord_111 (by decide) ?_
            refine v_bipush hB 105 dX11_readsWord_113 (by decide) ?_
            refine v_bipush hB 100 dX11_readsWord_115 (by decide) ?_
            refine v_bipush hB 101 dX11_readsWord_117 (by decide) ?_
            refine v_iconst hB 0 dX11_readsWord_119 (by decide) ?_
            refine v_bRz (fun r120 e120 => v_callV hB hK hR.rm [.int v1, .int 115, .int 105, .int 100, .int 101, .int 0] [] (oM_0 g) lb_X11_isWord lv_X11_193 (c_X11_isWord g hK.A X.1.2.1 v1 115 105 100 101 0 h e120) dX11_readsWord_120 rfl rfl (Nat.le_of_ble_eq_true rfl) (by decide) (by decide)) (fun r120 => ?_)
            refine v_ifz_eq (r := r120) (tgt := 128) hB dX11_readsWord_123 rfl ?_ ?_
            · refine v_aload_n hB 0 dX11_readsWord_128 rfl rfl ?_
              refine v_iload_n hB 1 dX11_readsWord_129 rfl rfl ?_
              refine v_putI hB hK (fl_X11_172 g) (fin_X11_12 g) (cMI_0_12 g) dX11_readsWord_130 ?_
              refine v_bipush hB (-9) dX11_readsWord_133 (by decide) ?_
              exact v_retWi (x := (-9)) hB hK hR dX11_readsWord_135
            · refine v_iconst hB 4 dX11_readsWord_126 (by decide) ?_
              exact v_retWi (x := 4) hB hK hR dX11_readsWord_127
          · refine v_iconst hB 3 dX11_readsWord_107 (by decide) ?_
            exact v_retWi (x := 3) hB hK hR dX11_readsWord_108
        · refine v_iconst hB 2 dX11_readsWord_87 (by decide) ?_
          exact v_retWi (x := 2) hB hK hR dX11_readsWord_88
      · refine v_iconst hB 1 dX11_readsWord_68 (by decide) ?_
        exact v_retWi (x := 1) hB hK hR dX11_readsWord_69
    · refine v_iconst hB 0 dX11_readsWord_48 (by decide) ?_
      exact v_retWi (x := 0) hB hK hR dX11_readsWord_49
  have hn5 : ∀ (v1 : Int32) (n : Nat), ∀ (h : pq_H), V X (SM g) (rr, hh) 2 5 [(0, .ref ((SM g).1.2.1 0)), (1, .int v1)] [] h (lp (fun _ => none) (f_X11_readsWord_l5 v1) n h) := by
    intro v1
    refine lp_ind (fun (w5 : pq_H → Option (Int32 × pq_H)) => ∀ (h : pq_H), V X (SM g) (rr, hh) 2 5 [(0, .ref ((SM g).1.2.1 0)), (1, .int v1)] [] h (w5 h)) (fun _ => V.none _ _ _ _) (fun w5 ih5 => ?_)
    intro h
    unfold f_X11_readsWord_l5
    refine v_aload_n hB 0 dX11_readsWord_5 rfl rfl ?_
    refine v_bRi (fun r6 e6 => v_callV hB hK hR.rm [] [] (oM_0 g) lb_X11_next lv_X11_175 (c_X11_next g hK.A X.1.2.1 h e6) dX11_readsWord_6 rfl rfl (Nat.le_of_ble_eq_true rfl) (by decide) (by decide)) (fun r6 => ?_)
    refine v_bipush hB 97 dX11_readsWord_9 (by decide) ?_
    refine v_bipush hB 122 dX11_readsWord_11 (by decide) ?_
    refine v_bT (v_callS hB hK hR.rm [.int r6, .int 97, .int 122] [] lb_X11_isIn lv_X11_98 (c_X11_isIn g hK.A X.1.2.1 r6 97 122 h) dX11_readsWord_13 rfl rfl (Nat.le_of_ble_eq_true rfl) (by decide) (by decide)) ?_
    refine v_ifz_eq (r := f_X11_isIn r6 97 122) (tgt := 32) hB dX11_readsWord_16 rfl ?_ ?_
    · exact V.sub [0, 1] rfl (hn32 v1 h)
    · refine v_aload_n hB 0 dX11_readsWord_19 rfl rfl ?_
      refine v_dup hB dX11_readsWord_20 rfl ?_
      refine v_getI hB hK (fl_X11_172 g) (cMI_0_12 g) dX11_readsWord_21 ?_
      refine v_iconst hB 1 dX11_readsWord_24 (by decide) ?_
      refine v_iadd hB dX11_readsWord_25 ?_
      refine v_putI hB hK (fl_X11_172 g) (fin_X11_12 g) (cMI_0_12 g) dX11_readsWord_26 ?_
      refine v_goto (tgt := 5) hB dX11_readsWord_29 rfl ?_
      exact V.sub [0, 1] rfl (ih5 (wI h 0 12 ((rI h 0 12) + 1)))
  unfold f_X11_readsWord
  refine v_aload_n hB 0 dX11_readsWord_0 rfl rfl ?_
  refine v_getI hB hK (fl_X11_172 g) (cMI_0_12 g) dX11_readsWord_1 ?_
  refine v_istore_n hB [(0, .ref ((SM g).1.2.1 0)), (1, .int (rI h 0 12))] [1, 0] dX11_readsWord_4 rfl (by decide) rfl ?_
  exact V.sub [0, 1] rfl (hn5 (rI h 0 12) 1000 h)

def f_X11_readsNumber (h : pq_H) : Option (Int32 × pq_H) :=
  (f_X11_next h).bind fun r1 => if r1 = 32 then (hl (wI h 0 12 ((rI h 0 12) + 1)) fun h19 => (f_X11_isDigit h19).bind fun r23 => if r23 = true then (hl (wI h19 0 12 ((rI h19 0 12) + 1)) fun h39 => gd (inb ((rI h39 0 12) - 1) 72) (some ((rI h39 9 ((rI h39 0 12) - 1).toNatClampNeg) - 48, h39))) else (some ((-9), h19))) else (some ((-9), h))
set_option maxRecDepth 100000 in
set_option maxHeartbeats 4000000 in
theorem c_X11_readsNumber (g : pq_g) {A : Nat → Prop} (hA : pq_A (SM g) A) (l : Launch) (h : pq_H) {rr : Int32} {hh : pq_H} (e : f_X11_readsNumber h = some (rr, hh)) : pq_M (SM g) A l yX11_readsNumber cX11_readsNumber 1 (some .int) 2 42 [.ref ((SM g).1.2.1 0)] h (some (.int rr)) hh := by
  refine pq_met hA l (own := RX11) 2 42 _ [(0, .ref ((SM g).1.2.1 0))] h _ hh (by decide +kernel) rfl (Nat.le_of_ble_eq_true rfl) rfl (fun X hXl hXA hB hK hR => ?_)
  refine V.cast (F' := f_X11_readsNumber h) (res' := (rr, hh)) (fun _ => e) ?_
  unfold f_X11_readsNumber
  refine v_aload_n hB 0 dX11_readsNumber_0 rfl rfl ?_
  refine v_bRi (fun r1 e1 => v_callV hB hK hR.rm [] [] (oM_0 g) lb_X11_next lv_X11_175 (c_X11_next g hK.A X.1.2.1 h e1) dX11_readsNumber_1 rfl rfl (Nat.le_of_ble_eq_true rfl) (by decide) (by decide)) (fun r1 => ?_)
  refine v_bipush hB 32 dX11_readsNumber_4 (by decide) ?_
  refine v_icmp_eq (tgt := 12) hB dX11_readsNumber_6 rfl ?_ ?_
  · refine v_aload_n hB 0 dX11_readsNumber_12 rfl rfl ?_
    refine v_dup hB dX11_readsNumber_13 rfl ?_
    refine v_getI hB hK (fl_X11_172 g) (cMI_0_12 g) dX11_readsNumber_14 ?_
    refine v_iconst hB 1 dX11_readsNumber_17 (by decide) ?_
    refine v_iadd hB dX11_readsNumber_18 ?_
    refine v_putI hB hK (fl_X11_172 g) (fin_X11_12 g) (cMI_0_12 g) dX11_readsNumber_19 ?_
    refine v_hl (fun h19 => ?_)
    refine v_aload_n hB 0 dX11_readsNumber_22 rfl rfl ?_
    refine v_bRz (fun r23 e23 => v_callV hB hK hR.rm [] [] (oM_0 g) lb_X11_isDigit lv_X11_179 (c_X11_isDigit g hK.A X.1.2.1 h19 e23) dX11_readsNumber_23 rfl rfl (Nat.le_of_ble_eq_true rfl) (by decide) (by decide)) (fun r23 => ?_)
    refine v_ifz_ne (r := r23) (tgt := 32) hB dX11_readsNumber_26 rfl ?_ ?_
    · refine v_aload_n hB 0 dX11_readsNumber_32 rfl rfl ?_
      refine v_dup hB dX11_readsNumber_33 rfl ?_
      refine v_getI hB hK (fl_X11_172 g) (cMI_0_12 g) dX11_readsNumber_34 ?_
      refine v_iconst hB 1 dX11_readsNumber_37 (by decide) ?_
      refine v_iadd hB dX11_readsNumber_38 ?_
      refine v_putI hB hK (fl_X11_172 g) (fin_X11_12 g) (cMI_0_12 g) dX11_readsNumber_39 ?_
      refine v_hl (fun h39 => ?_)
      refine v_aload_n hB 0 dX11_readsNumber_42 rfl rfl ?_
      refine v_getA hB hK (fl_X11_49 g) (cMA_0_10 g) dX11_readsNumber_43 ?_
      refine v_aload_n hB 0 dX11_readsNumber_46 rfl rfl ?_
      refine v_getI hB hK (fl_X11_172 g) (cMI_0_12 g) dX11_readsNumber_47 ?_
      refine v_iconst hB 1 dX11_readsNumber_50 (by decide) ?_
      refine v_isub hB dX11_readsNumber_51 ?_
      refine v_iald hB hK (aMI_9 g) dX11_readsNumber_52 ?_
      refine v_bipush hB 48 dX11_readsNumber_53 (by decide) ?_
      refine v_isub hB dX11_readsNumber_55 ?_
      exact v_retWi (x := (rI h39 9 ((rI h39 0 12) - 1).toNatClampNeg) - 48) hB hK hR dX11_readsNumber_56
    · refine v_bipush hB (-9) dX11_readsNumber_29 (by decide) ?_
      exact v_retWi (x := (-9)) hB hK hR dX11_readsNumber_31
  · refine v_bipush hB (-9) dX11_readsNumber_9 (by decide) ?_
    exact v_retWi (x := (-9)) hB hK hR dX11_readsNumber_11

