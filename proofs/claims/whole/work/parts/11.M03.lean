def f_X11_nextPoint (p1 : Int32) (h : pq_H) : Option (Bool × pq_H) :=
  if (rI h 0 23) ≤ 0 then (hl (wI h 0 22 ((rI h 0 22) - 1)) fun h36 => hl (wI h36 0 23 (p1 - (rI h36 0 22))) fun h46 => hl (wI h46 0 24 0) fun h51 => if (rI h51 0 22) < 0 then (some (false, h51)) else (some (true, h51))) else (hl (wI h 0 23 ((rI h 0 23) - 1)) fun h14 => some (true, wI h14 0 24 ((rI h14 0 24) + 1)))
set_option maxRecDepth 100000 in
set_option maxHeartbeats 4000000 in
theorem c_X11_nextPoint (g : pq_g) {A : Nat → Prop} (hA : pq_A (SM g) A) (l : Launch) (p1 : Int32) (h : pq_H) {rr : Bool} {hh : pq_H} (e : f_X11_nextPoint p1 h = some (rr, hh)) : pq_M (SM g) A l yX11_nextPoint cX11_nextPoint 2 (some .boolean) 0 0 [.ref ((SM g).1.2.1 0), .int p1] h (some (.int (b2i rr))) hh := by
  refine pq_met hA l (own := RX11) 0 0 _ [(0, .ref ((SM g).1.2.1 0)), (1, .int p1)] h _ hh (by decide +kernel) rfl (Nat.le_of_ble_eq_true rfl) rfl (fun X hXl hXA hB hK hR => ?_)
  refine V.cast (F' := f_X11_nextPoint p1 h) (res' := (rr, hh)) (fun _ => e) ?_
  unfold f_X11_nextPoint
  refine v_aload_n hB 0 dX11_nextPoint_0 rfl rfl ?_
  refine v_getI hB hK (fl_X11_261 g) (cMI_0_23 g) dX11_nextPoint_1 ?_
  refine v_if_le (tgt := 29) hB dX11_nextPoint_4 rfl ?_ ?_
  · refine v_aload_n hB 0 dX11_nextPoint_29 rfl rfl ?_
    refine v_dup hB dX11_nextPoint_30 rfl ?_
    refine v_getI hB hK (fl_X11_258 g) (cMI_0_22 g) dX11_nextPoint_31 ?_
    refine v_iconst hB 1 dX11_nextPoint_34 (by decide) ?_
    refine v_isub hB dX11_nextPoint_35 ?_
    refine v_putI hB hK (fl_X11_258 g) (fin_X11_22 g) (cMI_0_22 g) dX11_nextPoint_36 ?_
    refine v_hl (fun h36 => ?_)
    refine v_aload_n hB 0 dX11_nextPoint_39 rfl rfl ?_
    refine v_iload_n hB 1 dX11_nextPoint_40 rfl rfl ?_
    refine v_aload_n hB 0 dX11_nextPoint_41 rfl rfl ?_
    refine v_getI hB hK (fl_X11_258 g) (cMI_0_22 g) dX11_nextPoint_42 ?_
    refine v_isub hB dX11_nextPoint_45 ?_
    refine v_putI hB hK (fl_X11_261 g) (fin_X11_23 g) (cMI_0_23 g) dX11_nextPoint_46 ?_
    refine v_hl (fun h46 => ?_)
    refine v_aload_n hB 0 dX11_nextPoint_49 rfl rfl ?_
    refine v_iconst hB 0 dX11_nextPoint_50 (by decide) ?_
    refine v_putI hB hK (fl_X11_264 g) (fin_X11_24 g) (cMI_0_24 g) dX11_nextPoint_51 ?_
    refine v_hl (fun h51 => ?_)
    refine v_aload_n hB 0 dX11_nextPoint_54 rfl rfl ?_
    refine v_getI hB hK (fl_X11_258 g) (cMI_0_22 g) dX11_nextPoint_55 ?_
    refine v_if_lt (tgt := 65) hB dX11_nextPoint_58 rfl ?_ ?_
    · refine v_iconst hB 0 dX11_nextPoint_65 (by decide) ?_
      exact v_retWz (x := false) hB hK hR dX11_nextPoint_66
    · refine v_iconst hB 1 dX11_nextPoint_61 (by decide) ?_
      refine v_goto (tgt := 66) hB dX11_nextPoint_62 rfl ?_
      exact v_retWz (x := true) hB hK hR dX11_nextPoint_66
  · refine v_aload_n hB 0 dX11_nextPoint_7 rfl rfl ?_
    refine v_dup hB dX11_nextPoint_8 rfl ?_
    refine v_getI hB hK (fl_X11_261 g) (cMI_0_23 g) dX11_nextPoint_9 ?_
    refine v_iconst hB 1 dX11_nextPoint_12 (by decide) ?_
    refine v_isub hB dX11_nextPoint_13 ?_
    refine v_putI hB hK (fl_X11_261 g) (fin_X11_23 g) (cMI_0_23 g) dX11_nextPoint_14 ?_
    refine v_hl (fun h14 => ?_)
    refine v_aload_n hB 0 dX11_nextPoint_17 rfl rfl ?_
    refine v_dup hB dX11_nextPoint_18 rfl ?_
    refine v_getI hB hK (fl_X11_264 g) (cMI_0_24 g) dX11_nextPoint_19 ?_
    refine v_iconst hB 1 dX11_nextPoint_22 (by decide) ?_
    refine v_iadd hB dX11_nextPoint_23 ?_
    refine v_putI hB hK (fl_X11_264 g) (fin_X11_24 g) (cMI_0_24 g) dX11_nextPoint_24 ?_
    refine v_iconst hB 1 dX11_nextPoint_27 (by decide) ?_
    exact v_retWz (x := true) hB hK hR dX11_nextPoint_28

def f_X11_isPointOn_j26 (p1 : Int32) (h : pq_H) : Bool :=
  if (p1 &&& 4) = 0 then (if (rI h 0 24) = 0 then (true) else (false)) else (true)
def f_X11_isPointOn_j13 (p1 : Int32) (h : pq_H) : Bool :=
  if (p1 &&& 2) = 0 then (if (rI h 0 23) = 0 then (f_X11_isPointOn_j26 p1 h) else (false)) else (f_X11_isPointOn_j26 p1 h)
def f_X11_isPointOn (p1 : Int32) (h : pq_H) : Bool :=
  if (p1 &&& 1) = 0 then (if (rI h 0 22) = 0 then (f_X11_isPointOn_j13 p1 h) else (false)) else (f_X11_isPointOn_j13 p1 h)
set_option maxRecDepth 100000 in
set_option maxHeartbeats 4000000 in
theorem c_X11_isPointOn (g : pq_g) {A : Nat → Prop} (hA : pq_A (SM g) A) (l : Launch) (p1 : Int32) (h : pq_H) : pq_M (SM g) A l yX11_isPointOn cX11_isPointOn 2 (some .boolean) 0 0 [.ref ((SM g).1.2.1 0), .int p1] h (some (.int (b2i (f_X11_isPointOn p1 h)))) h := by
  refine pq_met hA l (own := RX11) 0 0 _ [(0, .ref ((SM g).1.2.1 0)), (1, .int p1)] h _ h (by decide +kernel) rfl (Nat.le_of_ble_eq_true rfl) rfl (fun X hXl hXA hB hK hR => ?_)
  refine V.cast (F' := some (f_X11_isPointOn p1 h)) (res' := (f_X11_isPointOn p1 h)) (fun _ => rfl) ?_
  have hn26 : V X (SM g) (f_X11_isPointOn p1 h) 2 26 [(0, .ref ((SM g).1.2.1 0)), (1, .int p1)] [] h (some (f_X11_isPointOn_j26 p1 h)) := by
    unfold f_X11_isPointOn_j26
    refine v_iload_n hB 1 dX11_isPointOn_26 rfl rfl ?_
    refine v_iconst hB 4 dX11_isPointOn_27 (by decide) ?_
    refine v_iand hB dX11_isPointOn_28 ?_
    refine v_if_neT (tgt := 39) hB dX11_isPointOn_29 rfl ?_ ?_
    · refine v_iconst hB 1 dX11_isPointOn_39 (by decide) ?_
      refine v_goto (tgt := 44) hB dX11_isPointOn_40 rfl ?_
      exact v_retRz (x := true) hB hK hR dX11_isPointOn_44
    · refine v_aload_n hB 0 dX11_isPointOn_32 rfl rfl ?_
      refine v_getI hB hK (fl_X11_264 g) (cMI_0_24 g) dX11_isPointOn_33 ?_
      refine v_if_neT (tgt := 43) hB dX11_isPointOn_36 rfl ?_ ?_
      · refine v_iconst hB 0 dX11_isPointOn_43 (by decide) ?_
        exact v_retRz (x := false) hB hK hR dX11_isPointOn_44
      · refine v_iconst hB 1 dX11_isPointOn_39 (by decide) ?_
        refine v_goto (tgt := 44) hB dX11_isPointOn_40 rfl ?_
        exact v_retRz (x := true) hB hK hR dX11_isPointOn_44
  have hn13 : V X (SM g) (f_X11_isPointOn p1 h) 2 13 [(0, .ref ((SM g).1.2.1 0)), (1, .int p1)] [] h (some (f_X11_isPointOn_j13 p1 h)) := by
    unfold f_X11_isPointOn_j13
    refine v_iload_n hB 1 dX11_isPointOn_13 rfl rfl ?_
    refine v_iconst hB 2 dX11_isPointOn_14 (by decide) ?_
    refine v_iand hB dX11_isPointOn_15 ?_
    refine v_if_neT (tgt := 26) hB dX11_isPointOn_16 rfl ?_ ?_
    · exact V.sub [0, 1] rfl (hn26)
    · refine v_aload_n hB 0 dX11_isPointOn_19 rfl rfl ?_
      refine v_getI hB hK (fl_X11_261 g) (cMI_0_23 g) dX11_isPointOn_20 ?_
      refine v_if_neT (tgt := 43) hB dX11_isPointOn_23 rfl ?_ ?_
      · refine v_iconst hB 0 dX11_isPointOn_43 (by decide) ?_
        exact v_retRz (x := false) hB hK hR dX11_isPointOn_44
      · exact V.sub [0, 1] rfl (hn26)
  unfold f_X11_isPointOn
  refine v_iload_n hB 1 dX11_isPointOn_0 rfl rfl ?_
  refine v_iconst hB 1 dX11_isPointOn_1 (by decide) ?_
  refine v_iand hB dX11_isPointOn_2 ?_
  refine v_if_neT (tgt := 13) hB dX11_isPointOn_3 rfl ?_ ?_
  · exact V.sub [0, 1] rfl (hn13)
  · refine v_aload_n hB 0 dX11_isPointOn_6 rfl rfl ?_
    refine v_getI hB hK (fl_X11_258 g) (cMI_0_22 g) dX11_isPointOn_7 ?_
    refine v_if_neT (tgt := 43) hB dX11_isPointOn_10 rfl ?_ ?_
    · refine v_iconst hB 0 dX11_isPointOn_43 (by decide) ?_
      exact v_retRz (x := false) hB hK hR dX11_isPointOn_44
    · exact V.sub [0, 1] rfl (hn13)

def f_X11_looks_j144 (p3 : Int32) (w19 : Int32 → pq_H → Option (Int32 × pq_H)) (v5 : Int32) (h : pq_H) : Option (Int32 × pq_H) :=
  bd2 (f_X11_nextPoint p3 h) fun r146 h146 => if r146 = true then (w19 v5 h146) else (some (v5, h146))
def f_X11_looks_j134 (p3 : Int32) (w19 : Int32 → pq_H → Option (Int32 × pq_H)) (v5 : Int32) (h : pq_H) : Option (Int32 × pq_H) :=
  f_X11_looks_j144 p3 w19 v5 (wI h 0 25 ((rI h 0 25) + 1))
def f_X11_looks_j128 (p3 : Int32) (w19 : Int32 → pq_H → Option (Int32 × pq_H)) (h : pq_H) : Option (Int32 × pq_H) :=
  f_X11_looks_j134 p3 w19 (rI h 0 25) h
def f_X11_looks_j97 (p3 : Int32) (p4 : Int32) (w19 : Int32 → pq_H → Option (Int32 × pq_H)) (v5 : Int32) (v6 : Int64) (s1 : Int32) (s2 : Int32) (h : pq_H) : Option (Int32 × pq_H) :=
  hl (wI h 0 26 (s1 + s2)) fun h98 => if 0 ≤ v5 then (f_X11_looks_j134 p3 w19 v5 h98) else (if p4 = 0 then (if 0 ≤ v6 then (f_X11_looks_j134 p3 w19 v5 h98) else (f_X11_looks_j128 p3 w19 h98)) else (if 0 < v6 then (f_X11_looks_j134 p3 w19 v5 h98) else (f_X11_looks_j128 p3 w19 h98)))
def f_X11_looks_j80 (p3 : Int32) (p4 : Int32) (w19 : Int32 → pq_H → Option (Int32 × pq_H)) (v5 : Int32) (v6 : Int64) (h : pq_H) : Option (Int32 × pq_H) :=
  if v6 ≤ 0 then (f_X11_looks_j97 p3 p4 w19 v5 v6 (rI h 0 26) 0 h) else (f_X11_looks_j97 p3 p4 w19 v5 v6 (rI h 0 26) 1 h)
def f_X11_looks_j66 (p3 : Int32) (p4 : Int32) (w19 : Int32 → pq_H → Option (Int32 × pq_H)) (v5 : Int32) (v6 : Int64) (h : pq_H) : Option (Int32 × pq_H) :=
  hl (wJ h 0 28 v6) fun h69 => f_X11_looks_j80 p3 p4 w19 v5 v6 (wI h69 0 27 (rI h69 0 25))
def f_X11_looks_l19 (p1 : Int32) (p2 : Int32) (p3 : Int32) (p4 : Int32) (w19 : Int32 → pq_H → Option (Int32 × pq_H)) (v5 : Int32) (h : pq_H) : Option (Int32 × pq_H) :=
  if (f_X11_isPointOn p2 h) = true then ((f_X11_valueAt p1 (rI h 0 22) (rI h 0 23) (rI h 0 24) h).bind fun r44 => if (rI h 0 25) = 0 then (f_X11_looks_j66 p3 p4 w19 v5 r44 h) else (if (rJ h 0 28) ≤ r44 then (f_X11_looks_j80 p3 p4 w19 v5 r44 h) else (f_X11_looks_j66 p3 p4 w19 v5 r44 h))) else (f_X11_looks_j144 p3 w19 v5 h)
def f_X11_looks (p1 : Int32) (p2 : Int32) (p3 : Int32) (p4 : Int32) (h : pq_H) : Option (Int32 × pq_H) :=
  hl (wI h 0 25 0) fun h2 => hl (wI h2 0 26 0) fun h7 => (f_X11_firstPoint p3 h7).bind fun h16 => lp (fun _ _ => none) (f_X11_looks_l19 p1 p2 p3 p4) 1000 (-9) h16
set_option maxRecDepth 100000 in
set_option maxHeartbeats 4000000 in
theorem c_X11_looks (g : pq_g) {A : Nat → Prop} (hA : pq_A (SM g) A) (l : Launch) (p1 : Int32) (p2 : Int32) (p3 : Int32) (p4 : Int32) (h : pq_H) {rr : Int32} {hh : pq_H} (e : f_X11_looks p1 p2 p3 p4 h = some (rr, hh)) : pq_M (SM g) A l yX11_looks cX11_looks 8 (some .int) 4 99 [.ref ((SM g).1.2.1 0), .int p1, .int p2, .int p3, .int p4] h (some (.int rr)) hh := by
  refine pq_met hA l (own := RX11) 4 99 _ [(0, .ref ((SM g).1.2.1 0)), (1, .int p1), (2, .int p2), (3, .int p3), (4, .int p4)] h _ hh (by decide +kernel) rfl (Nat.le_of_ble_eq_true rfl) rfl (fun X hXl hXA hB hK hR => ?_)
  refine V.cast (F' := f_X11_looks p1 p2 p3 p4 h) (res' := (rr, hh)) (fun _ => e) ?_
  have hn19 : ∀ (n : Nat), ∀ (v5 : Int32) (h : pq_H), V X (SM g) (rr, hh) 8 19 [(0, .ref ((SM g).1.2.1 0)), (1, .int p1), (2, .int p2), (3, .int p3), (4, .int p4), (5, .int v5)] [] h (lp (fun _ _ => none) (f_X11_looks_l19 p1 p2 p3 p4) n v5 h) := by
    refine lp_ind (fun (w19 : Int32 → pq_H → Option (Int32 × pq_H)) => ∀ (v5 : Int32) (h : pq_H), V X (SM g) (rr, hh) 8 19 [(0, .ref ((SM g).1.2.1 0)), (1, .int p1), (2, .int p2), (3, .int p3), (4, .int p4), (5, .int v5)] [] h (w19 v5 h)) (fun _ _ => V.none _ _ _ _) (fun w19 ih19 => ?_)
    have hn144 : ∀ (v5 : Int32) (h : pq_H), V X (SM g) (rr, hh) 8 144 [(0, .ref ((SM g).1.2.1 0)), (1, .int p1), (2, .int p2), (3, .int p3), (4, .int p4), (5, .int v5)] [] h (f_X11_looks_j144 p3 w19 v5 h) := by
      intro v5 h
      unfold f_X11_looks_j144
      refine v_aload_n hB 0 dX11_looks_144 rfl rfl ?_
      refine v_iload_n hB 3 dX11_looks_145 rfl rfl ?_
      refine v_bWz (fun r146 h146 e146 => v_callV hB hK hR.rm [.int p3] [] (oM_0 g) lb_X11_nextPoint lv_X11_286 (c_X11_nextPoint g hK.A X.1.2.1 p3 h e146) dX11_looks_146 rfl rfl (Nat.le_of_ble_eq_true rfl) (by decide) (by decide)) (fun r146 h146 => ?_)
      refine v_ifz_ne (r := r146) (tgt := 19) hB dX11_looks_149 rfl ?_ ?_
      · exact V.sub [0, 1, 2, 3, 4, 5] rfl (ih19 v5 h146)
      · refine v_iload hB 5 dX11_looks_152 rfl ?_
        exact v_retWi (x := v5) hB hK hR dX11_looks_154
    have hn134 : ∀ (v5 : Int32) (h : pq_H), V X (SM g) (rr, hh) 8 134 [(0, .ref ((SM g).1.2.1 0)), (1, .int p1), (2, .int p2), (3, .int p3), (4, .int p4), (5, .int v5)] [] h (f_X11_looks_j134 p3 w19 v5 h) := by
      intro v5 h
      unfold f_X11_looks_j134
      refine v_aload_n hB 0 dX11_looks_134 rfl rfl ?_
      refine v_dup hB dX11_looks_135 rfl ?_
      refine v_getI hB hK (fl_X11_267 g) (cMI_0_25 g) dX11_looks_136 ?_
      refine v_iconst hB 1 dX11_looks_139 (by decide) ?_
      refine v_iadd hB dX11_looks_140 ?_
      refine v_putI hB hK (fl_X11_267 g) (fin_X11_25 g) (cMI_0_25 g) dX11_looks_141 ?_
      exact V.sub [0, 1, 2, 3, 4, 5] rfl (hn144 v5 (wI h 0 25 ((rI h 0 25) + 1)))
    have hn128 : ∀ (h : pq_H), V X (SM g) (rr, hh) 8 128 [(0, .ref ((SM g).1.2.1 0)), (1, .int p1), (2, .int p2), (3, .int p3), (4, .int p4)] [] h (f_X11_looks_j128 p3 w19 h) := by
      intro h
      unfold f_X11_looks_j128
      refine v_aload_n hB 0 dX11_looks_128 rfl rfl ?_
      refine v_getI hB hK (fl_X11_267 g) (cMI_0_25 g) dX11_looks_129 ?_
      refine v_istore hB [(0, .ref ((SM g).1.2.1 0)), (1, .int p1), (2, .int p2), (3, .int p3), (4, .int p4), (5, .int (rI h 0 25))] [1, 2, 3, 4, 5, 0] dX11_looks_132 (by decide) rfl ?_
      exact V.sub [0, 1, 2, 3, 4, 5] rfl (hn134 (rI h 0 25) h)
    have hn97 : ∀ (v5 : Int32) (v6 : Int64) (s1 : Int32) (s2 : Int32) (h : pq_H), V X (SM g) (rr, hh) 8 97 [(0, .ref ((SM g).1.2.1 0)), (1, .int p1), (2, .int p2), (3, .int p3), (4, .int p4), (5, .int v5), (6, .long v6)] [.int s2, .int s1, .ref ((SM g).1.2.1 0)] h (f_X11_looks_j97 p3 p4 w19 v5 v6 s1 s2 h) := by
      intro v5 v6 s1 s2 h
      unfold f_X11_looks_j97
      refine v_iadd hB dX11_looks_97 ?_
      refine v_putI hB hK (fl_X11_270 g) (fin_X11_26 g) (cMI_0_26 g) dX11_looks_98 ?_
      refine v_hl (fun h98 => ?_)
      refine v_iload hB 5 dX11_looks_101 rfl ?_
      refine v_if_ge (tgt := 134) hB dX11_looks_103 rfl ?_ ?_
      · exact V.sub [0, 1, 2, 3, 4, 5] rfl (hn134 v5 h98)
      · refine v_iload hB 4 dX11_looks_106 rfl ?_
        refine v_if_ne (tgt := 121) hB dX11_looks_108 rfl ?_ ?_
        · refine v_lload hB 6 dX11_looks_121 rfl ?_
          refine v_lconst hB 0 dX11_looks_123 (by decide) ?_
          refine v_lcmp_gt (tgt := 134) hB dX11_looks_124 dX11_looks_125 rfl ?_ ?_
          · exact V.sub [0, 1, 2, 3, 4, 5] rfl (hn134 v5 h98)
          · exact V.sub [0, 1, 2, 3, 4] rfl (hn128 h98)
        · refine v_lload hB 6 dX11_looks_111 rfl ?_
          refine v_lconst hB 0 dX11_looks_113 (by decide) ?_
          refine v_lcmp_ge (tgt := 134) hB dX11_looks_114 dX11_looks_115 rfl ?_ ?_
          · exact V.sub [0, 1, 2, 3, 4, 5] rfl (hn134 v5 h98)
          · refine v_goto (tgt := 128) hB dX11_looks_118 rfl ?_
            exact V.sub [0, 1, 2, 3, 4] rfl (hn128 h98)
    have hn80 : ∀ (v5 : Int32) (v6 : Int64) (h : pq_H), V X (SM g) (rr, hh) 8 80 [(0, .ref ((SM g).1.2.1 0)), (1, .int p1), (2, .int p2), (3, .int p3), (4, .int p4), (5, .int v5), (6, .long v6)] [] h (f_X11_looks_j80 p3 p4 w19 v5 v6 h) := by
      intro v5 v6 h
      unfold f_X11_looks_j80
      refine v_aload_n hB 0 dX11_looks_80 rfl rfl ?_
      refine v_dup hB dX11_looks_81 rfl ?_
      refine v_getI hB hK (fl_X11_270 g) (cMI_0_26 g) dX11_looks_82 ?_
      refine v_lload hB 6 dX11_looks_85 rfl ?_
      refine v_lconst hB 0 dX11_looks_87 (by decide) ?_
      refine v_lcmp_le (tgt := 96) hB dX11_looks_88 dX11_looks_89 rfl ?_ ?_
      · refine v_iconst hB 0 dX11_looks_96 (by decide) ?_
        exact V.sub [0, 1, 2, 3, 4, 5, 6] rfl (hn97 v5 v6 (rI h 0 26) 0 h)
      · refine v_iconst hB 1 dX11_looks_92 (by decide) ?_
        refine v_goto (tgt := 97) hB dX11_looks_93 rfl ?_
        exact V.sub [0, 1, 2, 3, 4, 5, 6] rfl (hn97 v5 v6 (rI h 0 26) 1 h)
    have hn66 : ∀ (v5 : Int32) (v6 : Int64) (h : pq_H), V X (SM g) (rr, hh) 8 66 [(0, .ref ((SM g).1.2.1 0)), (1, .int p1), (2, .int p2), (3, .int p3), (4, .int p4), (5, .int v5), (6, .long v6)] [] h (f_X11_looks_j66 p3 p4 w19 v5 v6 h) := by
      intro v5 v6 h
      unfold f_X11_looks_j66
      refine v_aload_n hB 0 dX11_looks_66 rfl rfl ?_
      refine v_lload hB 6 dX11_looks_67 rfl ?_
      refine v_putJ hB hK (fl_X11_279 g) (fin_X11_28 g) (cMJ_0_28 g) dX11_looks_69 ?_
      refine v_hl (fun h69 => ?_)
      refine v_aload_n hB 0 dX11_looks_72 rfl rfl ?_
      refine v_aload_n hB 0 dX11_looks_73 rfl rfl ?_
      refine v_getI hB hK (fl_X11_267 g) (cMI_0_25 g) dX11_looks_74 ?_
      refine v_putI hB hK (fl_X11_283 g) (fin_X11_27 g) (cMI_0_27 g) dX11_looks_77 ?_
      exact V.sub [0, 1, 2, 3, 4, 5, 6] rfl (hn80 v5 v6 (wI h69 0 27 (rI h69 0 25)))
    intro v5 h
    unfold f_X11_looks_l19
    refine v_aload_n hB 0 dX11_looks_19 rfl rfl ?_
    refine v_iload_n hB 2 dX11_looks_20 rfl rfl ?_
    refine v_bT (v_callV hB hK hR.rm [.int p2] [] (oM_0 g) lb_X11_isPointOn lv_X11_276 (c_X11_isPointOn g hK.A X.1.2.1 p2 h) dX11_looks_21 rfl rfl (Nat.le_of_ble_eq_true rfl) (by decide) (by decide)) ?_
    refine v_ifz_ne (r := f_X11_isPointOn p2 h) (tgt := 30) hB dX11_looks_24 rfl ?_ ?_
    · refine v_aload_n hB 0 dX11_looks_30 rfl rfl ?_
      refine v_iload_n hB 1 dX11_looks_31 rfl rfl ?_
      refine v_aload_n hB 0 dX11_looks_32 rfl rfl ?_
      refine v_getI hB hK (fl_X11_258 g) (cMI_0_22 g) dX11_looks_33 ?_
      refine v_aload_n hB 0 dX11_looks_36 rfl rfl ?_
      refine v_getI hB hK (fl_X11_261 g) (cMI_0_23 g) dX11_looks_37 ?_
      refine v_aload_n hB 0 dX11_looks_40 rfl rfl ?_
      refine v_getI hB hK (fl_X11_264 g) (cMI_0_24 g) dX11_looks_41 ?_
      refine v_bRj (fun r44 e44 => v_callV hB hK hR.rm [.int p1, .int (rI h 0 22), .int (rI h 0 23), .int (rI h 0 24)] [] (oM_0 g) lb_X11_valueAt lv_X11_235 (c_X11_valueAt g hK.A X.1.2.1 p1 (rI h 0 22) (rI h 0 23) (rI h 0 24) h e44) dX11_looks_44 rfl rfl (Nat.le_of_ble_eq_true rfl) (by decide) (by decide)) (fun r44 => ?_)
      refine v_lstore hB [(0, .ref ((SM g).1.2.1 0)), (1, .int p1), (2, .int p2), (3, .int p3), (4, .int p4), (5, .int v5), (6, .long r44)] [1, 2, 3, 4, 5, 6, 0] dX11_looks_47 (by decide) rfl ?_
      refine v_aload_n hB 0 dX11_looks_49 rfl rfl ?_
      refine v_getI hB hK (fl_X11_267 g) (cMI_0_25 g) dX11_looks_50 ?_
      refine v_if_eq (tgt := 66) hB dX11_looks_53 rfl ?_ ?_
      · exact V.sub [0, 1, 2, 3, 4, 5, 6] rfl (hn66 v5 r44 h)
      · refine v_lload hB 6 dX11_looks_56 rfl ?_
        refine v_aload_n hB 0 dX11_looks_58 rfl rfl ?_
        refine v_getJ hB hK (fl_X11_279 g) (cMJ_0_28 g) dX11_looks_59 ?_
        refine v_lcmp_ge (tgt := 80) hB dX11_looks_62 dX11_looks_63 rfl ?_ ?_
        · exact V.sub [0, 1, 2, 3, 4, 5, 6] rfl (hn80 v5 r44 h)
        · exact V.sub [0, 1, 2, 3, 4, 5, 6] rfl (hn66 v5 r44 h)
    · refine v_goto (tgt := 144) hB dX11_looks_27 rfl ?_
      exact V.sub [0, 1, 2, 3, 4, 5] rfl (hn144 v5 h)
  unfold f_X11_looks
  refine v_aload_n hB 0 dX11_looks_0 rfl rfl ?_
  refine v_iconst hB 0 dX11_looks_1 (by decide) ?_
  refine v_putI hB hK (fl_X11_267 g) (fin_X11_25 g) (cMI_0_25 g) dX11_looks_2 ?_
  refine v_hl (fun h2 => ?_)
  refine v_aload_n hB 0 dX11_looks_5 rfl rfl ?_
  refine v_iconst hB 0 dX11_looks_6 (by decide) ?_
  refine v_putI hB hK (fl_X11_270 g) (fin_X11_26 g) (cMI_0_26 g) dX11_looks_7 ?_
  refine v_hl (fun h7 => ?_)
  refine v_bipush hB (-9) dX11_looks_10 (by decide) ?_
  refine v_istore hB [(0, .ref ((SM g).1.2.1 0)), (1, .int p1), (2, .int p2), (3, .int p3), (4, .int p4), (5, .int (-9))] [1, 2, 3, 4, 5, 0] dX11_looks_12 (by decide) rfl ?_
  refine v_aload_n hB 0 dX11_looks_14 rfl rfl ?_
  refine v_iload_n hB 3 dX11_looks_15 rfl rfl ?_
  refine v_bV (fun h16 e16 => v_callV hB hK hR.rm [.int p3] [] (oM_0 g) lb_X11_firstPoint lv_X11_273 (c_X11_firstPoint g hK.A X.1.2.1 p3 h7 e16) dX11_looks_16 rfl rfl (Nat.le_of_ble_eq_true rfl) (by decide) (by decide)) (fun h16 => ?_)
  exact V.sub [0, 1, 2, 3, 4, 5] rfl (hn19 1000 (-9) h16)

def f_X11_failsAt_j26 (p4 : Int32) (v5 : Int32) (v6 : Int32) (h : pq_H) : Option (Int32 × pq_H) :=
  if p4 = 0 then (some (v5, h)) else (some (v6, h))
def f_X11_failsAt_l3 (p1 : Int32) (p2 : Int32) (p3 : Int32) (p4 : Int32) (w3 : Int32 → pq_H → Option (Int32 × pq_H)) (v5 : Int32) (h : pq_H) : Option (Int32 × pq_H) :=
  if 12 < v5 then (some ((-9), h)) else (bd2 (f_X11_looks p1 p2 v5 p3 h) fun r16 h16 => if r16 < 0 then (w3 (v5 + 1) h16) else (f_X11_failsAt_j26 p4 v5 r16 h16))
def f_X11_failsAt (p1 : Int32) (p2 : Int32) (p3 : Int32) (p4 : Int32) (h : pq_H) : Option (Int32 × pq_H) :=
  lp (fun _ _ => none) (f_X11_failsAt_l3 p1 p2 p3 p4) 1000 1 h
set_option maxRecDepth 100000 in
set_option maxHeartbeats 4000000 in
theorem c_X11_failsAt (g : pq_g) {A : Nat → Prop} (hA : pq_A (SM g) A) (l : Launch) (p1 : Int32) (p2 : Int32) (p3 : Int32) (p4 : Int32) (h : pq_H) {rr : Int32} {hh : pq_H} (e : f_X11_failsAt p1 p2 p3 p4 h = some (rr, hh)) : pq_M (SM g) A l yX11_failsAt cX11_failsAt 7 (some .int) 5 126 [.ref ((SM g).1.2.1 0), .int p1, .int p2, .int p3, .int p4] h (some (.int rr)) hh := by
  refine pq_met hA l (own := RX11) 5 126 _ [(0, .ref ((SM g).1.2.1 0)), (1, .int p1), (2, .int p2), (3, .int p3), (4, .int p4)] h _ hh (by decide +kernel) rfl (Nat.le_of_ble_eq_true rfl) rfl (fun X hXl hXA hB hK hR => ?_)
  refine V.cast (F' := f_X11_failsAt p1 p2 p3 p4 h) (res' := (rr, hh)) (fun _ => e) ?_
  have hn26 : ∀ (v5 : Int32) (v6 : Int32) (h : pq_H), V X (SM g) (rr, hh) 7 26 [(4, .int p4), (5, .int v5), (6, .int v6)] [] h (f_X11_failsAt_j26 p4 v5 v6 h) := by
    intro v5 v6 h
    unfold f_X11_failsAt_j26
    refine v_iload hB 0 dX11_failsAt_26 rfl ?_
    refine v_if_ne (tgt := 36) hB dX11_failsAt_28 rfl ?_ ?_
    · refine v_iload hB 2 dX11_failsAt_36 rfl ?_
      exact v_retWi (x := v6) hB hK hR dX11_failsAt_38
    · refine v_iload hB 1 dX11_failsAt_31 rfl ?_
      refine v_goto (tgt := 38) hB dX11_failsAt_33 rfl ?_
      exact v_retWi (x := v5) hB hK hR dX11_failsAt_38
  have hn3 : ∀ (n : Nat), ∀ (v5 : Int32) (h : pq_H), V X (SM g) (rr, hh) 7 3 [(0, .ref ((SM g).1.2.1 0)), (1, .int p1), (2, .int p2), (3, .int p3), (4, .int p4), (5, .int v5)] [] h (lp (fun _ _ => none) (f_X11_failsAt_l3 p1 p2 p3 p4) n v5 h) := by
    refine lp_ind (fun (w3 : Int32 → pq_H → Option (Int32 × pq_H)) => ∀ (v5 : Int32) (h : pq_H), V X (SM g) (rr, hh) 7 3 [(0, .ref ((SM g).1.2.1 0)), (1, .int p1), (2, .int p2), (3, .int p3), (4, .int p4), (5, .int v5)] [] h (w3 v5 h)) (fun _ _ => V.none _ _ _ _) (fun w3 ih3 => ?_)
    intro v5 h
    unfold f_X11_failsAt_l3
    refine v_iload hB 5 dX11_failsAt_3 rfl ?_
    refine v_bipush hB 12 dX11_failsAt_5 (by decide) ?_
    refine v_icmp_gt (tgt := 45) hB dX11_failsAt_7 rfl ?_ ?_
    · refine v_bipush hB (-9) dX11_failsAt_45 (by decide) ?_
      exact v_retWi (x := (-9)) hB hK hR dX11_failsAt_47
    · refine v_aload_n hB 0 dX11_failsAt_10 rfl rfl ?_
      refine v_iload_n hB 1 dX11_failsAt_11 rfl rfl ?_
      refine v_iload_n hB 2 dX11_failsAt_12 rfl rfl ?_
      refine v_iload hB 5 dX11_failsAt_13 rfl ?_
      refine v_iload_n hB 3 dX11_failsAt_15 rfl rfl ?_
      refine v_bWi (fun r16 h16 e16 => v_callV hB hK hR.rm [.int p1, .int p2, .int v5, .int p3] [] (oM_0 g) lb_X11_looks lv_X11_289 (c_X11_looks g hK.A X.1.2.1 p1 p2 v5 p3 h e16) dX11_failsAt_16 rfl rfl (Nat.le_of_ble_eq_true rfl) (by decide) (by decide)) (fun r16 h16 => ?_)
      refine v_istore hB [(0, .ref ((SM g).1.2.1 0)), (1, .int p1), (2, .int p2), (3, .int p3), (4, .int p4), (5, .int v5), (6, .int r16)] [1, 2, 3, 4, 5, 6, 0] dX11_failsAt_19 (by decide) rfl ?_
      refine v_iload hB 6 dX11_failsAt_21 rfl ?_
      refine v_if_lt (tgt := 39) hB dX11_failsAt_23 rfl ?_ ?_
      · refine v_iinc hB (v5 + 1) [(0, .ref ((SM g).1.2.1 0)), (1, .int p1), (2, .int p2), (3, .int p3), (4, .int p4), (5, .int (v5 + 1)), (6, .int r16)] 5 [1, 2, 3, 4, 5, 0, 6] dX11_failsAt_39 rfl rfl (by decide) rfl ?_
        refine v_goto (tgt := 3) hB dX11_failsAt_42 rfl ?_
        exact V.sub [0, 1, 2, 3, 4, 5] rfl (ih3 (v5 + 1) h16)
      · exact V.sub [4, 5, 6] rfl (hn26 v5 r16 h16)
  unfold f_X11_failsAt
  refine v_iconst hB 1 dX11_failsAt_0 (by decide) ?_
  refine v_istore hB [(0, .ref ((SM g).1.2.1 0)), (1, .int p1), (2, .int p2), (3, .int p3), (4, .int p4), (5, .int 1)] [1, 2, 3, 4, 5, 0] dX11_failsAt_1 (by decide) rfl ?_
  exact V.sub [0, 1, 2, 3, 4, 5] rfl (hn3 1000 1 h)

def f_X11_failing_j36 (p1 : Int32) (p2 : Int32) (p3 : Int32) (p4 : Int32) (s0 : Int32) (h : pq_H) : Option (Int32 × pq_H) :=
  if s0 = 0 then (bd2 (f_X11_failsAt p1 p2 p3 p4 h) fun r58 h58 => some (r58, h58)) else (bd2 (f_X11_no s0 h) fun r46 h46 => some (r46, h46))
def f_X11_failing_j30 (p1 : Int32) (p2 : Int32) (p3 : Int32) (p4 : Int32) (h : pq_H) : Option (Int32 × pq_H) :=
  f_X11_failing_j36 p1 p2 p3 p4 (-2) h
def f_X11_failing (p1 : Int32) (p2 : Int32) (p3 : Int32) (p4 : Int32) (h : pq_H) : Option (Int32 × pq_H) :=
  if (f_X11_notSide p1 p2 h) = 0 then (if (f_X11_isSort p3) = true then (if (f_X11_isIn p4 0 1) = true then (f_X11_failing_j36 p1 p2 p3 p4 0 h) else (f_X11_failing_j30 p1 p2 p3 p4 h)) else (f_X11_failing_j30 p1 p2 p3 p4 h)) else (f_X11_failing_j36 p1 p2 p3 p4 (-1) h)
set_option maxRecDepth 100000 in
set_option maxHeartbeats 4000000 in
theorem c_X11_failing (g : pq_g) {A : Nat → Prop} (hA : pq_A (SM g) A) (l : Launch) (p1 : Int32) (p2 : Int32) (p3 : Int32) (p4 : Int32) (h : pq_H) {rr : Int32} {hh : pq_H} (e : f_X11_failing p1 p2 p3 p4 h = some (rr, hh)) : pq_M (SM g) A l yX11_failing cX11_failing 6 (some .int) 6 152 [.ref ((SM g).1.2.1 0), .int p1, .int p2, .int p3, .int p4] h (some (.int rr)) hh := by
  refine pq_met hA l (own := RX11) 6 152 _ [(0, .ref ((SM g).1.2.1 0)), (1, .int p1), (2, .int p2), (3, .int p3), (4, .int p4)] h _ hh (by decide +kernel) rfl (Nat.le_of_ble_eq_true rfl) rfl (fun X hXl hXA hB hK hR => ?_)
  refine V.cast (F' := f_X11_failing p1 p2 p3 p4 h) (res' := (rr, hh)) (fun _ => e) ?_
  have hn36 : ∀ (s0 : Int32) (h : pq_H), V X (SM g) (rr, hh) 6 36 [(0, .ref ((SM g).1.2.1 0)), (1, .int p1), (2, .int p2), (3, .int p3), (4, .int p4)] [.int s0] h (f_X11_failing_j36 p1 p2 p3 p4 s0 h) := by
    intro s0 h
    unfold f_X11_failing_j36
    refine v_istore hB [(0, .ref ((SM g).1.2.1 0)), (1, .int p1), (2, .int p2), (3, .int p3), (4, .int p4), (5, .int s0)] [1, 2, 3, 4, 5, 0] dX11_failing_36 (by decide) rfl ?_
    refine v_iload hB 5 dX11_failing_38 rfl ?_
    refine v_if_eq (tgt := 52) hB dX11_failing_40 rfl ?_ ?_
    · refine v_aload_n hB 0 dX11_failing_52 rfl rfl ?_
      refine v_iload_n hB 1 dX11_failing_53 rfl rfl ?_
      refine v_iload_n hB 2 dX11_failing_54 rfl rfl ?_
      refine v_iload_n hB 3 dX11_failing_55 rfl rfl ?_
      refine v_iload hB 4 dX11_failing_56 rfl ?_
      refine v_bWi (fun r58 h58 e58 => v_callV hB hK hR.rm [.int p1, .int p2, .int p3, .int p4] [] (oM_0 g) lb_X11_failsAt lv_X11_293 (c_X11_failsAt g hK.A X.1.2.1 p1 p2 p3 p4 h e58) dX11_failing_58 rfl rfl (Nat.le_of_ble_eq_true rfl) (by decide) (by decide)) (fun r58 h58 => ?_)
      exact v_retWi (x := r58) hB hK hR dX11_failing_61
    · refine v_aload_n hB 0 dX11_failing_43 rfl rfl ?_
      refine v_iload hB 5 dX11_failing_44 rfl ?_
      refine v_bWi (fun r46 h46 e46 => v_callV hB hK hR.rm [.int s0] [] (oM_0 g) lb_X11_no lv_X11_8 (c_X11_no g hK.A X.1.2.1 s0 h e46) dX11_failing_46 rfl rfl (Nat.le_of_ble_eq_true rfl) (by decide) (by decide)) (fun r46 h46 => ?_)
      refine v_goto (tgt := 61) hB dX11_failing_49 rfl ?_
      exact v_retWi (x := r46) hB hK hR dX11_failing_61
  have hn30 : ∀ (h : pq_H), V X (SM g) (rr, hh) 6 30 [(0, .ref ((SM g).1.2.1 0)), (1, .int p1), (2, .int p2), (3, .int p3), (4, .int p4)] [] h (f_X11_failing_j30 p1 p2 p3 p4 h) := by
    intro h
    unfold f_X11_failing_j30
    refine v_bipush hB (-2) dX11_failing_30 (by decide) ?_
    refine v_goto (tgt := 36) hB dX11_failing_32 rfl ?_
    exact V.sub [0, 1, 2, 3, 4] rfl (hn36 (-2) h)
  unfold f_X11_failing
  refine v_aload_n hB 0 dX11_failing_0 rfl rfl ?_
  refine v_iload_n hB 1 dX11_failing_1 rfl rfl ?_
  refine v_iload_n hB 2 dX11_failing_2 rfl rfl ?_
  refine v_bT (v_callV hB hK hR.rm [.int p1, .int p2] [] (oM_0 g) lb_X11_notSide lv_X11_246 (c_X11_notSide g hK.A X.1.2.1 p1 p2 h) dX11_failing_3 rfl rfl (Nat.le_of_ble_eq_true rfl) (by decide) (by decide)) ?_
  refine v_if_eq (tgt := 13) hB dX11_failing_6 rfl ?_ ?_
  · refine v_iload_n hB 3 dX11_failing_13 rfl rfl ?_
    refine v_bT (v_callS hB hK hR.rm [.int p3] [] lb_X11_isSort lv_X11_249 (c_X11_isSort g hK.A X.1.2.1 p3 h) dX11_failing_14 rfl rfl (Nat.le_of_ble_eq_true rfl) (by decide) (by decide)) ?_
    refine v_ifz_eq (r := f_X11_isSort p3) (tgt := 30) hB dX11_failing_17 rfl ?_ ?_
    · exact V.sub [0, 1, 2, 3, 4] rfl (hn30 h)
    · refine v_iload hB 4 dX11_failing_20 rfl ?_
      refine v_iconst hB 0 dX11_failing_22 (by decide) ?_
      refine v_iconst hB 1 dX11_failing_23 (by decide) ?_
      refine v_bT (v_callS hB hK hR.rm [.int p4, .int 0, .int 1] [] lb_X11_isIn lv_X11_98 (c_X11_isIn g hK.A X.1.2.1 p4 0 1 h) dX11_failing_24 rfl rfl (Nat.le_of_ble_eq_true rfl) (by decide) (by decide)) ?_
      refine v_ifz_ne (r := f_X11_isIn p4 0 1) (tgt := 35) hB dX11_failing_27 rfl ?_ ?_
      · refine v_iconst hB 0 dX11_failing_35 (by decide) ?_
        exact V.sub [0, 1, 2, 3, 4] rfl (hn36 0 h)
      · exact V.sub [0, 1, 2, 3, 4] rfl (hn30 h)
  · refine v_iconst hB (-1) dX11_failing_9 (by decide) ?_
    refine v_goto (tgt := 36) hB dX11_failing_10 rfl ?_
    exact V.sub [0, 1, 2, 3, 4] rfl (hn36 (-1) h)

def f_X11_notLooked_j22 (p4 : Int32) (v5 : Int32) : Int32 :=
  if v5 = 0 then (if (f_X11_isIn p4 0 1) = true then (0) else ((-2))) else (v5)
def f_X11_notLooked (p1 : Int32) (p2 : Int32) (p3 : Int32) (p4 : Int32) (h : pq_H) : Int32 :=
  if (f_X11_notSide p1 p2 h) = 0 then (f_X11_notLooked_j22 p4 (f_X11_bound p3 1 12)) else (f_X11_notLooked_j22 p4 (f_X11_notSide p1 p2 h))
set_option maxRecDepth 100000 in
set_option maxHeartbeats 4000000 in
theorem c_X11_notLooked (g : pq_g) {A : Nat → Prop} (hA : pq_A (SM g) A) (l : Launch) (p1 : Int32) (p2 : Int32) (p3 : Int32) (p4 : Int32) (h : pq_H) : pq_M (SM g) A l yX11_notLooked cX11_notLooked 6 (some .int) 3 65 [.ref ((SM g).1.2.1 0), .int p1, .int p2, .int p3, .int p4] h (some (.int (f_X11_notLooked p1 p2 p3 p4 h))) h := by
  refine pq_met hA l (own := RX11) 3 65 _ [(0, .ref ((SM g).1.2.1 0)), (1, .int p1), (2, .int p2), (3, .int p3), (4, .int p4)] h _ h (by decide +kernel) rfl (Nat.le_of_ble_eq_true rfl) rfl (fun X hXl hXA hB hK hR => ?_)
  refine V.cast (F' := some (f_X11_notLooked p1 p2 p3 p4 h)) (res' := (f_X11_notLooked p1 p2 p3 p4 h)) (fun _ => rfl) ?_
  have hn22 : ∀ (v5 : Int32), V X (SM g) (f_X11_notLooked p1 p2 p3 p4 h) 6 22 [(4, .int p4), (5, .int v5)] [] h (some (f_X11_notLooked_j22 p4 v5)) := by
    intro v5
    unfold f_X11_notLooked_j22
    refine v_iload hB 1 dX11_notLooked_22 rfl ?_
    refine v_if_eqT (tgt := 32) hB dX11_notLooked_24 rfl ?_ ?_
    · refine v_iload hB 0 dX11_notLooked_32 rfl ?_
      refine v_iconst hB 0 dX11_notLooked_34 (by decide) ?_
      refine v_iconst hB 1 dX11_notLooked_35 (by decide) ?_
      refine v_bT (v_callS hB hK hR.rm [.int p4, .int 0, .int 1] [] lb_X11_isIn lv_X11_98 (c_X11_isIn g hK.A X.1.2.1 p4 0 1 h) dX11_notLooked_36 rfl rfl (Nat.le_of_ble_eq_true rfl) (by decide) (by decide)) ?_
      refine v_ifz_eqT (r := f_X11_isIn p4 0 1) (tgt := 46) hB dX11_notLooked_39 rfl ?_ ?_
      · refine v_bipush hB (-2) dX11_notLooked_46 (by decide) ?_
        exact v_retRi (x := (-2)) hB hK hR dX11_notLooked_48
      · refine v_iconst hB 0 dX11_notLooked_42 (by decide) ?_
        refine v_goto (tgt := 48) hB dX11_notLooked_43 rfl ?_
        exact v_retRi (x := 0) hB hK hR dX11_notLooked_48
    · refine v_iload hB 1 dX11_notLooked_27 rfl ?_
      refine v_goto (tgt := 48) hB dX11_notLooked_29 rfl ?_
      exact v_retRi (x := v5) hB hK hR dX11_notLooked_48
  unfold f_X11_notLooked
  refine v_aload_n hB 0 dX11_notLooked_0 rfl rfl ?_
  refine v_iload_n hB 1 dX11_notLooked_1 rfl rfl ?_
  refine v_iload_n hB 2 dX11_notLooked_2 rfl rfl ?_
  refine v_bT (v_callV hB hK hR.rm [.int p1, .int p2] [] (oM_0 g) lb_X11_notSide lv_X11_246 (c_X11_notSide g hK.A X.1.2.1 p1 p2 h) dX11_notLooked_3 rfl rfl (Nat.le_of_ble_eq_true rfl) (by decide) (by decide)) ?_
  refine v_istore hB [(0, .ref ((SM g).1.2.1 0)), (1, .int p1), (2, .int p2), (3, .int p3), (4, .int p4), (5, .int (f_X11_notSide p1 p2 h))] [1, 2, 3, 4, 5, 0] dX11_notLooked_6 (by decide) rfl ?_
  refine v_iload hB 5 dX11_notLooked_8 rfl ?_
  refine v_if_neT (tgt := 22) hB dX11_notLooked_10 rfl ?_ ?_
  · exact V.sub [4, 5] rfl (hn22 (f_X11_notSide p1 p2 h))
  · refine v_iload_n hB 3 dX11_notLooked_13 rfl rfl ?_
    refine v_iconst hB 1 dX11_notLooked_14 (by decide) ?_
    refine v_bipush hB 12 dX11_notLooked_15 (by decide) ?_
    refine v_bT (v_callS hB hK hR.rm [.int p3, .int 1, .int 12] [] lb_X11_bound lv_X11_154 (c_X11_bound g hK.A X.1.2.1 p3 1 12 h) dX11_notLooked_17 rfl rfl (Nat.le_of_ble_eq_true rfl) (by decide) (by decide)) ?_
    refine v_istore hB [(0, .ref ((SM g).1.2.1 0)), (1, .int p1), (2, .int p2), (3, .int p3), (4, .int p4), (5, .int (f_X11_bound p3 1 12))] [1, 2, 3, 4, 5, 0] dX11_notLooked_20 (by decide) rfl ?_
    exact V.sub [4, 5] rfl (hn22 (f_X11_bound p3 1 12))

def f_X11_lowest (p1 : Int32) (p2 : Int32) (p3 : Int32) (p4 : Int32) (h : pq_H) : Option (Int64 × pq_H) :=
  if (f_X11_notLooked p1 p2 p3 p4 h) = 0 then (bd2 (f_X11_looks p1 p2 p3 0 h) fun r28 h28 => if p4 = 0 then (some (rJ h28 0 28, h28)) else (some ((rI h28 0 27).toInt64, h28))) else (bd2 (f_X11_lower (f_X11_notLooked p1 p2 p3 p4 h) h) fun r19 h19 => some (r19, h19))
set_option maxRecDepth 100000 in
set_option maxHeartbeats 4000000 in
theorem c_X11_lowest (g : pq_g) {A : Nat → Prop} (hA : pq_A (SM g) A) (l : Launch) (p1 : Int32) (p2 : Int32) (p3 : Int32) (p4 : Int32) (h : pq_H) {rr : Int64} {hh : pq_H} (e : f_X11_lowest p1 p2 p3 p4 h = some (rr, hh)) : pq_M (SM g) A l yX11_lowest cX11_lowest 6 (some .long) 5 126 [.ref ((SM g).1.2.1 0), .int p1, .int p2, .int p3, .int p4] h (some (.long rr)) hh := by
  refine pq_met hA l (own := RX11) 5 126 _ [(0, .ref ((SM g).1.2.1 0)), (1, .int p1), (2, .int p2), (3, .int p3), (4, .int p4)] h _ hh (by decide +kernel) rfl (Nat.le_of_ble_eq_true rfl) rfl (fun X hXl hXA hB hK hR => ?_)
  refine V.cast (F' := f_X11_lowest p1 p2 p3 p4 h) (res' := (rr, hh)) (fun _ => e) ?_
  unfold f_X11_lowest
  refine v_aload_n hB 0 dX11_lowest_0 rfl rfl ?_
  refine v_iload_n hB 1 dX11_lowest_1 rfl rfl ?_
  refine v_iload_n hB 2 dX11_lowest_2 rfl rfl ?_
  refine v_iload_n hB 3 dX11_lowest_3 rfl rfl ?_
  refine v_iload hB 4 dX11_lowest_4 rfl ?_
  refine v_bT (v_callV hB hK hR.rm [.int p1, .int p2, .int p3, .int p4] [] (oM_0 g) lb_X11_notLooked lv_X11_296 (c_X11_notLooked g hK.A X.1.2.1 p1 p2 p3 p4 h) dX11_lowest_6 rfl rfl (Nat.le_of_ble_eq_true rfl) (by decide) (by decide)) ?_
  refine v_istore hB [(0, .ref ((SM g).1.2.1 0)), (1, .int p1), (2, .int p2), (3, .int p3), (4, .int p4), (5, .int (f_X11_notLooked p1 p2 p3 p4 h))] [1, 2, 3, 4, 5, 0] dX11_lowest_9 (by decide) rfl ?_
  refine v_iload hB 5 dX11_lowest_11 rfl ?_
  refine v_if_eq (tgt := 23) hB dX11_lowest_13 rfl ?_ ?_
  · refine v_aload_n hB 0 dX11_lowest_23 rfl rfl ?_
    refine v_iload_n hB 1 dX11_lowest_24 rfl rfl ?_
    refine v_iload_n hB 2 dX11_lowest_25 rfl rfl ?_
    refine v_iload_n hB 3 dX11_lowest_26 rfl rfl ?_
    refine v_iconst hB 0 dX11_lowest_27 (by decide) ?_
    refine v_bWi (fun r28 h28 e28 => v_callV hB hK hR.rm [.int p1, .int p2, .int p3, .int 0] [] (oM_0 g) lb_X11_looks lv_X11_289 (c_X11_looks g hK.A X.1.2.1 p1 p2 p3 0 h e28) dX11_lowest_28 rfl rfl (Nat.le_of_ble_eq_true rfl) (by decide) (by decide)) (fun r28 h28 => ?_)
    refine v_pop hB dX11_lowest_31 rfl ?_
    refine v_iload hB 4 dX11_lowest_32 rfl ?_
    refine v_if_ne (tgt := 44) hB dX11_lowest_34 rfl ?_ ?_
    · refine v_aload_n hB 0 dX11_lowest_44 rfl rfl ?_
      refine v_getI hB hK (fl_X11_283 g) (cMI_0_27 g) dX11_lowest_45 ?_
      refine v_i2l hB dX11_lowest_48 ?_
      exact v_retWj (x := (rI h28 0 27).toInt64) hB hK hR dX11_lowest_49
    · refine v_aload_n hB 0 dX11_lowest_37 rfl rfl ?_
      refine v_getJ hB hK (fl_X11_279 g) (cMJ_0_28 g) dX11_lowest_38 ?_
      refine v_goto (tgt := 49) hB dX11_lowest_41 rfl ?_
      exact v_retWj (x := rJ h28 0 28) hB hK hR dX11_lowest_49
  · refine v_aload_n hB 0 dX11_lowest_16 rfl rfl ?_
    refine v_iload hB 5 dX11_lowest_17 rfl ?_
    refine v_bWj (fun r19 h19 e19 => v_callV hB hK hR.rm [.int (f_X11_notLooked p1 p2 p3 p4 h)] [] (oM_0 g) lb_X11_lower lv_X11_231 (c_X11_lower g hK.A X.1.2.1 (f_X11_notLooked p1 p2 p3 p4 h) h e19) dX11_lowest_19 rfl rfl (Nat.le_of_ble_eq_true rfl) (by decide) (by decide)) (fun r19 h19 => ?_)
    exact v_retWj (x := r19) hB hK hR dX11_lowest_22

def f_X11_divisor_l28 (w28 : Int64 → Int64 → Option Int64) (v4 : Int64) (v6 : Int64) : Option Int64 :=
  if v6 = 0 then (some v4) else (gd (v6 != 0) (w28 v6 (v4 - v4 / v6 * v6)))
def f_X11_divisor_j26 (v4 : Int64) (s0 : Int64) : Option Int64 :=
  lp (fun _ _ => none) (f_X11_divisor_l28) 1000 v4 s0
def f_X11_divisor_j12 (p2 : Int64) (s0 : Int64) : Option Int64 :=
  if 0 ≤ p2 then (f_X11_divisor_j26 s0 p2) else (f_X11_divisor_j26 s0 (-p2))
def f_X11_divisor (p0 : Int64) (p2 : Int64) : Option Int64 :=
  if 0 ≤ p0 then (f_X11_divisor_j12 p2 p0) else (f_X11_divisor_j12 p2 (-p0))
set_option maxRecDepth 100000 in
set_option maxHeartbeats 4000000 in
theorem c_X11_divisor (g : pq_g) {A : Nat → Prop} (hA : pq_A (SM g) A) (l : Launch) (p0 : Int64) (p2 : Int64) (h : pq_H) {rr : Int64} (e : f_X11_divisor p0 p2 = some rr) : pq_M (SM g) A l yX11_divisor cX11_divisor 10 (some .long) 0 0 [.long p0, .long p2] h (some (.long rr)) h := by
  refine pq_met hA l (own := RX11) 0 0 _ [(0, .long p0), (2, .long p2)] h _ h (by decide +kernel) rfl (Nat.le_of_ble_eq_true rfl) rfl (fun X hXl hXA hB hK hR => ?_)
  refine V.cast (F' := f_X11_divisor p0 p2) (res' := rr) (fun _ => e) ?_
  have hn28 : ∀ (n : Nat), ∀ (v4 : Int64) (v6 : Int64), V X (SM g) rr 10 28 [(4, .long v4), (6, .long v6)] [] h (lp (fun _ _ => none) (f_X11_divisor_l28) n v4 v6) := by
    refine lp_ind (fun (w28 : Int64 → Int64 → Option Int64) => ∀ (v4 : Int64) (v6 : Int64), V X (SM g) rr 10 28 [(4, .long v4), (6, .long v6)] [] h (w28 v4 v6)) (fun _ _ => V.none _ _ _ _) (fun w28 ih28 => ?_)
    intro v4 v6
    unfold f_X11_divisor_l28
    refine v_lload hB 1 dX11_divisor_28 rfl ?_
    refine v_lconst hB 0 dX11_divisor_30 (by decide) ?_
    refine v_lcmp_eq (tgt := 53) hB dX11_divisor_31 dX11_divisor_32 rfl ?_ ?_
    · refine v_lload hB 0 dX11_divisor_53 rfl ?_
      exact v_retRj (x := v4) hB hK hR dX11_divisor_55
    · refine v_lload hB 0 dX11_divisor_35 rfl ?_
      refine v_lload hB 1 dX11_divisor_37 rfl ?_
      refine v_lremG hB dX11_divisor_39 ?_
      refine v_lstore hB [(4, .long v4), (6, .long v6), (8, .long (v4 - v4 / v6 * v6))] [1, 2, 0] dX11_divisor_40 (by decide) rfl ?_
      refine v_lload hB 1 dX11_divisor_42 rfl ?_
      refine v_lstore hB [(4, .long v6), (6, .long v6), (8, .long (v4 - v4 / v6 * v6))] [0, 1, 2] dX11_divisor_44 (by decide) rfl ?_
      refine v_lload hB 2 dX11_divisor_46 rfl ?_
      refine v_lstore hB [(4, .long v6), (6, .long (v4 - v4 / v6 * v6)), (8, .long (v4 - v4 / v6 * v6))] [1, 0, 2] dX11_divisor_48 (by decide) rfl ?_
      refine v_goto (tgt := 28) hB dX11_divisor_50 rfl ?_
      exact V.sub [0, 1] rfl (ih28 v6 (v4 - v4 / v6 * v6))
  have hn26 : ∀ (v4 : Int64) (s0 : Int64), V X (SM g) rr 10 26 [(4, .long v4)] [.long s0] h (f_X11_divisor_j26 v4 s0) := by
    intro v4 s0
    unfold f_X11_divisor_j26
    refine v_lstore hB [(4, .long v4), (6, .long s0)] [1, 0] dX11_divisor_26 (by decide) rfl ?_
    exact V.sub [0, 1] rfl (hn28 1000 v4 s0)
  have hn12 : ∀ (s0 : Int64), V X (SM g) rr 10 12 [(2, .long p2)] [.long s0] h (f_X11_divisor_j12 p2 s0) := by
    intro s0
    unfold f_X11_divisor_j12
    refine v_lstore hB [(2, .long p2), (4, .long s0)] [1, 0] dX11_divisor_12 (by decide) rfl ?_
    refine v_lload_n hB 0 dX11_divisor_14 rfl rfl ?_
    refine v_lconst hB 0 dX11_divisor_15 (by decide) ?_
    refine v_lcmp_ge (tgt := 25) hB dX11_divisor_16 dX11_divisor_17 rfl ?_ ?_
    · refine v_lload_n hB 0 dX11_divisor_25 rfl rfl ?_
      exact V.sub [1] rfl (hn26 s0 p2)
    · refine v_lload_n hB 0 dX11_divisor_20 rfl rfl ?_
      refine v_lneg hB dX11_divisor_21 ?_
      refine v_goto (tgt := 26) hB dX11_divisor_22 rfl ?_
      exact V.sub [1] rfl (hn26 s0 (-p2))
  unfold f_X11_divisor
  refine v_lload_n hB 0 dX11_divisor_0 rfl rfl ?_
  refine v_lconst hB 0 dX11_divisor_1 (by decide) ?_
  refine v_lcmp_ge (tgt := 11) hB dX11_divisor_2 dX11_divisor_3 rfl ?_ ?_
  · refine v_lload_n hB 0 dX11_divisor_11 rfl rfl ?_
    exact V.sub [1] rfl (hn12 p0)
  · refine v_lload_n hB 0 dX11_divisor_6 rfl rfl ?_
    refine v_lneg hB dX11_divisor_7 ?_
    refine v_goto (tgt := 12) hB dX11_divisor_8 rfl ?_
    exact V.sub [1] rfl (hn12 (-p0))

def f_X11_partOf_j32 (v5 : Int64) (s0 : Int64) : Option Int64 :=
  gd (v5 != 0) (some (s0 / v5))
def f_X11_partOf_j20 (p0 : Int64) (p2 : Int64) (p4 : Int32) (s0 : Int64) : Option Int64 :=
  if p4 = 0 then (f_X11_partOf_j32 s0 p0) else (f_X11_partOf_j32 s0 p2)
def f_X11_partOf (p0 : Int64) (p2 : Int64) (p4 : Int32) : Option Int64 :=
  if 0 ≤ p2 then ((f_X11_divisor p0 p2).bind fun r17 => f_X11_partOf_j20 p0 p2 p4 r17) else ((f_X11_divisor p0 p2).bind fun r8 => f_X11_partOf_j20 p0 p2 p4 (-r8))
set_option maxRecDepth 100000 in
set_option maxHeartbeats 4000000 in
theorem c_X11_partOf (g : pq_g) {A : Nat → Prop} (hA : pq_A (SM g) A) (l : Launch) (p0 : Int64) (p2 : Int64) (p4 : Int32) (h : pq_H) {rr : Int64} (e : f_X11_partOf p0 p2 p4 = some rr) : pq_M (SM g) A l yX11_partOf cX11_partOf 7 (some .long) 1 29 [.long p0, .long p2, .int p4] h (some (.long rr)) h := by
  refine pq_met hA l (own := RX11) 1 29 _ [(0, .long p0), (2, .long p2), (4, .int p4)] h _ h (by decide +kernel) rfl (Nat.le_of_ble_eq_true rfl) rfl (fun X hXl hXA hB hK hR => ?_)
  refine V.cast (F' := f_X11_partOf p0 p2 p4) (res' := rr) (fun _ => e) ?_
  have hn32 : ∀ (v5 : Int64) (s0 : Int64), V X (SM g) rr 7 32 [(5, .long v5)] [.long s0] h (f_X11_partOf_j32 v5 s0) := by
    intro v5 s0
    unfold f_X11_partOf_j32
    refine v_lload hB 0 dX11_partOf_32 rfl ?_
    refine v_ldivG hB dX11_partOf_34 ?_
    exact v_retRj (x := s0 / v5) hB hK hR dX11_partOf_35
  have hn20 : ∀ (s0 : Int64), V X (SM g) rr 7 20 [(0, .long p0), (2, .long p2), (4, .int p4)] [.long s0] h (f_X11_partOf_j20 p0 p2 p4 s0) := by
    intro s0
    unfold f_X11_partOf_j20
    refine v_lstore hB [(0, .long p0), (2, .long p2), (4, .int p4), (5, .long s0)] [1, 2, 3, 0] dX11_partOf_20 (by decide) rfl ?_
    refine v_iload hB 2 dX11_partOf_22 rfl ?_
    refine v_if_ne (tgt := 31) hB dX11_partOf_24 rfl ?_ ?_
    · refine v_lload_n hB 1 dX11_partOf_31 rfl rfl ?_
      exact V.sub [3] rfl (hn32 s0 p2)
    · refine v_lload_n hB 0 dX11_partOf_27 rfl rfl ?_
      refine v_goto (tgt := 32) hB dX11_partOf_28 rfl ?_
      exact V.sub [3] rfl (hn32 s0 p0)
  unfold f_X11_partOf
  refine v_lload_n hB 1 dX11_partOf_0 rfl rfl ?_
  refine v_lconst hB 0 dX11_partOf_1 (by decide) ?_
  refine v_lcmp_ge (tgt := 15) hB dX11_partOf_2 dX11_partOf_3 rfl ?_ ?_
  · refine v_lload_n hB 0 dX11_partOf_15 rfl rfl ?_
    refine v_lload_n hB 1 dX11_partOf_16 rfl rfl ?_
    refine v_bRj (fun r17 e17 => v_callS hB hK hR.rm [.long p0, .long p2] [] lb_X11_divisor lv_X11_299 (c_X11_divisor g hK.A X.1.2.1 p0 p2 h e17) dX11_partOf_17 rfl rfl (Nat.le_of_ble_eq_true rfl) (by decide) (by decide)) (fun r17 => ?_)
    exact V.sub [0, 1, 2] rfl (hn20 r17)
  · refine v_lload_n hB 0 dX11_partOf_6 rfl rfl ?_
    refine v_lload_n hB 1 dX11_partOf_7 rfl rfl ?_
    refine v_bRj (fun r8 e8 => v_callS hB hK hR.rm [.long p0, .long p2] [] lb_X11_divisor lv_X11_299 (c_X11_divisor g hK.A X.1.2.1 p0 p2 h e8) dX11_partOf_8 rfl rfl (Nat.le_of_ble_eq_true rfl) (by decide) (by decide)) (fun r8 => ?_)
    refine v_lneg hB dX11_partOf_11 ?_
    refine v_goto (tgt := 20) hB dX11_partOf_12 rfl ?_
    exact V.sub [0, 1, 2] rfl (hn20 (-r8))

def f_X11_share (p1 : Int32) (p2 : Int32) (p3 : Int32) (p4 : Int32) (h : pq_H) : Option (Int64 × pq_H) :=
  if (f_X11_notLooked p1 p2 p3 p4 h) = 0 then (bd2 (f_X11_looks p1 p2 p3 0 h) fun r28 h28 => (f_X11_partOf ((rI h28 0 26).toInt64) ((rI h28 0 25).toInt64) p4).bind fun r44 => some (r44, h28)) else (bd2 (f_X11_lower (f_X11_notLooked p1 p2 p3 p4 h) h) fun r19 h19 => some (r19, h19))
set_option maxRecDepth 100000 in
set_option maxHeartbeats 4000000 in
theorem c_X11_share (g : pq_g) {A : Nat → Prop} (hA : pq_A (SM g) A) (l : Launch) (p1 : Int32) (p2 : Int32) (p3 : Int32) (p4 : Int32) (h : pq_H) {rr : Int64} {hh : pq_H} (e : f_X11_share p1 p2 p3 p4 h = some (rr, hh)) : pq_M (SM g) A l yX11_share cX11_share 6 (some .long) 5 126 [.ref ((SM g).1.2.1 0), .int p1, .int p2, .int p3, .int p4] h (some (.long rr)) hh := by
  refine pq_met hA l (own := RX11) 5 126 _ [(0, .ref ((SM g).1.2.1 0)), (1, .int p1), (2, .int p2), (3, .int p3), (4, .int p4)] h _ hh (by decide +kernel) rfl (Nat.le_of_ble_eq_true rfl) rfl (fun X hXl hXA hB hK hR => ?_)
  refine V.cast (F' := f_X11_share p1 p2 p3 p4 h) (res' := (rr, hh)) (fun _ => e) ?_
  unfold f_X11_share
  refine v_aload_n hB 0 dX11_share_0 rfl rfl ?_
  refine v_iload_n hB 1 dX11_share_1 rfl rfl ?_
  refine v_iload_n hB 2 dX11_share_2 rfl rfl ?_
  refine v_iload_n hB 3 dX11_share_3 rfl rfl ?_
  refine v_iload hB 4 dX11_share_4 rfl ?_
  refine v_bT (v_callV hB hK hR.rm [.int p1, .int p2, .int p3, .int p4] [] (oM_0 g) lb_X11_notLooked lv_X11_296 (c_X11_notLooked g hK.A X.1.2.1 p1 p2 p3 p4 h) dX11_share_6 rfl rfl (Nat.le_of_ble_eq_true rfl) (by decide) (by decide)) ?_
  refine v_istore hB [(0, .ref ((SM g).1.2.1 0)), (1, .int p1), (2, .int p2), (3, .int p3), (4, .int p4), (5, .int (f_X11_notLooked p1 p2 p3 p4 h))] [1, 2, 3, 4, 5, 0] dX11_share_9 (by decide) rfl ?_
  refine v_iload hB 5 dX11_share_11 rfl ?_
  refine v_if_eq (tgt := 23) hB dX11_share_13 rfl ?_ ?_
  · refine v_aload_n hB 0 dX11_share_23 rfl rfl ?_
    refine v_iload_n hB 1 dX11_share_24 rfl rfl ?_
    refine v_iload_n hB 2 dX11_share_25 rfl rfl ?_
    refine v_iload_n hB 3 dX11_share_26 rfl rfl ?_
    refine v_iconst hB 0 dX11_share_27 (by decide) ?_
    refine v_bWi (fun r28 h28 e28 => v_callV hB hK hR.rm [.int p1, .int p2, .int p3, .int 0] [] (oM_0 g) lb_X11_looks lv_X11_289 (c_X11_looks g hK.A X.1.2.1 p1 p2 p3 0 h e28) dX11_share_28 rfl rfl (Nat.le_of_ble_eq_true rfl) (by decide) (by decide)) (fun r28 h28 => ?_)
    refine v_pop hB dX11_share_31 rfl ?_
    refine v_aload_n hB 0 dX11_share_32 rfl rfl ?_
    refine v_getI hB hK (fl_X11_270 g) (cMI_0_26 g) dX11_share_33 ?_
    refine v_i2l hB dX11_share_36 ?_
    refine v_aload_n hB 0 dX11_share_37 rfl rfl ?_
    refine v_getI hB hK (fl_X11_267 g) (cMI_0_25 g) dX11_share_38 ?_
    refine v_i2l hB dX11_share_41 ?_
    refine v_iload hB 4 dX11_share_42 rfl ?_
    refine v_bRj (fun r44 e44 => v_callS hB hK hR.rm [.long ((rI h28 0 26).toInt64), .long ((rI h28 0 25).toInt64), .int p4] [] lb_X11_partOf lv_X11_303 (c_X11_partOf g hK.A X.1.2.1 ((rI h28 0 26).toInt64) ((rI h28 0 25).toInt64) p4 h28 e44) dX11_share_44 rfl rfl (Nat.le_of_ble_eq_true rfl) (by decide) (by decide)) (fun r44 => ?_)
    exact v_retWj (x := r44) hB hK hR dX11_share_47
  · refine v_aload_n hB 0 dX11_share_16 rfl rfl ?_
    refine v_iload hB 5 dX11_share_17 rfl ?_
    refine v_bWj (fun r19 h19 e19 => v_callV hB hK hR.rm [.int (f_X11_notLooked p1 p2 p3 p4 h)] [] (oM_0 g) lb_X11_lower lv_X11_231 (c_X11_lower g hK.A X.1.2.1 (f_X11_notLooked p1 p2 p3 p4 h) h e19) dX11_share_19 rfl rfl (Nat.le_of_ble_eq_true rfl) (by decide) (by decide)) (fun r19 h19 => ?_)
    exact v_retWj (x := r19) hB hK hR dX11_share_22

def f_X11_proof (p1 : Int32) (p2 : Int32) (h : pq_H) : Option (Int32 × pq_H) :=
  if (f_X11_notSide p1 p2 h) = 0 then (bd2 (f_X11_leastOf p1 p2 1 h) fun r19 h19 => if r19 < 0 then (bd2 (f_X11_leastOf p1 p2 0 h19) fun r31 h31 => if r31 < 0 then (bd2 (f_X11_failsAt p1 p2 0 0 h31) fun r44 h44 => if r44 < 0 then (some (3, h44)) else (some (2, h44))) else (some (1, h31))) else (some (0, h19))) else (bd2 (f_X11_no (-1) h) fun r11 h11 => some (r11, h11))
set_option maxRecDepth 100000 in
set_option maxHeartbeats 4000000 in
theorem c_X11_proof (g : pq_g) {A : Nat → Prop} (hA : pq_A (SM g) A) (l : Launch) (p1 : Int32) (p2 : Int32) (h : pq_H) {rr : Int32} {hh : pq_H} (e : f_X11_proof p1 p2 h = some (rr, hh)) : pq_M (SM g) A l yX11_proof cX11_proof 3 (some .int) 6 152 [.ref ((SM g).1.2.1 0), .int p1, .int p2] h (some (.int rr)) hh := by
  refine pq_met hA l (own := RX11) 6 152 _ [(0, .ref ((SM g).1.2.1 0)), (1, .int p1), (2, .int p2)] h _ hh (by decide +kernel) rfl (Nat.le_of_ble_eq_true rfl) rfl (fun X hXl hXA hB hK hR => ?_)
  refine V.cast (F' := f_X11_proof p1 p2 h) (res' := (rr, hh)) (fun _ => e) ?_
  unfold f_X11_proof
  refine v_aload_n hB 0 dX11_proof_0 rfl rfl ?_
  refine v_iload_n hB 1 dX11_proof_1 rfl rfl ?_
  refine v_iload_n hB 2 dX11_proof_2 rfl rfl ?_
  refine v_bT (v_callV hB hK hR.rm [.int p1, .int p2] [] (oM_0 g) lb_X11_notSide lv_X11_246 (c_X11_notSide g hK.A X.1.2.1 p1 p2 h) dX11_proof_3 rfl rfl (Nat.le_of_ble_eq_true rfl) (by decide) (by decide)) ?_
  refine v_if_eq (tgt := 15) hB dX11_proof_6 rfl ?_ ?_
  · refine v_aload_n hB 0 dX11_proof_15 rfl rfl ?_
    refine v_iload_n hB 1 dX11_proof_16 rfl rfl ?_
    refine v_iload_n hB 2 dX11_proof_17 rfl rfl ?_
    refine v_iconst hB 1 dX11_proof_18 (by decide) ?_
    refine v_bWi (fun r19 h19 e19 => v_callV hB hK hR.rm [.int p1, .int p2, .int 1] [] (oM_0 g) lb_X11_leastOf lv_X11_255 (c_X11_leastOf g hK.A X.1.2.1 p1 p2 1 h e19) dX11_proof_19 rfl rfl (Nat.le_of_ble_eq_true rfl) (by decide) (by decide)) (fun r19 h19 => ?_)
    refine v_if_lt (tgt := 27) hB dX11_proof_22 rfl ?_ ?_
    · refine v_aload_n hB 0 dX11_proof_27 rfl rfl ?_
      refine v_iload_n hB 1 dX11_proof_28 rfl rfl ?_
      refine v_iload_n hB 2 dX11_proof_29 rfl rfl ?_
      refine v_iconst hB 0 dX11_proof_30 (by decide) ?_
      refine v_bWi (fun r31 h31 e31 => v_callV hB hK hR.rm [.int p1, .int p2, .int 0] [] (oM_0 g) lb_X11_leastOf lv_X11_255 (c_X11_leastOf g hK.A X.1.2.1 p1 p2 0 h19 e31) dX11_proof_31 rfl rfl (Nat.le_of_ble_eq_true rfl) (by decide) (by decide)) (fun r31 h31 => ?_)
      refine v_if_lt (tgt := 39) hB dX11_proof_34 rfl ?_ ?_
      · refine v_aload_n hB 0 dX11_proof_39 rfl rfl ?_
        refine v_iload_n hB 1 dX11_proof_40 rfl rfl ?_
        refine v_iload_n hB 2 dX11_proof_41 rfl rfl ?_
        refine v_iconst hB 0 dX11_proof_42 (by decide) ?_
        refine v_iconst hB 0 dX11_proof_43 (by decide) ?_
        refine v_bWi (fun r44 h44 e44 => v_callV hB hK hR.rm [.int p1, .int p2, .int 0, .int 0] [] (oM_0 g) lb_X11_failsAt lv_X11_293 (c_X11_failsAt g hK.A X.1.2.1 p1 p2 0 0 h31 e44) dX11_proof_44 rfl rfl (Nat.le_of_ble_eq_true rfl) (by decide) (by decide)) (fun r44 h44 => ?_)
        refine v_if_lt (tgt := 54) hB dX11_proof_47 rfl ?_ ?_
        · refine v_iconst hB 3 dX11_proof_54 (by decide) ?_
          exact v_retWi (x := 3) hB hK hR dX11_proof_55
        · refine v_iconst hB 2 dX11_proof_50 (by decide) ?_
          refine v_goto (tgt := 55) hB dX11_proof_51 rfl ?_
          exact v_retWi (x := 2) hB hK hR dX11_proof_55
      · refine v_iconst hB 1 dX11_proof_37 (by decide) ?_
        exact v_retWi (x := 1) hB hK hR dX11_proof_38
    · refine v_iconst hB 0 dX11_proof_25 (by decide) ?_
      exact v_retWi (x := 0) hB hK hR dX11_proof_26
  · refine v_aload_n hB 0 dX11_proof_9 rfl rfl ?_
    refine v_iconst hB (-1) dX11_proof_10 (by decide) ?_
    refine v_bWi (fun r11 h11 e11 => v_callV hB hK hR.rm [.int (-1)] [] (oM_0 g) lb_X11_no lv_X11_8 (c_X11_no g hK.A X.1.2.1 (-1) h e11) dX11_proof_11 rfl rfl (Nat.le_of_ble_eq_true rfl) (by decide) (by decide)) (fun r11 h11 => ?_)
    exact v_retWi (x := r11) hB hK hR dX11_proof_14

def f_X11_ways_l5 (p0 : Int32) (p1 : Int32) (w5 : Int64 → Int32 → Option Int64) (v2 : Int64) (v4 : Int32) : Option Int64 :=
  if p1 ≤ v4 then (some v2) else (gd (((v4 + 1).toInt64) != 0) (w5 ((v2 * ((p0 - v4).toInt64)) / ((v4 + 1).toInt64)) (v4 + 1)))
def f_X11_ways (p0 : Int32) (p1 : Int32) : Option Int64 :=
  lp (fun _ _ => none) (f_X11_ways_l5 p0 p1) 1000 1 0
set_option maxRecDepth 100000 in
set_option maxHeartbeats 4000000 in
theorem c_X11_ways (g : pq_g) {A : Nat → Prop} (hA : pq_A (SM g) A) (l : Launch) (p0 : Int32) (p1 : Int32) (h : pq_H) {rr : Int64} (e : f_X11_ways p0 p1 = some rr) : pq_M (SM g) A l yX11_ways cX11_ways 5 (some .long) 0 0 [.int p0, .int p1] h (some (.long rr)) h := by
  refine pq_met hA l (own := RX11) 0 0 _ [(0, .int p0), (1, .int p1)] h _ h (by decide +kernel) rfl (Nat.le_of_ble_eq_true rfl) rfl (fun X hXl hXA hB hK hR => ?_)
  refine V.cast (F' := f_X11_ways p0 p1) (res' := rr) (fun _ => e) ?_
  have hn5 : ∀ (n : Nat), ∀ (v2 : Int64) (v4 : Int32), V X (SM g) rr 5 5 [(0, .int p0), (1, .int p1), (2, .long v2), (4, .int v4)] [] h (lp (fun _ _ => none) (f_X11_ways_l5 p0 p1) n v2 v4) := by
    refine lp_ind (fun (w5 : Int64 → Int32 → Option Int64) => ∀ (v2 : Int64) (v4 : Int32), V X (SM g) rr 5 5 [(0, .int p0), (1, .int p1), (2, .long v2), (4, .int v4)] [] h (w5 v2 v4)) (fun _ _ => V.none _ _ _ _) (fun w5 ih5 => ?_)
    intro v2 v4
    unfold f_X11_ways_l5
    refine v_iload hB 3 dX11_ways_5 rfl ?_
    refine v_iload_n hB 1 dX11_ways_7 rfl rfl ?_
    refine v_icmp_ge (tgt := 31) hB dX11_ways_8 rfl ?_ ?_
    · refine v_lload_n hB 2 dX11_ways_31 rfl rfl ?_
      exact v_retRj (x := v2) hB hK hR dX11_ways_32
    · refine v_lload_n hB 2 dX11_ways_11 rfl rfl ?_
      refine v_iload_n hB 0 dX11_ways_12 rfl rfl ?_
      refine v_iload hB 3 dX11_ways_13 rfl ?_
      refine v_isub hB dX11_ways_15 ?_
      refine v_i2l hB dX11_ways_16 ?_
      refine v_lmul hB dX11_ways_17 ?_
      refine v_iload hB 3 dX11_ways_18 rfl ?_
      refine v_iconst hB 1 dX11_ways_20 (by decide) ?_
      refine v_iadd hB dX11_ways_21 ?_
      refine v_i2l hB dX11_ways_22 ?_
      refine v_ldivG hB dX11_ways_23 ?_
      refine v_lstore_n hB [(0, .int p0), (1, .int p1), (2, .long ((v2 * ((p0 - v4).toInt64)) / ((v4 + 1).toInt64))), (4, .int v4)] [1, 2, 0, 3] dX11_ways_24 rfl (by decide) rfl ?_
      refine v_iinc hB (v4 + 1) [(0, .int p0), (1, .int p1), (2, .long ((v2 * ((p0 - v4).toInt64)) / ((v4 + 1).toInt64))), (4, .int (v4 + 1))] 3 [1, 2, 3, 0] dX11_ways_25 rfl rfl (by decide) rfl ?_
      refine v_goto (tgt := 5) hB dX11_ways_28 rfl ?_
      exact V.sub [0, 1, 2, 3] rfl (ih5 ((v2 * ((p0 - v4).toInt64)) / ((v4 + 1).toInt64)) (v4 + 1))
  unfold f_X11_ways
  refine v_lconst hB 1 dX11_ways_0 (by decide) ?_
  refine v_lstore_n hB [(0, .int p0), (1, .int p1), (2, .long 1)] [1, 2, 0] dX11_ways_1 rfl (by decide) rfl ?_
  refine v_iconst hB 0 dX11_ways_2 (by decide) ?_
  refine v_istore hB [(0, .int p0), (1, .int p1), (2, .long 1), (4, .int 0)] [1, 2, 3, 0] dX11_ways_3 (by decide) rfl ?_
  exact V.sub [0, 1, 2, 3] rfl (hn5 1000 1 0)

def f_X11_wallOf_l6 (p1 : Int32) (p2 : Int32) (p3 : Int32) (h : pq_H) (w6 : Int64 → Int32 → Option Int64) (v4 : Int64) (v6 : Int32) : Option Int64 :=
  gd (inb p1 3) (if (rI h 20 p1.toNatClampNeg) ≤ v6 then (some v4) else (if p3 < v6 then (some v4) else (gd (inb ((40 * p1) + v6) 120) ((f_X11_ways (p2 - v6) (p3 - v6)).bind fun r46 => w6 (v4 + (((rI h 21 ((40 * p1) + v6).toNatClampNeg).toInt64) * r46)) (v6 + 1)))))
def f_X11_wallOf (p1 : Int32) (p2 : Int32) (p3 : Int32) (h : pq_H) : Option Int64 :=
  lp (fun _ _ => none) (f_X11_wallOf_l6 p1 p2 p3 h) 1000 0 0
set_option maxRecDepth 100000 in
set_option maxHeartbeats 4000000 in
theorem c_X11_wallOf (g : pq_g) {A : Nat → Prop} (hA : pq_A (SM g) A) (l : Launch) (p1 : Int32) (p2 : Int32) (p3 : Int32) (h : pq_H) {rr : Int64} (e : f_X11_wallOf p1 p2 p3 h = some rr) : pq_M (SM g) A l yX11_wallOf cX11_wallOf 7 (some .long) 1 24 [.ref ((SM g).1.2.1 0), .int p1, .int p2, .int p3] h (some (.long rr)) h := by
  refine pq_met hA l (own := RX11) 1 24 _ [(0, .ref ((SM g).1.2.1 0)), (1, .int p1), (2, .int p2), (3, .int p3)] h _ h (by decide +kernel) rfl (Nat.le_of_ble_eq_true rfl) rfl (fun X hXl hXA hB hK hR => ?_)
  refine V.cast (F' := f_X11_wallOf p1 p2 p3 h) (res' := rr) (fun _ => e) ?_
  have hn6 : ∀ (n : Nat), ∀ (v4 : Int64) (v6 : Int32), V X (SM g) rr 7 6 [(0, .ref ((SM g).1.2.1 0)), (1, .int p1), (2, .int p2), (3, .int p3), (4, .long v4), (6, .int v6)] [] h (lp (fun _ _ => none) (f_X11_wallOf_l6 p1 p2 p3 h) n v4 v6) := by
    refine lp_ind (fun (w6 : Int64 → Int32 → Option Int64) => ∀ (v4 : Int64) (v6 : Int32), V X (SM g) rr 7 6 [(0, .ref ((SM g).1.2.1 0)), (1, .int p1), (2, .int p2), (3, .int p3), (4, .long v4), (6, .int v6)] [] h (w6 v4 v6)) (fun _ _ => V.none _ _ _ _) (fun w6 ih6 => ?_)
    intro v4 v6
    unfold f_X11_wallOf_l6
    refine v_iload hB 5 dX11_wallOf_6 rfl ?_
    refine v_aload_n hB 0 dX11_wallOf_8 rfl rfl ?_
    refine v_getA hB hK (fl_X11_82 g) (cMA_0_38 g) dX11_wallOf_9 ?_
    refine v_iload_n hB 1 dX11_wallOf_12 rfl rfl ?_
    refine v_iald hB hK (aMI_20 g) dX11_wallOf_13 ?_
    refine v_icmp_ge (tgt := 59) hB dX11_wallOf_14 rfl ?_ ?_
    · refine v_lload hB 4 dX11_wallOf_59 rfl ?_
      exact v_retRj (x := v4) hB hK hR dX11_wallOf_61
    · refine v_iload hB 5 dX11_wallOf_17 rfl ?_
      refine v_iload_n hB 3 dX11_wallOf_19 rfl rfl ?_
      refine v_icmp_gt (tgt := 59) hB dX11_wallOf_20 rfl ?_ ?_
      · refine v_lload hB 4 dX11_wallOf_59 rfl ?_
        exact v_retRj (x := v4) hB hK hR dX11_wallOf_61
      · refine v_lload hB 4 dX11_wallOf_23 rfl ?_
        refine v_aload_n hB 0 dX11_wallOf_25 rfl rfl ?_
        refine v_getA hB hK (fl_X11_85 g) (cMA_0_39 g) dX11_wallOf_26 ?_
        refine v_bipush hB 40 dX11_wallOf_29 (by decide) ?_
        refine v_iload_n hB 1 dX11_wallOf_31 rfl rfl ?_
        refine v_imul hB dX11_wallOf_32 ?_
        refine v_iload hB 5 dX11_wallOf_33 rfl ?_
        refine v_iadd hB dX11_wallOf_35 ?_
        refine v_iald hB hK (aMI_21 g) dX11_wallOf_36 ?_
        refine v_i2l hB dX11_wallOf_37 ?_
        refine v_iload_n hB 2 dX11_wallOf_38 rfl rfl ?_
        refine v_iload hB 5 dX11_wallOf_39 rfl ?_
        refine v_isub hB dX11_wallOf_41 ?_
        refine v_iload_n hB 3 dX11_wallOf_42 rfl rfl ?_
        refine v_iload hB 5 dX11_wallOf_43 rfl ?_
        refine v_isub hB dX11_wallOf_45 ?_
        refine v_bRj (fun r46 e46 => v_callS hB hK hR.rm [.int (p2 - v6), .int (p3 - v6)] [.long ((rI h 21 ((40 * p1) + v6).toNatClampNeg).toInt64), .long v4] lb_X11_ways lv_X11_307 (c_X11_ways g hK.A X.1.2.1 (p2 - v6) (p3 - v6) h e46) dX11_wallOf_46 rfl rfl (Nat.le_of_ble_eq_true rfl) (by decide) (by decide)) (fun r46 => ?_)
        refine v_lmul hB dX11_wallOf_49 ?_
        refine v_ladd hB dX11_wallOf_50 ?_
        refine v_lstore hB [(0, .ref ((SM g).1.2.1 0)), (1, .int p1), (2, .int p2), (3, .int p3), (4, .long (v4 + (((rI h 21 ((40 * p1) + v6).toNatClampNeg).toInt64) * r46))), (6, .int v6)] [1, 2, 3, 4, 0, 5] dX11_wallOf_51 (by decide) rfl ?_
        refine v_iinc hB (v6 + 1) [(0, .ref ((SM g).1.2.1 0)), (1, .int p1), (2, .int p2), (3, .int p3), (4, .long (v4 + (((rI h 21 ((40 * p1) + v6).toNatClampNeg).toInt64) * r46))), (6, .int (v6 + 1))] 5 [1, 2, 3, 4, 5, 0] dX11_wallOf_53 rfl rfl (by decide) rfl ?_
        refine v_goto (tgt := 6) hB dX11_wallOf_56 rfl ?_
        exact V.sub [0, 1, 2, 3, 4, 5] rfl (ih6 (v4 + (((rI h 21 ((40 * p1) + v6).toNatClampNeg).toInt64) * r46)) (v6 + 1))
  unfold f_X11_wallOf
  refine v_lconst hB 0 dX11_wallOf_0 (by decide) ?_
  refine v_lstore hB [(0, .ref ((SM g).1.2.1 0)), (1, .int p1), (2, .int p2), (3, .int p3), (4, .long 0)] [1, 2, 3, 4, 0] dX11_wallOf_1 (by decide) rfl ?_
  refine v_iconst hB 0 dX11_wallOf_3 (by decide) ?_
  refine v_istore hB [(0, .ref ((SM g).1.2.1 0)), (1, .int p1), (2, .int p2), (3, .int p3), (4, .long 0), (6, .int 0)] [1, 2, 3, 4, 5, 0] dX11_wallOf_4 (by decide) rfl ?_
  exact V.sub [0, 1, 2, 3, 4, 5] rfl (hn6 1000 0 0)

def f_X11_isTold_l19 (p1 : Int32) (h : pq_H) (w19 : Bool → Int32 → Option Bool) (v2 : Bool) (v3 : Int32) : Option Bool :=
  if v2 = true then (gd (inb p1 3) (if (rI h 20 p1.toNatClampNeg) ≤ v3 then (some v2) else (gd (inb ((40 * p1) + v3) 120) (w19 (f_X11_isIn (rI h 21 ((40 * p1) + v3).toNatClampNeg) (-1000000) 1000000) (v3 + 1))))) else (some v2)
def f_X11_isTold_j16 (p1 : Int32) (h : pq_H) (s0 : Bool) : Option Bool :=
  lp (fun _ _ => none) (f_X11_isTold_l19 p1 h) 1000 s0 0
def f_X11_isTold (p1 : Int32) (h : pq_H) : Option Bool :=
  gd (inb p1 3) (if 9 < (rI h 20 p1.toNatClampNeg) then (f_X11_isTold_j16 p1 h false) else (f_X11_isTold_j16 p1 h true))
set_option maxRecDepth 100000 in
set_option maxHeartbeats 4000000 in
theorem c_X11_isTold (g : pq_g) {A : Nat → Prop} (hA : pq_A (SM g) A) (l : Launch) (p1 : Int32) (h : pq_H) {rr : Bool} (e : f_X11_isTold p1 h = some rr) : pq_M (SM g) A l yX11_isTold cX11_isTold 4 (some .boolean) 1 22 [.ref ((SM g).1.2.1 0), .int p1] h (some (.int (b2i rr))) h := by
  refine pq_met hA l (own := RX11) 1 22 _ [(0, .ref ((SM g).1.2.1 0)), (1, .int p1)] h _ h (by decide +kernel) rfl (Nat.le_of_ble_eq_true rfl) rfl (fun X hXl hXA hB hK hR => ?_)
  refine V.cast (F' := f_X11_isTold p1 h) (res' := rr) (fun _ => e) ?_
  have hn19 : ∀ (n : Nat), ∀ (v2 : Bool) (v3 : Int32), V X (SM g) rr 4 19 [(0, .ref ((SM g).1.2.1 0)), (1, .int p1), (2, .int (b2i v2)), (3, .int v3)] [] h (lp (fun _ _ => none) (f_X11_isTold_l19 p1 h) n v2 v3) := by
    refine lp_ind (fun (w19 : Bool → Int32 → Option Bool) => ∀ (v2 : Bool) (v3 : Int32), V X (SM g) rr 4 19 [(0, .ref ((SM g).1.2.1 0)), (1, .int p1), (2, .int (b2i v2)), (3, .int v3)] [] h (w19 v2 v3)) (fun _ _ => V.none _ _ _ _) (fun w19 ih19 => ?_)
    intro v2 v3
    unfold f_X11_isTold_l19
    refine v_iload_n hB 2 dX11_isTold_19 rfl rfl ?_
    refine v_ifz_eq (r := v2) (tgt := 58) hB dX11_isTold_20 rfl ?_ ?_
    · refine v_iload_n hB 2 dX11_isTold_58 rfl rfl ?_
      exact v_retRz (x := v2) hB hK hR dX11_isTold_59
    · refine v_iload_n hB 3 dX11_isTold_23 rfl rfl ?_
      refine v_aload_n hB 0 dX11_isTold_24 rfl rfl ?_
      refine v_getA hB hK (fl_X11_82 g) (cMA_0_38 g) dX11_isTold_25 ?_
      refine v_iload_n hB 1 dX11_isTold_28 rfl rfl ?_
      refine v_iald hB hK (aMI_20 g) dX11_isTold_29 ?_
      refine v_icmp_ge (tgt := 58) hB dX11_isTold_30 rfl ?_ ?_
      · refine v_iload_n hB 2 dX11_isTold_58 rfl rfl ?_
        exact v_retRz (x := v2) hB hK hR dX11_isTold_59
      · refine v_aload_n hB 0 dX11_isTold_33 rfl rfl ?_
        refine v_getA hB hK (fl_X11_85 g) (cMA_0_39 g) dX11_isTold_34 ?_
        refine v_bipush hB 40 dX11_isTold_37 (by decide) ?_
        refine v_iload_n hB 1 dX11_isTold_39 rfl rfl ?_
        refine v_imul hB dX11_isTold_40 ?_
        refine v_iload_n hB 3 dX11_isTold_41 rfl rfl ?_
        refine v_iadd hB dX11_isTold_42 ?_
        refine v_iald hB hK (aMI_21 g) dX11_isTold_43 ?_
        refine v_ldc hB (-1000000) k_X11_215 dX11_isTold_44 ?_
        refine v_ldc hB 1000000 k_X11_216 dX11_isTold_46 ?_
        refine v_bT (v_callS hB hK hR.rm [.int (rI h 21 ((40 * p1) + v3).toNatClampNeg), .int (-1000000), .int 1000000] [] lb_X11_isIn lv_X11_98 (c_X11_isIn g hK.A X.1.2.1 (rI h 21 ((40 * p1) + v3).toNatClampNeg) (-1000000) 1000000 h) dX11_isTold_48 rfl rfl (Nat.le_of_ble_eq_true rfl) (by decide) (by decide)) ?_
        refine v_istore_n hB [(0, .ref ((SM g).1.2.1 0)), (1, .int p1), (2, .int (b2i (f_X11_isIn (rI h 21 ((40 * p1) + v3).toNatClampNeg) (-1000000) 1000000))), (3, .int v3)] [1, 2, 0, 3] dX11_isTold_51 rfl (by decide) rfl ?_
        refine v_iinc hB (v3 + 1) [(0, .ref ((SM g).1.2.1 0)), (1, .int p1), (2, .int (b2i (f_X11_isIn (rI h 21 ((40 * p1) + v3).toNatClampNeg) (-1000000) 1000000))), (3, .int (v3 + 1))] 3 [1, 2, 3, 0] dX11_isTold_52 rfl rfl (by decide) rfl ?_
        refine v_goto (tgt := 19) hB dX11_isTold_55 rfl ?_
        exact V.sub [0, 1, 2, 3] rfl (ih19 (f_X11_isIn (rI h 21 ((40 * p1) + v3).toNatClampNeg) (-1000000) 1000000) (v3 + 1))
  have hn16 : ∀ (s0 : Bool), V X (SM g) rr 4 16 [(0, .ref ((SM g).1.2.1 0)), (1, .int p1)] [.int (b2i s0)] h (f_X11_isTold_j16 p1 h s0) := by
    intro s0
    unfold f_X11_isTold_j16
    refine v_istore_n hB [(0, .ref ((SM g).1.2.1 0)), (1, .int p1), (2, .int (b2i s0))] [1, 2, 0] dX11_isTold_16 rfl (by decide) rfl ?_
    refine v_iconst hB 0 dX11_isTold_17 (by decide) ?_
    refine v_istore_n hB [(0, .ref ((SM g).1.2.1 0)), (1, .int p1), (2, .int (b2i s0)), (3, .int 0)] [1, 2, 3, 0] dX11_isTold_18 rfl (by decide) rfl ?_
    exact V.sub [0, 1, 2, 3] rfl (hn19 1000 s0 0)
  unfold f_X11_isTold
  refine v_aload_n hB 0 dX11_isTold_0 rfl rfl ?_
  refine v_getA hB hK (fl_X11_82 g) (cMA_0_38 g) dX11_isTold_1 ?_
  refine v_iload_n hB 1 dX11_isTold_4 rfl rfl ?_
  refine v_iald hB hK (aMI_20 g) dX11_isTold_5 ?_
  refine v_bipush hB 9 dX11_isTold_6 (by decide) ?_
  refine v_icmp_gt (tgt := 15) hB dX11_isTold_8 rfl ?_ ?_
  · refine v_iconst hB 0 dX11_isTold_15 (by decide) ?_
    exact V.sub [0, 1] rfl (hn16 false)
  · refine v_iconst hB 1 dX11_isTold_11 (by decide) ?_
    refine v_goto (tgt := 16) hB dX11_isTold_12 rfl ?_
    exact V.sub [0, 1] rfl (hn16 true)

def f_X11_isList (p0 : Int32) : Bool :=
  f_X11_isIn p0 0 2
set_option maxRecDepth 100000 in
set_option maxHeartbeats 4000000 in
theorem c_X11_isList (g : pq_g) {A : Nat → Prop} (hA : pq_A (SM g) A) (l : Launch) (p0 : Int32) (h : pq_H) : pq_M (SM g) A l yX11_isList cX11_isList 1 (some .boolean) 1 22 [.int p0] h (some (.int (b2i (f_X11_isList p0)))) h := by
  refine pq_met hA l (own := RX11) 1 22 _ [(0, .int p0)] h _ h (by decide +kernel) rfl (Nat.le_of_ble_eq_true rfl) rfl (fun X hXl hXA hB hK hR => ?_)
  refine V.cast (F' := some (f_X11_isList p0)) (res' := (f_X11_isList p0)) (fun _ => rfl) ?_
  unfold f_X11_isList
  refine v_iload_n hB 0 dX11_isList_0 rfl rfl ?_
  refine v_iconst hB 0 dX11_isList_1 (by decide) ?_
  refine v_iconst hB 2 dX11_isList_2 (by decide) ?_
  refine v_bT (v_callS hB hK hR.rm [.int p0, .int 0, .int 2] [] lb_X11_isIn lv_X11_98 (c_X11_isIn g hK.A X.1.2.1 p0 0 2 h) dX11_isList_3 rfl rfl (Nat.le_of_ble_eq_true rfl) (by decide) (by decide)) ?_
  exact v_retRz (x := f_X11_isIn p0 0 2) hB hK hR dX11_isList_6

def f_X11_walls_j88 (h : pq_H) : Option (Int64 × pq_H) :=
  bd2 (f_X11_lower (-3) h) fun r91 h91 => some (r91, h91)
def f_X11_walls_j41 (p1 : Int32) (p2 : Int32) (p3 : Int32) (s0 : Int32) (h : pq_H) : Option (Int64 × pq_H) :=
  if s0 = 0 then (gd (inb p1 3) (if 0 ≤ (rI h 20 p1.toNatClampNeg) then ((f_X11_isTold p1 h).bind fun r70 => if r70 = true then (gd (inb p1 3) (if ((rI h 20 p1.toNatClampNeg) - 1) ≤ p2 then ((f_X11_wallOf p1 p2 p3 h).bind fun r101 => some (r101, h)) else (f_X11_walls_j88 h))) else (f_X11_walls_j88 h)) else (some (4000000000000000011, h)))) else (bd2 (f_X11_lower s0 h) fun r51 h51 => some (r51, h51))
def f_X11_walls_j19 (p1 : Int32) (p2 : Int32) (p3 : Int32) (h : pq_H) : Option (Int64 × pq_H) :=
  f_X11_walls_j41 p1 p2 p3 (-4) h
def f_X11_walls_j35 (p1 : Int32) (p2 : Int32) (p3 : Int32) (h : pq_H) : Option (Int64 × pq_H) :=
  f_X11_walls_j41 p1 p2 p3 (-6) h
def f_X11_walls (p1 : Int32) (p2 : Int32) (p3 : Int32) (h : pq_H) : Option (Int64 × pq_H) :=
  if (f_X11_isList p1) = true then (if p2 < 0 then (f_X11_walls_j19 p1 p2 p3 h) else (if 0 ≤ p3 then (if 16 < p2 then (f_X11_walls_j35 p1 p2 p3 h) else (if p3 ≤ p2 then (f_X11_walls_j41 p1 p2 p3 0 h) else (f_X11_walls_j35 p1 p2 p3 h))) else (f_X11_walls_j19 p1 p2 p3 h))) else (f_X11_walls_j41 p1 p2 p3 (-1) h)
set_option maxRecDepth 100000 in
set_option maxHeartbeats 4000000 in
theorem c_X11_walls (g : pq_g) {A : Nat → Prop} (hA : pq_A (SM g) A) (l : Launch) (p1 : Int32) (p2 : Int32) (p3 : Int32) (h : pq_H) {rr : Int64} {hh : pq_H} (e : f_X11_walls p1 p2 p3 h = some (rr, hh)) : pq_M (SM g) A l yX11_walls cX11_walls 5 (some .long) 2 50 [.ref ((SM g).1.2.1 0), .int p1, .int p2, .int p3] h (some (.long rr)) hh := by
  refine pq_met hA l (own := RX11) 2 50 _ [(0, .ref ((SM g).1.2.1 0)), (1, .int p1), (2, .int p2), (3, .int p3)] h _ hh (by decide +kernel) rfl (Nat.le_of_ble_eq_true rfl) rfl (fun X hXl hXA hB hK hR => ?_)
  refine V.cast (F' := f_X11_walls p1 p2 p3 h) (res' := (rr, hh)) (fun _ => e) ?_
  have hn88 : ∀ (h : pq_H), V X (SM g) (rr, hh) 5 88 [(0, .ref ((SM g).1.2.1 0))] [] h (f_X11_walls_j88 h) := by
    intro h
    unfold f_X11_walls_j88
    refine v_aload_n hB 0 dX11_walls_88 rfl rfl ?_
    refine v_bipush hB (-3) dX11_walls_89 (by decide) ?_
    refine v_bWj (fun r91 h91 e91 => v_callV hB hK hR.rm [.int (-3)] [] (oM_0 g) lb_X11_lower lv_X11_231 (c_X11_lower g hK.A X.1.2.1 (-3) h e91) dX11_walls_91 rfl rfl (Nat.le_of_ble_eq_true rfl) (by decide) (by decide)) (fun r91 h91 => ?_)
    refine v_goto (tgt := 104) hB dX11_walls_94 rfl ?_
    exact v_retWj (x := r91) hB hK hR dX11_walls_104
  have hn41 : ∀ (s0 : Int32) (h : pq_H), V X (SM g) (rr, hh) 5 41 [(0, .ref ((SM g).1.2.1 0)), (1, .int p1), (2, .int p2), (3, .int p3)] [.int s0] h (f_X11_walls_j41 p1 p2 p3 s0 h) := by
    intro s0 h
    unfold f_X11_walls_j41
    refine v_istore hB [(0, .ref ((SM g).1.2.1 0)), (1, .int p1), (2, .int p2), (3, .int p3), (4, .int s0)] [1, 2, 3, 4, 0] dX11_walls_41 (by decide) rfl ?_
    refine v_iload hB 4 dX11_walls_43 rfl ?_
    refine v_if_eq (tgt := 55) hB dX11_walls_45 rfl ?_ ?_
    · refine v_aload_n hB 0 dX11_walls_55 rfl rfl ?_
      refine v_getA hB hK (fl_X11_82 g) (cMA_0_38 g) dX11_walls_56 ?_
      refine v_iload_n hB 1 dX11_walls_59 rfl rfl ?_
      refine v_iald hB hK (aMI_20 g) dX11_walls_60 ?_
      refine v_if_ge (tgt := 68) hB dX11_walls_61 rfl ?_ ?_
      · refine v_aload_n hB 0 dX11_walls_68 rfl rfl ?_
        refine v_iload_n hB 1 dX11_walls_69 rfl rfl ?_
        refine v_bRz (fun r70 e70 => v_callV hB hK hR.rm [.int p1] [] (oM_0 g) lb_X11_isTold lv_X11_315 (c_X11_isTold g hK.A X.1.2.1 p1 h e70) dX11_walls_70 rfl rfl (Nat.le_of_ble_eq_true rfl) (by decide) (by decide)) (fun r70 => ?_)
        refine v_ifz_eq (r := r70) (tgt := 88) hB dX11_walls_73 rfl ?_ ?_
        · exact V.sub [0] rfl (hn88 h)
        · refine v_iload_n hB 2 dX11_walls_76 rfl rfl ?_
          refine v_aload_n hB 0 dX11_walls_77 rfl rfl ?_
          refine v_getA hB hK (fl_X11_82 g) (cMA_0_38 g) dX11_walls_78 ?_
          refine v_iload_n hB 1 dX11_walls_81 rfl rfl ?_
          refine v_iald hB hK (aMI_20 g) dX11_walls_82 ?_
          refine v_iconst hB 1 dX11_walls_83 (by decide) ?_
          refine v_isub hB dX11_walls_84 ?_
          refine v_icmp_ge (tgt := 97) hB dX11_walls_85 rfl ?_ ?_
          · refine v_aload_n hB 0 dX11_walls_97 rfl rfl ?_
            refine v_iload_n hB 1 dX11_walls_98 rfl rfl ?_
            refine v_iload_n hB 2 dX11_walls_99 rfl rfl ?_
            refine v_iload_n hB 3 dX11_walls_100 rfl rfl ?_
            refine v_bRj (fun r101 e101 => v_callV hB hK hR.rm [.int p1, .int p2, .int p3] [] (oM_0 g) lb_X11_wallOf lv_X11_318 (c_X11_wallOf g hK.A X.1.2.1 p1 p2 p3 h e101) dX11_walls_101 rfl rfl (Nat.le_of_ble_eq_true rfl) (by decide) (by decide)) (fun r101 => ?_)
            exact v_retWj (x := r101) hB hK hR dX11_walls_104
          · exact V.sub [0] rfl (hn88 h)
      · refine v_ldc2 hB 4000000000000000011 k_X11_313 dX11_walls_64 ?_
        exact v_retWj (x := 4000000000000000011) hB hK hR dX11_walls_67
    · refine v_aload_n hB 0 dX11_walls_48 rfl rfl ?_
      refine v_iload hB 4 dX11_walls_49 rfl ?_
      refine v_bWj (fun r51 h51 e51 => v_callV hB hK hR.rm [.int s0] [] (oM_0 g) lb_X11_lower lv_X11_231 (c_X11_lower g hK.A X.1.2.1 s0 h e51) dX11_walls_51 rfl rfl (Nat.le_of_ble_eq_true rfl) (by decide) (by decide)) (fun r51 h51 => ?_)
      exact v_retWj (x := r51) hB hK hR dX11_walls_54
  have hn19 : ∀ (h : pq_H), V X (SM g) (rr, hh) 5 19 [(0, .ref ((SM g).1.2.1 0)), (1, .int p1), (2, .int p2), (3, .int p3)] [] h (f_X11_walls_j19 p1 p2 p3 h) := by
    intro h
    unfold f_X11_walls_j19
    refine v_bipush hB (-4) dX11_walls_19 (by decide) ?_
    refine v_goto (tgt := 41) hB dX11_walls_21 rfl ?_
    exact V.sub [0, 1, 2, 3] rfl (hn41 (-4) h)
  have hn35 : ∀ (h : pq_H), V X (SM g) (rr, hh) 5 35 [(0, .ref ((SM g).1.2.1 0)), (1, .int p1), (2, .int p2), (3, .int p3)] [] h (f_X11_walls_j35 p1 p2 p3 h) := by
    intro h
    unfold f_X11_walls_j35
    refine v_bipush hB (-6) dX11_walls_35 (by decide) ?_
    refine v_goto (tgt := 41) hB dX11_walls_37 rfl ?_
    exact V.sub [0, 1, 2, 3] rfl (hn41 (-6) h)
  unfold f_X11_walls
  refine v_iload_n hB 1 dX11_walls_0 rfl rfl ?_
  refine v_bT (v_callS hB hK hR.rm [.int p1] [] lb_X11_isList lv_X11_310 (c_X11_isList g hK.A X.1.2.1 p1 h) dX11_walls_1 rfl rfl (Nat.le_of_ble_eq_true rfl) (by decide) (by decide)) ?_
  refine v_ifz_ne (r := f_X11_isList p1) (tgt := 11) hB dX11_walls_4 rfl ?_ ?_
  · refine v_iload_n hB 2 dX11_walls_11 rfl rfl ?_
    refine v_if_lt (tgt := 19) hB dX11_walls_12 rfl ?_ ?_
    · exact V.sub [0, 1, 2, 3] rfl (hn19 h)
    · refine v_iload_n hB 3 dX11_walls_15 rfl rfl ?_
      refine v_if_ge (tgt := 24) hB dX11_walls_16 rfl ?_ ?_
      · refine v_iload_n hB 2 dX11_walls_24 rfl rfl ?_
        refine v_bipush hB 16 dX11_walls_25 (by decide) ?_
        refine v_icmp_gt (tgt := 35) hB dX11_walls_27 rfl ?_ ?_
        · exact V.sub [0, 1, 2, 3] rfl (hn35 h)
        · refine v_iload_n hB 3 dX11_walls_30 rfl rfl ?_
          refine v_iload_n hB 2 dX11_walls_31 rfl rfl ?_
          refine v_icmp_le (tgt := 40) hB dX11_walls_32 rfl ?_ ?_
          · refine v_iconst hB 0 dX11_walls_40 (by decide) ?_
            exact V.sub [0, 1, 2, 3] rfl (hn41 0 h)
          · exact V.sub [0, 1, 2, 3] rfl (hn35 h)
      · exact V.sub [0, 1, 2, 3] rfl (hn19 h)
  · refine v_iconst hB (-1) dX11_walls_7 (by decide) ?_
    refine v_goto (tgt := 41) hB dX11_walls_8 rfl ?_
    exact V.sub [0, 1, 2, 3] rfl (hn41 (-1) h)

def f_X11_wallsLeast_j176 (v4 : Int32) (v5 : Bool) (h : pq_H) : Option (Int32 × pq_H) :=
  if v5 = true then (some (v4 - 1, h)) else (some ((-9), h))
def f_X11_wallsLeast_j170 (w89 : Int32 → Bool → Option (Int32 × pq_H)) (v4 : Int32) (v5 : Bool) : Option (Int32 × pq_H) :=
  w89 (v4 + 1) v5
def f_X11_wallsLeast_j161 (w89 : Int32 → Bool → Option (Int32 × pq_H)) (w107 : Bool → Int32 → Option (Int32 × pq_H)) (v6 : Int32) (s0 : Bool) (s1 : Bool) : Option (Int32 × pq_H) :=
  w107 (s0 && s1) (v6 + 1)
def f_X11_wallsLeast_l107 (p1 : Int32) (p2 : Int32) (h : pq_H) (w89 : Int32 → Bool → Option (Int32 × pq_H)) (v4 : Int32) (w107 : Bool → Int32 → Option (Int32 × pq_H)) (v5 : Bool) (v6 : Int32) : Option (Int32 × pq_H) :=
  if v4 < v6 then (f_X11_wallsLeast_j170 w89 v4 v5) else (if p2 = 0 then ((f_X11_wallOf p1 v4 v6 h).bind fun r126 => if r126 < 0 then (f_X11_wallsLeast_j161 w89 w107 v6 v5 false) else (f_X11_wallsLeast_j161 w89 w107 v6 v5 true)) else ((f_X11_wallOf p1 v4 v6 h).bind fun r148 => if r148 ≤ 0 then (f_X11_wallsLeast_j161 w89 w107 v6 v5 false) else (f_X11_wallsLeast_j161 w89 w107 v6 v5 true)))
def f_X11_wallsLeast_l89 (p1 : Int32) (p2 : Int32) (h : pq_H) (w89 : Int32 → Bool → Option (Int32 × pq_H)) (v4 : Int32) (v5 : Bool) : Option (Int32 × pq_H) :=
  if v5 = true then (f_X11_wallsLeast_j176 v4 v5 h) else (if 16 < v4 then (f_X11_wallsLeast_j176 v4 v5 h) else (lp (fun _ _ => none) (f_X11_wallsLeast_l107 p1 p2 h w89 v4) 1000 true 0))
def f_X11_wallsLeast_j84 (p1 : Int32) (p2 : Int32) (s0 : Int32) (h : pq_H) : Option (Int32 × pq_H) :=
  lp (fun _ _ => none) (f_X11_wallsLeast_l89 p1 p2 h) 1000 s0 false
def f_X11_wallsLeast_j24 (p1 : Int32) (p2 : Int32) (s0 : Int32) (h : pq_H) : Option (Int32 × pq_H) :=
  if s0 = 0 then (gd (inb p1 3) (if 0 ≤ (rI h 20 p1.toNatClampNeg) then ((f_X11_isTold p1 h).bind fun r49 => if r49 = true then (gd (inb p1 3) (if 1 ≤ (rI h 20 p1.toNatClampNeg) then (gd (inb p1 3) (f_X11_wallsLeast_j84 p1 p2 ((rI h 20 p1.toNatClampNeg) - 1) h)) else (f_X11_wallsLeast_j84 p1 p2 0 h))) else (bd2 (f_X11_no (-3) h) fun r58 h58 => some (r58, h58))) else (some ((-11), h)))) else (bd2 (f_X11_no s0 h) fun r31 h31 => some (r31, h31))
def f_X11_wallsLeast (p1 : Int32) (p2 : Int32) (h : pq_H) : Option (Int32 × pq_H) :=
  if (f_X11_isList p1) = true then (if (f_X11_isSort p2) = true then (f_X11_wallsLeast_j24 p1 p2 0 h) else (f_X11_wallsLeast_j24 p1 p2 (-2) h)) else (f_X11_wallsLeast_j24 p1 p2 (-1) h)
set_option maxRecDepth 100000 in
set_option maxHeartbeats 4000000 in
theorem c_X11_wallsLeast (g : pq_g) {A : Nat → Prop} (hA : pq_A (SM g) A) (l : Launch) (p1 : Int32) (p2 : Int32) (h : pq_H) {rr : Int32} {hh : pq_H} (e : f_X11_wallsLeast p1 p2 h = some (rr, hh)) : pq_M (SM g) A l yX11_wallsLeast cX11_wallsLeast 7 (some .int) 2 50 [.ref ((SM g).1.2.1 0), .int p1, .int p2] h (some (.int rr)) hh := by
  refine pq_met hA l (own := RX11) 2 50 _ [(0, .ref ((SM g).1.2.1 0)), (1, .int p1), (2, .int p2)] h _ hh (by decide +kernel) rfl (Nat.le_of_ble_eq_true rfl) rfl (fun X hXl hXA hB hK hR => ?_)
  refine V.cast (F' := f_X11_wallsLeast p1 p2 h) (res' := (rr, hh)) (fun _ => e) ?_
  have hn176 : ∀ (v4 : Int32) (v5 : Bool) (h : pq_H), V X (SM g) (rr, hh) 7 176 [(4, .int v4), (5, .int (b2i v5))] [] h (f_X11_wallsLeast_j176 v4 v5 h) := by
    intro v4 v5 h
    unfold f_X11_wallsLeast_j176
    refine v_iload hB 1 dX11_wallsLeast_176 rfl ?_
    refine v_ifz_eq (r := v5) (tgt := 188) hB dX11_wallsLeast_178 rfl ?_ ?_
    · refine v_bipush hB (-9) dX11_wallsLeast_188 (by decide) ?_
      exact v_retWi (x := (-9)) hB hK hR dX11_wallsLeast_190
    · refine v_iload hB 0 dX11_wallsLeast_181 rfl ?_
      refine v_iconst hB 1 dX11_wallsLeast_183 (by decide) ?_
      refine v_isub hB dX11_wallsLeast_184 ?_
      refine v_goto (tgt := 190) hB dX11_wallsLeast_185 rfl ?_
      exact v_retWi (x := v4 - 1) hB hK hR dX11_wallsLeast_190
  have hn89 : ∀ (h : pq_H) (n : Nat), ∀ (v4 : Int32) (v5 : Bool), V X (SM g) (rr, hh) 7 89 [(0, .ref ((SM g).1.2.1 0)), (1, .int p1), (2, .int p2), (4, .int v4), (5, .int (b2i v5))] [] h (lp (fun _ _ => none) (f_X11_wallsLeast_l89 p1 p2 h) n v4 v5) := by
    intro h
    refine lp_ind (fun (w89 : Int32 → Bool → Option (Int32 × pq_H)) => ∀ (v4 : Int32) (v5 : Bool), V X (SM g) (rr, hh) 7 89 [(0, .ref ((SM g).1.2.1 0)), (1, .int p1), (2, .int p2), (4, .int v4), (5, .int (b2i v5))] [] h (w89 v4 v5)) (fun _ _ => V.none _ _ _ _) (fun w89 ih89 => ?_)
    have hn170 : ∀ (v4 : Int32) (v5 : Bool), V X (SM g) (rr, hh) 7 170 [(0, .ref ((SM g).1.2.1 0)), (1, .int p1), (2, .int p2), (4, .int v4), (5, .int (b2i v5))] [] h (f_X11_wallsLeast_j170 w89 v4 v5) := by
      intro v4 v5
      unfold f_X11_wallsLeast_j170
      refine v_iinc hB (v4 + 1) [(0, .ref ((SM g).1.2.1 0)), (1, .int p1), (2, .int p2), (4, .int (v4 + 1)), (5, .int (b2i v5))] 3 [1, 2, 3, 0, 4] dX11_wallsLeast_170 rfl rfl (by decide) rfl ?_
      refine v_goto (tgt := 89) hB dX11_wallsLeast_173 rfl ?_
      exact V.sub [0, 1, 2, 3, 4] rfl (ih89 (v4 + 1) v5)
    have hn107 : ∀ (v4 : Int32) (n : Nat), ∀ (v5 : Bool) (v6 : Int32), V X (SM g) (rr, hh) 7 107 [(0, .ref ((SM g).1.2.1 0)), (1, .int p1), (2, .int p2), (4, .int v4), (5, .int (b2i v5)), (6, .int v6)] [] h (lp (fun _ _ => none) (f_X11_wallsLeast_l107 p1 p2 h w89 v4) n v5 v6) := by
      intro v4
      refine lp_ind (fun (w107 : Bool → Int32 → Option (Int32 × pq_H)) => ∀ (v5 : Bool) (v6 : Int32), V X (SM g) (rr, hh) 7 107 [(0, .ref ((SM g).1.2.1 0)), (1, .int p1), (2, .int p2), (4, .int v4), (5, .int (b2i v5)), (6, .int v6)] [] h (w107 v5 v6)) (fun _ _ => V.none _ _ _ _) (fun w107 ih107 => ?_)
      have hn161 : ∀ (v6 : Int32) (s0 : Bool) (s1 : Bool), V X (SM g) (rr, hh) 7 161 [(0, .ref ((SM g).1.2.1 0)), (1, .int p1), (2, .int p2), (4, .int v4), (6, .int v6)] [.int (b2i s1), .int (b2i s0)] h (f_X11_wallsLeast_j161 w89 w107 v6 s0 s1) := by
        intro v6 s0 s1
        unfold f_X11_wallsLeast_j161
        refine v_zand (x := s0) (y := s1) hB dX11_wallsLeast_161 ?_
        refine v_istore hB [(0, .ref ((SM g).1.2.1 0)), (1, .int p1), (2, .int p2), (4, .int v4), (5, .int (b2i (s0 && s1))), (6, .int v6)] [1, 2, 3, 4, 0, 5] dX11_wallsLeast_162 (by decide) rfl ?_
        refine v_iinc hB (v6 + 1) [(0, .ref ((SM g).1.2.1 0)), (1, .int p1), (2, .int p2), (4, .int v4), (5, .int (b2i (s0 && s1))), (6, .int (v6 + 1))] 5 [1, 2, 3, 4, 5, 0] dX11_wallsLeast_164 rfl rfl (by decide) rfl ?_
        refine v_goto (tgt := 107) hB dX11_wallsLeast_167 rfl ?_
        exact V.sub [0, 1, 2, 3, 4, 5] rfl (ih107 (s0 && s1) (v6 + 1))
      intro v5 v6
      unfold f_X11_wallsLeast_l107
      refine v_iload hB 5 dX11_wallsLeast_107 rfl ?_
      refine v_iload hB 3 dX11_wallsLeast_109 rfl ?_
      refine v_icmp_gt (tgt := 170) hB dX11_wallsLeast_111 rfl ?_ ?_
      · exact V.sub [0, 1, 2, 3, 4] rfl (hn170 v4 v5)
      · refine v_iload hB 4 dX11_wallsLeast_114 rfl ?_
        refine v_iload_n hB 2 dX11_wallsLeast_116 rfl rfl ?_
        refine v_if_ne (tgt := 142) hB dX11_wallsLeast_117 rfl ?_ ?_
        · refine v_aload_n hB 0 dX11_wallsLeast_142 rfl rfl ?_
          refine v_iload_n hB 1 dX11_wallsLeast_143 rfl rfl ?_
          refine v_iload hB 3 dX11_wallsLeast_144 rfl ?_
          refine v_iload hB 5 dX11_wallsLeast_146 rfl ?_
          refine v_bRj (fun r148 e148 => v_callV hB hK hR.rm [.int p1, .int v4, .int v6] [.int (b2i v5)] (oM_0 g) lb_X11_wallOf lv_X11_318 (c_X11_wallOf g hK.A X.1.2.1 p1 v4 v6 h e148) dX11_wallsLeast_148 rfl rfl (Nat.le_of_ble_eq_true rfl) (by decide) (by decide)) (fun r148 => ?_)
          refine v_lconst hB 0 dX11_wallsLeast_151 (by decide) ?_
          refine v_lcmp_le (tgt := 160) hB dX11_wallsLeast_152 dX11_wallsLeast_153 rfl ?_ ?_
          · refine v_iconst hB 0 dX11_wallsLeast_160 (by decide) ?_
            exact V.sub [0, 1, 2, 3, 5] rfl (hn161 v6 v5 false)
          · refine v_iconst hB 1 dX11_wallsLeast_156 (by decide) ?_
            refine v_goto (tgt := 161) hB dX11_wallsLeast_157 rfl ?_
            exact V.sub [0, 1, 2, 3, 5] rfl (hn161 v6 v5 true)
        · refine v_aload_n hB 0 dX11_wallsLeast_120 rfl rfl ?_
          refine v_iload_n hB 1 dX11_wallsLeast_121 rfl rfl ?_
          refine v_iload hB 3 dX11_wallsLeast_122 rfl ?_
          refine v_iload hB 5 dX11_wallsLeast_124 rfl ?_
          refine v_bRj (fun r126 e126 => v_callV hB hK hR.rm [.int p1, .int v4, .int v6] [.int (b2i v5)] (oM_0 g) lb_X11_wallOf lv_X11_318 (c_X11_wallOf g hK.A X.1.2.1 p1 v4 v6 h e126) dX11_wallsLeast_126 rfl rfl (Nat.le_of_ble_eq_true rfl) (by decide) (by decide)) (fun r126 => ?_)
          refine v_lconst hB 0 dX11_wallsLeast_129 (by decide) ?_
          refine v_lcmp_lt (tgt := 138) hB dX11_wallsLeast_130 dX11_wallsLeast_131 rfl ?_ ?_
          · refine v_iconst hB 0 dX11_wallsLeast_138 (by decide) ?_
            refine v_goto (tgt := 161) hB dX11_wallsLeast_139 rfl ?_
            exact V.sub [0, 1, 2, 3, 5] rfl (hn161 v6 v5 false)
          · refine v_iconst hB 1 dX11_wallsLeast_134 (by decide) ?_
            refine v_goto (tgt := 161) hB dX11_wallsLeast_135 rfl ?_
            exact V.sub [0, 1, 2, 3, 5] rfl (hn161 v6 v5 true)
    intro v4 v5
    unfold f_X11_wallsLeast_l89
    refine v_iload hB 4 dX11_wallsLeast_89 rfl ?_
    refine v_ifz_ne (r := v5) (tgt := 176) hB dX11_wallsLeast_91 rfl ?_ ?_
    · exact V.sub [3, 4] rfl (hn176 v4 v5 h)
    · refine v_iload hB 3 dX11_wallsLeast_94 rfl ?_
      refine v_bipush hB 16 dX11_wallsLeast_96 (by decide) ?_
      refine v_icmp_gt (tgt := 176) hB dX11_wallsLeast_98 rfl ?_ ?_
      · exact V.sub [3, 4] rfl (hn176 v4 v5 h)
      · refine v_iconst hB 1 dX11_wallsLeast_101 (by decide) ?_
        refine v_istore hB [(0, .ref ((SM g).1.2.1 0)), (1, .int p1), (2, .int p2), (4, .int v4), (5, .int (b2i true))] [1, 2, 3, 4, 0] dX11_wallsLeast_102 (by decide) rfl ?_
        refine v_iconst hB 0 dX11_wallsLeast_104 (by decide) ?_
        refine v_istore hB [(0, .ref ((SM g).1.2.1 0)), (1, .int p1), (2, .int p2), (4, .int v4), (5, .int (b2i true)), (6, .int 0)] [1, 2, 3, 4, 5, 0] dX11_wallsLeast_105 (by decide) rfl ?_
        exact V.sub [0, 1, 2, 3, 4, 5] rfl (hn107 v4 1000 true 0)
  have hn84 : ∀ (s0 : Int32) (h : pq_H), V X (SM g) (rr, hh) 7 84 [(0, .ref ((SM g).1.2.1 0)), (1, .int p1), (2, .int p2)] [.int s0] h (f_X11_wallsLeast_j84 p1 p2 s0 h) := by
    intro s0 h
    unfold f_X11_wallsLeast_j84
    refine v_istore hB [(0, .ref ((SM g).1.2.1 0)), (1, .int p1), (2, .int p2), (4, .int s0)] [1, 2, 3, 0] dX11_wallsLeast_84 (by decide) rfl ?_
    refine v_iconst hB 0 dX11_wallsLeast_86 (by decide) ?_
    refine v_istore hB [(0, .ref ((SM g).1.2.1 0)), (1, .int p1), (2, .int p2), (4, .int s0), (5, .int (b2i false))] [1, 2, 3, 4, 0] dX11_wallsLeast_87 (by decide) rfl ?_
    exact V.sub [0, 1, 2, 3, 4] rfl (hn89 h 1000 s0 false)
  have hn24 : ∀ (s0 : Int32) (h : pq_H), V X (SM g) (rr, hh) 7 24 [(0, .ref ((SM g).1.2.1 0)), (1, .int p1), (2, .int p2)] [.int s0] h (f_X11_wallsLeast_j24 p1 p2 s0 h) := by
    intro s0 h
    unfold f_X11_wallsLeast_j24
    refine v_istore_n hB [(0, .ref ((SM g).1.2.1 0)), (1, .int p1), (2, .int p2), (3, .int s0)] [1, 2, 3, 0] dX11_wallsLeast_24 rfl (by decide) rfl ?_
    refine v_iload_n hB 3 dX11_wallsLeast_25 rfl rfl ?_
    refine v_if_eq (tgt := 35) hB dX11_wallsLeast_26 rfl ?_ ?_
    · refine v_aload_n hB 0 dX11_wallsLeast_35 rfl rfl ?_
      refine v_getA hB hK (fl_X11_82 g) (cMA_0_38 g) dX11_wallsLeast_36 ?_
      refine v_iload_n hB 1 dX11_wallsLeast_39 rfl rfl ?_
      refine v_iald hB hK (aMI_20 g) dX11_wallsLeast_40 ?_
      refine v_if_ge (tgt := 47) hB dX11_wallsLeast_41 rfl ?_ ?_
      · refine v_aload_n hB 0 dX11_wallsLeast_47 rfl rfl ?_
        refine v_iload_n hB 1 dX11_wallsLeast_48 rfl rfl ?_
        refine v_bRz (fun r49 e49 => v_callV hB hK hR.rm [.int p1] [] (oM_0 g) lb_X11_isTold lv_X11_315 (c_X11_isTold g hK.A X.1.2.1 p1 h e49) dX11_wallsLeast_49 rfl rfl (Nat.le_of_ble_eq_true rfl) (by decide) (by decide)) (fun r49 => ?_)
        refine v_ifz_ne (r := r49) (tgt := 62) hB dX11_wallsLeast_52 rfl ?_ ?_
        · refine v_aload_n hB 0 dX11_wallsLeast_62 rfl rfl ?_
          refine v_getA hB hK (fl_X11_82 g) (cMA_0_38 g) dX11_wallsLeast_63 ?_
          refine v_iload_n hB 1 dX11_wallsLeast_66 rfl rfl ?_
          refine v_iald hB hK (aMI_20 g) dX11_wallsLeast_67 ?_
          refine v_iconst hB 1 dX11_wallsLeast_68 (by decide) ?_
          refine v_icmp_ge (tgt := 76) hB dX11_wallsLeast_69 rfl ?_ ?_
          · refine v_aload_n hB 0 dX11_wallsLeast_76 rfl rfl ?_
            refine v_getA hB hK (fl_X11_82 g) (cMA_0_38 g) dX11_wallsLeast_77 ?_
            refine v_iload_n hB 1 dX11_wallsLeast_80 rfl rfl ?_
            refine v_iald hB hK (aMI_20 g) dX11_wallsLeast_81 ?_
            refine v_iconst hB 1 dX11_wallsLeast_82 (by decide) ?_
            refine v_isub hB dX11_wallsLeast_83 ?_
            exact V.sub [0, 1, 2] rfl (hn84 ((rI h 20 p1.toNatClampNeg) - 1) h)
          · refine v_iconst hB 0 dX11_wallsLeast_72 (by decide) ?_
            refine v_goto (tgt := 84) hB dX11_wallsLeast_73 rfl ?_
            exact V.sub [0, 1, 2] rfl (hn84 0 h)
        · refine v_aload_n hB 0 dX11_wallsLeast_55 rfl rfl ?_
          refine v_bipush hB (-3) dX11_wallsLeast_56 (by decide) ?_
          refine v_bWi (fun r58 h58 e58 => v_callV hB hK hR.rm [.int (-3)] [] (oM_0 g) lb_X11_no lv_X11_8 (c_X11_no g hK.A X.1.2.1 (-3) h e58) dX11_wallsLeast_58 rfl rfl (Nat.le_of_ble_eq_true rfl) (by decide) (by decide)) (fun r58 h58 => ?_)
          exact v_retWi (x := r58) hB hK hR dX11_wallsLeast_61
      · refine v_bipush hB (-11) dX11_wallsLeast_44 (by decide) ?_
        exact v_retWi (x := (-11)) hB hK hR dX11_wallsLeast_46
    · refine v_aload_n hB 0 dX11_wallsLeast_29 rfl rfl ?_
      refine v_iload_n hB 3 dX11_wallsLeast_30 rfl rfl ?_
      refine v_bWi (fun r31 h31 e31 => v_callV hB hK hR.rm [.int s0] [] (oM_0 g) lb_X11_no lv_X11_8 (c_X11_no g hK.A X.1.2.1 s0 h e31) dX11_wallsLeast_31 rfl rfl (Nat.le_of_ble_eq_true rfl) (by decide) (by decide)) (fun r31 h31 => ?_)
      exact v_retWi (x := r31) hB hK hR dX11_wallsLeast_34
  unfold f_X11_wallsLeast
  refine v_iload_n hB 1 dX11_wallsLeast_0 rfl rfl ?_
  refine v_bT (v_callS hB hK hR.rm [.int p1] [] lb_X11_isList lv_X11_310 (c_X11_isList g hK.A X.1.2.1 p1 h) dX11_wallsLeast_1 rfl rfl (Nat.le_of_ble_eq_true rfl) (by decide) (by decide)) ?_
  refine v_ifz_ne (r := f_X11_isList p1) (tgt := 11) hB dX11_wallsLeast_4 rfl ?_ ?_
  · refine v_iload_n hB 2 dX11_wallsLeast_11 rfl rfl ?_
    refine v_bT (v_callS hB hK hR.rm [.int p2] [] lb_X11_isSort lv_X11_249 (c_X11_isSort g hK.A X.1.2.1 p2 h) dX11_wallsLeast_12 rfl rfl (Nat.le_of_ble_eq_true rfl) (by decide) (by decide)) ?_
    refine v_ifz_ne (r := f_X11_isSort p2) (tgt := 23) hB dX11_wallsLeast_15 rfl ?_ ?_
    · refine v_iconst hB 0 dX11_wallsLeast_23 (by decide) ?_
      exact V.sub [0, 1, 2] rfl (hn24 0 h)
    · refine v_bipush hB (-2) dX11_wallsLeast_18 (by decide) ?_
      refine v_goto (tgt := 24) hB dX11_wallsLeast_20 rfl ?_
      exact V.sub [0, 1, 2] rfl (hn24 (-2) h)
  · refine v_iconst hB (-1) dX11_wallsLeast_7 (by decide) ?_
    refine v_goto (tgt := 24) hB dX11_wallsLeast_8 rfl ?_
    exact V.sub [0, 1, 2] rfl (hn24 (-1) h)

def f_X11_laysColumn_j37 (w2 : Int32 → pq_H → Option pq_H) (v3 : Int32) (s1 : Int32) (s2 : Int32) (h : pq_H) : Option pq_H :=
  gd (inb s1 112) (w2 (v3 + 1) (wI h 17 s1.toNatClampNeg s2))
def f_X11_laysColumn_l2 (p1 : Int32) (p2 : Int32) (w2 : Int32 → pq_H → Option pq_H) (v3 : Int32) (h : pq_H) : Option pq_H :=
  if 28 ≤ v3 then (some h) else ((f_X11_isTerm p2 v3 h).bind fun r21 => if r21 = true then ((f_X11_coefficientOf p2 v3 h).bind fun r30 => f_X11_laysColumn_j37 w2 v3 ((28 * p1) + v3) r30 h) else (f_X11_laysColumn_j37 w2 v3 ((28 * p1) + v3) 0 h))
def f_X11_laysColumn (p1 : Int32) (p2 : Int32) (h : pq_H) : Option pq_H :=
  lp (fun _ _ => none) (f_X11_laysColumn_l2 p1 p2) 1000 0 h
set_option maxRecDepth 100000 in
set_option maxHeartbeats 4000000 in
theorem c_X11_laysColumn (g : pq_g) {A : Nat → Prop} (hA : pq_A (SM g) A) (l : Launch) (p1 : Int32) (p2 : Int32) (h : pq_H) {hh : pq_H} (e : f_X11_laysColumn p1 p2 h = some hh) : pq_M (SM g) A l yX11_laysColumn cX11_laysColumn 4 none 3 71 [.ref ((SM g).1.2.1 0), .int p1, .int p2] h none hh := by
  refine pq_met hA l (own := RX11) 3 71 _ [(0, .ref ((SM g).1.2.1 0)), (1, .int p1), (2, .int p2)] h _ hh (by decide +kernel) rfl (Nat.le_of_ble_eq_true rfl) rfl (fun X hXl hXA hB hK hR => ?_)
  refine V.cast (F' := f_X11_laysColumn p1 p2 h) (res' := hh) (fun _ => e) ?_
  have hn2 : ∀ (n : Nat), ∀ (v3 : Int32) (h : pq_H), V X (SM g) hh 4 2 [(0, .ref ((SM g).1.2.1 0)), (1, .int p1), (2, .int p2), (3, .int v3)] [] h (lp (fun _ _ => none) (f_X11_laysColumn_l2 p1 p2) n v3 h) := by
    refine lp_ind (fun (w2 : Int32 → pq_H → Option pq_H) => ∀ (v3 : Int32) (h : pq_H), V X (SM g) hh 4 2 [(0, .ref ((SM g).1.2.1 0)), (1, .int p1), (2, .int p2), (3, .int v3)] [] h (w2 v3 h)) (fun _ _ => V.none _ _ _ _) (fun w2 ih2 => ?_)
    have hn37 : ∀ (v3 : Int32) (s1 : Int32) (s2 : Int32) (h : pq_H), V X (SM g) hh 4 37 [(0, .ref ((SM g).1.2.1 0)), (1, .int p1), (2, .int p2), (3, .int v3)] [.int s2, .int s1, .ref ((SM g).1.2.1 17)] h (f_X11_laysColumn_j37 w2 v3 s1 s2 h) := by
      intro v3 s1 s2 h
      unfold f_X11_laysColumn_j37
      refine v_iast hB hK (aMI_17 g) dX11_laysColumn_37 ?_
      refine v_iinc hB (v3 + 1) [(0, .ref ((SM g).1.2.1 0)), (1, .int p1), (2, .int p2), (3, .int (v3 + 1))] 3 [1, 2, 3, 0] dX11_laysColumn_38 rfl rfl (by decide) rfl ?_
      refine v_goto (tgt := 2) hB dX11_laysColumn_41 rfl ?_
      exact V.sub [0, 1, 2, 3] rfl (ih2 (v3 + 1) (wI h 17 s1.toNatClampNeg s2))
    intro v3 h
    unfold f_X11_laysColumn_l2
    refine v_iload_n hB 3 dX11_laysColumn_2 rfl rfl ?_
    refine v_bipush hB 28 dX11_laysColumn_3 (by decide) ?_
    refine v_icmp_ge (tgt := 44) hB dX11_laysColumn_5 rfl ?_ ?_
    · exact v_retWv hB hK hR dX11_laysColumn_44
    · refine v_aload_n hB 0 dX11_laysColumn_8 rfl rfl ?_
      refine v_getA hB hK (fl_X11_73 g) (cMA_0_29 g) dX11_laysColumn_9 ?_
      refine v_bipush hB 28 dX11_laysColumn_12 (by decide) ?_
      refine v_iload_n hB 1 dX11_laysColumn_14 rfl rfl ?_
      refine v_imul hB dX11_laysColumn_15 ?_
      refine v_iload_n hB 3 dX11_laysColumn_16 rfl rfl ?_
      refine v_iadd hB dX11_laysColumn_17 ?_
      refine v_aload_n hB 0 dX11_laysColumn_18 rfl rfl ?_
      refine v_iload_n hB 2 dX11_laysColumn_19 rfl rfl ?_
      refine v_iload_n hB 3 dX11_laysColumn_20 rfl rfl ?_
      refine v_bRz (fun r21 e21 => v_callV hB hK hR.rm [.int p2, .int v3] [.int ((28 * p1) + v3), .ref ((SM g).1.2.1 17)] (oM_0 g) lb_X11_isTerm lv_X11_111 (c_X11_isTerm g hK.A X.1.2.1 p2 v3 h e21) dX11_laysColumn_21 rfl rfl (Nat.le_of_ble_eq_true rfl) (by decide) (by decide)) (fun r21 => ?_)
      refine v_ifz_eq (r := r21) (tgt := 36) hB dX11_laysColumn_24 rfl ?_ ?_
      · refine v_iconst hB 0 dX11_laysColumn_36 (by decide) ?_
        exact V.sub [0, 1, 2, 3] rfl (hn37 v3 ((28 * p1) + v3) 0 h)
      · refine v_aload_n hB 0 dX11_laysColumn_27 rfl rfl ?_
        refine v_iload_n hB 2 dX11_laysColumn_28 rfl rfl ?_
        refine v_iload_n hB 3 dX11_laysColumn_29 rfl rfl ?_
        refine v_bRi (fun r30 e30 => v_callV hB hK hR.rm [.int p2, .int v3] [.int ((28 * p1) + v3), .ref ((SM g).1.2.1 17)] (oM_0 g) lb_X11_coefficientOf lv_X11_115 (c_X11_coefficientOf g hK.A X.1.2.1 p2 v3 h e30) dX11_laysColumn_30 rfl rfl (Nat.le_of_ble_eq_true rfl) (by decide) (by decide)) (fun r30 => ?_)
        refine v_goto (tgt := 37) hB dX11_laysColumn_33 rfl ?_
        exact V.sub [0, 1, 2, 3] rfl (hn37 v3 ((28 * p1) + v3) r30 h)
  unfold f_X11_laysColumn
  refine v_iconst hB 0 dX11_laysColumn_0 (by decide) ?_
  refine v_istore_n hB [(0, .ref ((SM g).1.2.1 0)), (1, .int p1), (2, .int p2), (3, .int 0)] [1, 2, 3, 0] dX11_laysColumn_1 rfl (by decide) rfl ?_
  exact V.sub [0, 1, 2, 3] rfl (hn2 1000 0 h)

def f_X11_at (p1 : Int32) (p2 : Int32) (h : pq_H) : Option Int64 :=
  gd (inb ((28 * p1) + p2) 112) (some ((rI h 17 ((28 * p1) + p2).toNatClampNeg).toInt64))
set_option maxRecDepth 100000 in
set_option maxHeartbeats 4000000 in
theorem c_X11_at (g : pq_g) {A : Nat → Prop} (hA : pq_A (SM g) A) (l : Launch) (p1 : Int32) (p2 : Int32) (h : pq_H) {rr : Int64} (e : f_X11_at p1 p2 h = some rr) : pq_M (SM g) A l yX11_at cX11_at 3 (some .long) 0 0 [.ref ((SM g).1.2.1 0), .int p1, .int p2] h (some (.long rr)) h := by
  refine pq_met hA l (own := RX11) 0 0 _ [(0, .ref ((SM g).1.2.1 0)), (1, .int p1), (2, .int p2)] h _ h (by decide +kernel) rfl (Nat.le_of_ble_eq_true rfl) rfl (fun X hXl hXA hB hK hR => ?_)
  refine V.cast (F' := f_X11_at p1 p2 h) (res' := rr) (fun _ => e) ?_
  unfold f_X11_at
  refine v_aload_n hB 0 dX11_at_0 rfl rfl ?_
  refine v_getA hB hK (fl_X11_73 g) (cMA_0_29 g) dX11_at_1 ?_
  refine v_bipush hB 28 dX11_at_4 (by decide) ?_
  refine v_iload_n hB 1 dX11_at_6 rfl rfl ?_
  refine v_imul hB dX11_at_7 ?_
  refine v_iload_n hB 2 dX11_at_8 rfl rfl ?_
  refine v_iadd hB dX11_at_9 ?_
  refine v_iald hB hK (aMI_17 g) dX11_at_10 ?_
  refine v_i2l hB dX11_at_11 ?_
  exact v_retRj (x := (rI h 17 ((28 * p1) + p2).toNatClampNeg).toInt64) hB hK hR dX11_at_12

def f_X11_two (p1 : Int32) (p2 : Int32) (p3 : Int32) (p4 : Int32) (h : pq_H) : Option Int64 :=
  (f_X11_at p1 p3 h).bind fun r3 => (f_X11_at p2 p4 h).bind fun r10 => (f_X11_at p1 p4 h).bind fun r18 => (f_X11_at p2 p3 h).bind fun r24 => some ((r3 * r10) - (r18 * r24))
set_option maxRecDepth 100000 in
set_option maxHeartbeats 4000000 in
theorem c_X11_two (g : pq_g) {A : Nat → Prop} (hA : pq_A (SM g) A) (l : Launch) (p1 : Int32) (p2 : Int32) (p3 : Int32) (p4 : Int32) (h : pq_H) {rr : Int64} (e : f_X11_two p1 p2 p3 p4 h = some rr) : pq_M (SM g) A l yX11_two cX11_two 5 (some .long) 1 22 [.ref ((SM g).1.2.1 0), .int p1, .int p2, .int p3, .int p4] h (some (.long rr)) h := by
  refine pq_met hA l (own := RX11) 1 22 _ [(0, .ref ((SM g).1.2.1 0)), (1, .int p1), (2, .int p2), (3, .int p3), (4, .int p4)] h _ h (by decide +kernel) rfl (Nat.le_of_ble_eq_true rfl) rfl (fun X hXl hXA hB hK hR => ?_)
  refine V.cast (F' := f_X11_two p1 p2 p3 p4 h) (res' := rr) (fun _ => e) ?_
  unfold f_X11_two
  refine v_aload_n hB 0 dX11_two_0 rfl rfl ?_
  refine v_iload_n hB 1 dX11_two_1 rfl rfl ?_
  refine v_iload_n hB 3 dX11_two_2 rfl rfl ?_
  refine v_bRj (fun r3 e3 => v_callV hB hK hR.rm [.int p1, .int p3] [] (oM_0 g) lb_X11_at lv_X11_322 (c_X11_at g hK.A X.1.2.1 p1 p3 h e3) dX11_two_3 rfl rfl (Nat.le_of_ble_eq_true rfl) (by decide) (by decide)) (fun r3 => ?_)
  refine v_aload_n hB 0 dX11_two_6 rfl rfl ?_
  refine v_iload_n hB 2 dX11_two_7 rfl rfl ?_
  refine v_iload hB 4 dX11_two_8 rfl ?_
  refine v_bRj (fun r10 e10 => v_callV hB hK hR.rm [.int p2, .int p4] [.long r3] (oM_0 g) lb_X11_at lv_X11_322 (c_X11_at g hK.A X.1.2.1 p2 p4 h e10) dX11_two_10 rfl rfl (Nat.le_of_ble_eq_true rfl) (by decide) (by decide)) (fun r10 => ?_)
  refine v_lmul hB dX11_two_13 ?_
  refine v_aload_n hB 0 dX11_two_14 rfl rfl ?_
  refine v_iload_n hB 1 dX11_two_15 rfl rfl ?_
  refine v_iload hB 4 dX11_two_16 rfl ?_
  refine v_bRj (fun r18 e18 => v_callV hB hK hR.rm [.int p1, .int p4] [.long (r3 * r10)] (oM_0 g) lb_X11_at lv_X11_322 (c_X11_at g hK.A X.1.2.1 p1 p4 h e18) dX11_two_18 rfl rfl (Nat.le_of_ble_eq_true rfl) (by decide) (by decide)) (fun r18 => ?_)
  refine v_aload_n hB 0 dX11_two_21 rfl rfl ?_
  refine v_iload_n hB 2 dX11_two_22 rfl rfl ?_
  refine v_iload_n hB 3 dX11_two_23 rfl rfl ?_
  refine v_bRj (fun r24 e24 => v_callV hB hK hR.rm [.int p2, .int p3] [.long r18, .long (r3 * r10)] (oM_0 g) lb_X11_at lv_X11_322 (c_X11_at g hK.A X.1.2.1 p2 p3 h e24) dX11_two_24 rfl rfl (Nat.le_of_ble_eq_true rfl) (by decide) (by decide)) (fun r24 => ?_)
  refine v_lmul hB dX11_two_27 ?_
  refine v_lsub hB dX11_two_28 ?_
  exact v_retRj (x := (r3 * r10) - (r18 * r24)) hB hK hR dX11_two_29

def f_X11_minor (p1 : Int32) (p2 : Int32) (p3 : Int32) (p4 : Int32) (h : pq_H) : Option Int64 :=
  if p1 = 0 then (some 1) else (if p1 = 1 then ((f_X11_at p2 (rI h 0 32) h).bind fun r17 => some r17) else (if p1 = 2 then ((f_X11_two p2 p3 (rI h 0 32) (rI h 0 33) h).bind fun r37 => some r37) else ((f_X11_at p2 (rI h 0 32) h).bind fun r47 => (f_X11_two p3 p4 (rI h 0 33) (rI h 0 34) h).bind fun r62 => (f_X11_at p3 (rI h 0 32) h).bind fun r72 => (f_X11_two p2 p4 (rI h 0 33) (rI h 0 34) h).bind fun r87 => (f_X11_at p4 (rI h 0 32) h).bind fun r99 => (f_X11_two p2 p3 (rI h 0 33) (rI h 0 34) h).bind fun r113 => some (((r47 * r62) - (r72 * r87)) + (r99 * r113)))))
set_option maxRecDepth 100000 in
set_option maxHeartbeats 4000000 in
theorem c_X11_minor (g : pq_g) {A : Nat → Prop} (hA : pq_A (SM g) A) (l : Launch) (p1 : Int32) (p2 : Int32) (p3 : Int32) (p4 : Int32) (h : pq_H) {rr : Int64} (e : f_X11_minor p1 p2 p3 p4 h = some rr) : pq_M (SM g) A l yX11_minor cX11_minor 5 (some .long) 2 46 [.ref ((SM g).1.2.1 0), .int p1, .int p2, .int p3, .int p4] h (some (.long rr)) h := by
  refine pq_met hA l (own := RX11) 2 46 _ [(0, .ref ((SM g).1.2.1 0)), (1, .int p1), (2, .int p2), (3, .int p3), (4, .int p4)] h _ h (by decide +kernel) rfl (Nat.le_of_ble_eq_true rfl) rfl (fun X hXl hXA hB hK hR => ?_)
  refine V.cast (F' := f_X11_minor p1 p2 p3 p4 h) (res' := rr) (fun _ => e) ?_
  unfold f_X11_minor
  refine v_iload_n hB 1 dX11_minor_0 rfl rfl ?_
  refine v_if_ne (tgt := 6) hB dX11_minor_1 rfl ?_ ?_
  · refine v_iload_n hB 1 dX11_minor_6 rfl rfl ?_
    refine v_iconst hB 1 dX11_minor_7 (by decide) ?_
    refine v_icmp_ne (tgt := 21) hB dX11_minor_8 rfl ?_ ?_
    · refine v_iload_n hB 1 dX11_minor_21 rfl rfl ?_
      refine v_iconst hB 2 dX11_minor_22 (by decide) ?_
      refine v_icmp_ne (tgt := 41) hB dX11_minor_23 rfl ?_ ?_
      · refine v_aload_n hB 0 dX11_minor_41 rfl rfl ?_
        refine v_iload_n hB 2 dX11_minor_42 rfl rfl ?_
        refine v_aload_n hB 0 dX11_minor_43 rfl rfl ?_
        refine v_getI hB hK (fl_X11_324 g) (cMI_0_32 g) dX11_minor_44 ?_
        refine v_bRj (fun r47 e47 => v_callV hB hK hR.rm [.int p2, .int (rI h 0 32)] [] (oM_0 g) lb_X11_at lv_X11_322 (c_X11_at g hK.A X.1.2.1 p2 (rI h 0 32) h e47) dX11_minor_47 rfl rfl (Nat.le_of_ble_eq_true rfl) (by decide) (by decide)) (fun r47 => ?_)
        refine v_aload_n hB 0 dX11_minor_50 rfl rfl ?_
        refine v_iload_n hB 3 dX11_minor_51 rfl rfl ?_
        refine v_iload hB 4 dX11_minor_52 rfl ?_
        refine v_aload_n hB 0 dX11_minor_54 rfl rfl ?_
        refine v_getI hB hK (fl_X11_327 g) (cMI_0_33 g) dX11_minor_55 ?_
        refine v_aload_n hB 0 dX11_minor_58 rfl rfl ?_
        refine v_getI hB hK (fl_X11_333 g) (cMI_0_34 g) dX11_minor_59 ?_
        refine v_bRj (fun r62 e62 => v_callV hB hK hR.rm [.int p3, .int p4, .int (rI h 0 33), .int (rI h 0 34)] [.long r47] (oM_0 g) lb_X11_two lv_X11_330 (c_X11_two g hK.A X.1.2.1 p3 p4 (rI h 0 33) (rI h 0 34) h e62) dX11_minor_62 rfl rfl (Nat.le_of_ble_eq_true rfl) (by decide) (by decide)) (fun r62 => ?_)
        refine v_lmul hB dX11_minor_65 ?_
        refine v_aload_n hB 0 dX11_minor_66 rfl rfl ?_
        refine v_iload_n hB 3 dX11_minor_67 rfl rfl ?_
        refine v_aload_n hB 0 dX11_minor_68 rfl rfl ?_
        refine v_getI hB hK (fl_X11_324 g) (cMI_0_32 g) dX11_minor_69 ?_
        refine v_bRj (fun r72 e72 => v_callV hB hK hR.rm [.int p3, .int (rI h 0 32)] [.long (r47 * r62)] (oM_0 g) lb_X11_at lv_X11_322 (c_X11_at g hK.A X.1.2.1 p3 (rI h 0 32) h e72) dX11_minor_72 rfl rfl (Nat.le_of_ble_eq_true rfl) (by decide) (by decide)) (fun r72 => ?_)
        refine v_aload_n hB 0 dX11_minor_75 rfl rfl ?_
        refine v_iload_n hB 2 dX11_minor_76 rfl rfl ?_
        refine v_iload hB 4 dX11_minor_77 rfl ?_
        refine v_aload_n hB 0 dX11_minor_79 rfl rfl ?_
        refine v_getI hB hK (fl_X11_327 g) (cMI_0_33 g) dX11_minor_80 ?_
        refine v_aload_n hB 0 dX11_minor_83 rfl rfl ?_
        refine v_getI hB hK (fl_X11_333 g) (cMI_0_34 g) dX11_minor_84 ?_
        refine v_bRj (fun r87 e87 => v_callV hB hK hR.rm [.int p2, .int p4, .int (rI h 0 33), .int (rI h 0 34)] [.long r72, .long (r47 * r62)] (oM_0 g) lb_X11_two lv_X11_330 (c_X11_two g hK.A X.1.2.1 p2 p4 (rI h 0 33) (rI h 0 34) h e87) dX11_minor_87 rfl rfl (Nat.le_of_ble_eq_true rfl) (by decide) (by decide)) (fun r87 => ?_)
        refine v_lmul hB dX11_minor_90 ?_
        refine v_lsub hB dX11_minor_91 ?_
        refine v_aload_n hB 0 dX11_minor_92 rfl rfl ?_
        refine v_iload hB 4 dX11_minor_93 rfl ?_
        refine v_aload_n hB 0 dX11_minor_95 rfl rfl ?_
        refine v_getI hB hK (fl_X11_324 g) (cMI_0_32 g) dX11_minor_96 ?_
        refine v_bRj (fun r99 e99 => v_callV hB hK hR.rm [.int p4, .int (rI h 0 32)] [.long ((r47 * r62) - (r72 * r87))] (oM_0 g) lb_X11_at lv_X11_322 (c_X11_at g hK.A X.1.2.1 p4 (rI h 0 32) h e99) dX11_minor_99 rfl rfl (Nat.le_of_ble_eq_true rfl) (by decide) (by decide)) (fun r99 => ?_)
        refine v_aload_n hB 0 dX11_minor_102 rfl rfl ?_
        refine v_iload_n hB 2 dX11_minor_103 rfl rfl ?_
        refine v_iload_n hB 3 dX11_minor_104 rfl rfl ?_
        refine v_aload_n hB 0 dX11_minor_105 rfl rfl ?_
        refine v_getI hB hK (fl_X11_327 g) (cMI_0_33 g) dX11_minor_106 ?_
        refine v_aload_n hB 0 dX11_minor_109 rfl rfl ?_
        refine v_getI hB hK (fl_X11_333 g) (cMI_0_34 g) dX11_minor_110 ?_
        refine v_bRj (fun r113 e113 => v_callV hB hK hR.rm [.int p2, .int p3, .int (rI h 0 33), .int (rI h 0 34)] [.long r99, .long ((r47 * r62) - (r72 * r87))] (oM_0 g) lb_X11_two lv_X11_330 (c_X11_two g hK.A X.1.2.1 p2 p3 (rI h 0 33) (rI h 0 34) h e113) dX11_minor_113 rfl rfl (Nat.le_of_ble_eq_true rfl) (by decide) (by decide)) (fun r113 => ?_)
        refine v_lmul hB dX11_minor_116 ?_
        refine v_ladd hB dX11_minor_117 ?_
        exact v_retRj (x := ((r47 * r62) - (r72 * r87)) + (r99 * r113)) hB hK hR dX11_minor_118
      · refine v_aload_n hB 0 dX11_minor_26 rfl rfl ?_
        refine v_iload_n hB 2 dX11_minor_27 rfl rfl ?_
        refine v_iload_n hB 3 dX11_minor_28 rfl rfl ?_
        refine v_aload_n hB 0 dX11_minor_29 rfl rfl ?_
        refine v_getI hB hK (fl_X11_324 g) (cMI_0_32 g) dX11_minor_30 ?_
        refine v_aload_n hB 0 dX11_minor_33 rfl rfl ?_
        refine v_getI hB hK (fl_X11_327 g) (cMI_0_33 g) dX11_minor_34 ?_
        refine v_bRj (fun r37 e37 => v_callV hB hK hR.rm [.int p2, .int p3, .int (rI h 0 32), .int (rI h 0 33)] [] (oM_0 g) lb_X11_two lv_X11_330 (c_X11_two g hK.A X.1.2.1 p2 p3 (rI h 0 32) (rI h 0 33) h e37) dX11_minor_37 rfl rfl (Nat.le_of_ble_eq_true rfl) (by decide) (by decide)) (fun r37 => ?_)
        exact v_retRj (x := r37) hB hK hR dX11_minor_40
    · refine v_aload_n hB 0 dX11_minor_11 rfl rfl ?_
      refine v_iload_n hB 2 dX11_minor_12 rfl rfl ?_
      refine v_aload_n hB 0 dX11_minor_13 rfl rfl ?_
      refine v_getI hB hK (fl_X11_324 g) (cMI_0_32 g) dX11_minor_14 ?_
      refine v_bRj (fun r17 e17 => v_callV hB hK hR.rm [.int p2, .int (rI h 0 32)] [] (oM_0 g) lb_X11_at lv_X11_322 (c_X11_at g hK.A X.1.2.1 p2 (rI h 0 32) h e17) dX11_minor_17 rfl rfl (Nat.le_of_ble_eq_true rfl) (by decide) (by decide)) (fun r17 => ?_)
      exact v_retRj (x := r17) hB hK hR dX11_minor_20
  · refine v_lconst hB 1 dX11_minor_4 (by decide) ?_
    exact v_retRj (x := 1) hB hK hR dX11_minor_5

