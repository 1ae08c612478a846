def f_X11_findsRows_j106 (w5 : pq_H → Option (Bool × pq_H)) (h : pq_H) : Option (Bool × pq_H) :=
  w5 (wI h 0 32 ((rI h 0 32) + 1))
def f_X11_findsRows_j93 (w5 : pq_H → Option (Bool × pq_H)) (w19 : pq_H → Option (Bool × pq_H)) (h : pq_H) : Option (Bool × pq_H) :=
  w19 (wI h 0 33 ((rI h 0 33) + 1))
def f_X11_findsRows_j61 (p1 : Int32) (p2 : Int32) (p3 : Int32) (p4 : Int32) (w5 : pq_H → Option (Bool × pq_H)) (w19 : pq_H → Option (Bool × pq_H)) (w44 : pq_H → Option (Bool × pq_H)) (s0 : Int32) (s1 : Int32) (h : pq_H) : Option (Bool × pq_H) :=
  if s1 ≤ s0 then (f_X11_findsRows_j93 w5 w19 h) else ((f_X11_minor p1 p2 p3 p4 h).bind fun r70 => if r70 = 0 then (w44 (wI h 0 34 ((rI h 0 34) + 1))) else (some (true, h)))
def f_X11_findsRows_l44 (p1 : Int32) (p2 : Int32) (p3 : Int32) (p4 : Int32) (w5 : pq_H → Option (Bool × pq_H)) (w19 : pq_H → Option (Bool × pq_H)) (w44 : pq_H → Option (Bool × pq_H)) (h : pq_H) : Option (Bool × pq_H) :=
  if p1 ≤ 2 then (f_X11_findsRows_j61 p1 p2 p3 p4 w5 w19 w44 (rI h 0 34) 1 h) else (f_X11_findsRows_j61 p1 p2 p3 p4 w5 w19 w44 (rI h 0 34) (rI h 0 33) h)
def f_X11_findsRows_j36 (p1 : Int32) (p2 : Int32) (p3 : Int32) (p4 : Int32) (w5 : pq_H → Option (Bool × pq_H)) (w19 : pq_H → Option (Bool × pq_H)) (s0 : Int32) (s1 : Int32) (h : pq_H) : Option (Bool × pq_H) :=
  if s1 ≤ s0 then (f_X11_findsRows_j106 w5 h) else (lp (fun _ => none) (f_X11_findsRows_l44 p1 p2 p3 p4 w5 w19) 1000 (wI h 0 34 0))
def f_X11_findsRows_l19 (p1 : Int32) (p2 : Int32) (p3 : Int32) (p4 : Int32) (w5 : pq_H → Option (Bool × pq_H)) (w19 : pq_H → Option (Bool × pq_H)) (h : pq_H) : Option (Bool × pq_H) :=
  if p1 ≤ 1 then (f_X11_findsRows_j36 p1 p2 p3 p4 w5 w19 (rI h 0 33) 1 h) else (f_X11_findsRows_j36 p1 p2 p3 p4 w5 w19 (rI h 0 33) (rI h 0 32) h)
def f_X11_findsRows_l5 (p1 : Int32) (p2 : Int32) (p3 : Int32) (p4 : Int32) (w5 : pq_H → Option (Bool × pq_H)) (h : pq_H) : Option (Bool × pq_H) :=
  if 28 ≤ (rI h 0 32) then (some (false, h)) else (lp (fun _ => none) (f_X11_findsRows_l19 p1 p2 p3 p4 w5) 1000 (wI h 0 33 0))
def f_X11_findsRows (p1 : Int32) (p2 : Int32) (p3 : Int32) (p4 : Int32) (h : pq_H) : Option (Bool × pq_H) :=
  lp (fun _ => none) (f_X11_findsRows_l5 p1 p2 p3 p4) 1000 (wI h 0 32 0)
set_option maxRecDepth 100000 in
set_option maxHeartbeats 4000000 in
theorem c_X11_findsRows (g : pq_g) {A : Nat → Prop} (hA : pq_A (SM g) A) (l : Launch) (p1 : Int32) (p2 : Int32) (p3 : Int32) (p4 : Int32) (h : pq_H) {rr : Bool} {hh : pq_H} (e : f_X11_findsRows p1 p2 p3 p4 h = some (rr, hh)) : pq_M (SM g) A l yX11_findsRows cX11_findsRows 5 (some .boolean) 3 70 [.ref ((SM g).1.2.1 0), .int p1, .int p2, .int p3, .int p4] h (some (.int (b2i rr))) hh := by
  refine pq_met hA l (own := RX11) 3 70 _ [(0, .ref ((SM g).1.2.1 0)), (1, .int p1), (2, .int p2), (3, .int p3), (4, .int p4)] h _ hh (by decide +kernel) rfl (Nat.le_of_ble_eq_true rfl) rfl (fun X hXl hXA hB hK hR => ?_)
  refine V.cast (F' := f_X11_findsRows p1 p2 p3 p4 h) (res' := (rr, hh)) (fun _ => e) ?_
  have hn5 : ∀ (n : Nat), ∀ (h : pq_H), V X (SM g) (rr, hh) 5 5 [(0, .ref ((SM g).1.2.1 0)), (1, .int p1), (2, .int p2), (3, .int p3), (4, .int p4)] [] h (lp (fun _ => none) (f_X11_findsRows_l5 p1 p2 p3 p4) n h) := by
    refine lp_ind (fun (w5 : pq_H → Option (Bool × pq_H)) => ∀ (h : pq_H), V X (SM g) (rr, hh) 5 5 [(0, .ref ((SM g).1.2.1 0)), (1, .int p1), (2, .int p2), (3, .int p3), (4, .int p4)] [] h (w5 h)) (fun _ => V.none _ _ _ _) (fun w5 ih5 => ?_)
    have hn106 : ∀ (h : pq_H), V X (SM g) (rr, hh) 5 106 [(0, .ref ((SM g).1.2.1 0)), (1, .int p1), (2, .int p2), (3, .int p3), (4, .int p4)] [] h (f_X11_findsRows_j106 w5 h) := by
      intro h
      unfold f_X11_findsRows_j106
      refine v_aload_n hB 0 dX11_findsRows_106 rfl rfl ?_
      refine v_dup hB dX11_findsRows_107 rfl ?_
      refine v_getI hB hK (fl_X11_324 g) (cMI_0_32 g) dX11_findsRows_108 ?_
      refine v_iconst hB 1 dX11_findsRows_111 (by decide) ?_
      refine v_iadd hB dX11_findsRows_112 ?_
      refine v_putI hB hK (fl_X11_324 g) (fin_X11_32 g) (cMI_0_32 g) dX11_findsRows_113 ?_
      refine v_goto (tgt := 5) hB dX11_findsRows_116 rfl ?_
      exact V.sub [0, 1, 2, 3, 4] rfl (ih5 (wI h 0 32 ((rI h 0 32) + 1)))
    have hn19 : ∀ (n : Nat), ∀ (h : pq_H), V X (SM g) (rr, hh) 5 19 [(0, .ref ((SM g).1.2.1 0)), (1, .int p1), (2, .int p2), (3, .int p3), (4, .int p4)] [] h (lp (fun _ => none) (f_X11_findsRows_l19 p1 p2 p3 p4 w5) n h) := by
      refine lp_ind (fun (w19 : pq_H → Option (Bool × pq_H)) => ∀ (h : pq_H), V X (SM g) (rr, hh) 5 19 [(0, .ref ((SM g).1.2.1 0)), (1, .int p1), (2, .int p2), (3, .int p3), (4, .int p4)] [] h (w19 h)) (fun _ => V.none _ _ _ _) (fun w19 ih19 => ?_)
      have hn93 : ∀ (h : pq_H), V X (SM g) (rr, hh) 5 93 [(0, .ref ((SM g).1.2.1 0)), (1, .int p1), (2, .int p2), (3, .int p3), (4, .int p4)] [] h (f_X11_findsRows_j93 w5 w19 h) := by
        intro h
        unfold f_X11_findsRows_j93
        refine v_aload_n hB 0 dX11_findsRows_93 rfl rfl ?_
        refine v_dup hB dX11_findsRows_94 rfl ?_
        refine v_getI hB hK (fl_X11_327 g) (cMI_0_33 g) dX11_findsRows_95 ?_
        refine v_iconst hB 1 dX11_findsRows_98 (by decide) ?_
        refine v_iadd hB dX11_findsRows_99 ?_
        refine v_putI hB hK (fl_X11_327 g) (fin_X11_33 g) (cMI_0_33 g) dX11_findsRows_100 ?_
        refine v_goto (tgt := 19) hB dX11_findsRows_103 rfl ?_
        exact V.sub [0, 1, 2, 3, 4] rfl (ih19 (wI h 0 33 ((rI h 0 33) + 1)))
      have hn44 : ∀ (n : Nat), ∀ (h : pq_H), V X (SM g) (rr, hh) 5 44 [(0, .ref ((SM g).1.2.1 0)), (1, .int p1), (2, .int p2), (3, .int p3), (4, .int p4)] [] h (lp (fun _ => none) (f_X11_findsRows_l44 p1 p2 p3 p4 w5 w19) n h) := by
        refine lp_ind (fun (w44 : pq_H → Option (Bool × pq_H)) => ∀ (h : pq_H), V X (SM g) (rr, hh) 5 44 [(0, .ref ((SM g).1.2.1 0)), (1, .int p1), (2, .int p2), (3, .int p3), (4, .int p4)] [] h (w44 h)) (fun _ => V.none _ _ _ _) (fun w44 ih44 => ?_)
        have hn61 : ∀ (s0 : Int32) (s1 : Int32) (h : pq_H), V X (SM g) (rr, hh) 5 61 [(0, .ref ((SM g).1.2.1 0)), (1, .int p1), (2, .int p2), (3, .int p3), (4, .int p4)] [.int s1, .int s0] h (f_X11_findsRows_j61 p1 p2 p3 p4 w5 w19 w44 s0 s1 h) := by
          intro s0 s1 h
          unfold f_X11_findsRows_j61
          refine v_icmp_ge (tgt := 93) hB dX11_findsRows_61 rfl ?_ ?_
          · exact V.sub [0, 1, 2, 3, 4] rfl (hn93 h)
          · refine v_aload_n hB 0 dX11_findsRows_64 rfl rfl ?_
            refine v_iload_n hB 1 dX11_findsRows_65 rfl rfl ?_
            refine v_iload_n hB 2 dX11_findsRows_66 rfl rfl ?_
            refine v_iload_n hB 3 dX11_findsRows_67 rfl rfl ?_
            refine v_iload hB 4 dX11_findsRows_68 rfl ?_
            refine v_bRj (fun r70 e70 => v_callV hB hK hR.rm [.int p1, .int p2, .int p3, .int p4] [] (oM_0 g) lb_X11_minor lv_X11_336 (c_X11_minor g hK.A X.1.2.1 p1 p2 p3 p4 h e70) dX11_findsRows_70 rfl rfl (Nat.le_of_ble_eq_true rfl) (by decide) (by decide)) (fun r70 => ?_)
            refine v_lconst hB 0 dX11_findsRows_73 (by decide) ?_
            refine v_lcmp_eq (tgt := 80) hB dX11_findsRows_74 dX11_findsRows_75 rfl ?_ ?_
            · refine v_aload_n hB 0 dX11_findsRows_80 rfl rfl ?_
              refine v_dup hB dX11_findsRows_81 rfl ?_
              refine v_getI hB hK (fl_X11_333 g) (cMI_0_34 g) dX11_findsRows_82 ?_
              refine v_iconst hB 1 dX11_findsRows_85 (by decide) ?_
              refine v_iadd hB dX11_findsRows_86 ?_
              refine v_putI hB hK (fl_X11_333 g) (fin_X11_34 g) (cMI_0_34 g) dX11_findsRows_87 ?_
              refine v_goto (tgt := 44) hB dX11_findsRows_90 rfl ?_
              exact V.sub [0, 1, 2, 3, 4] rfl (ih44 (wI h 0 34 ((rI h 0 34) + 1)))
            · refine v_iconst hB 1 dX11_findsRows_78 (by decide) ?_
              exact v_retWz (x := true) hB hK hR dX11_findsRows_79
        intro h
        unfold f_X11_findsRows_l44
        refine v_aload_n hB 0 dX11_findsRows_44 rfl rfl ?_
        refine v_getI hB hK (fl_X11_333 g) (cMI_0_34 g) dX11_findsRows_45 ?_
        refine v_iload_n hB 1 dX11_findsRows_48 rfl rfl ?_
        refine v_iconst hB 2 dX11_findsRows_49 (by decide) ?_
        refine v_icmp_le (tgt := 60) hB dX11_findsRows_50 rfl ?_ ?_
        · refine v_iconst hB 1 dX11_findsRows_60 (by decide) ?_
          exact V.sub [0, 1, 2, 3, 4] rfl (hn61 (rI h 0 34) 1 h)
        · refine v_aload_n hB 0 dX11_findsRows_53 rfl rfl ?_
          refine v_getI hB hK (fl_X11_327 g) (cMI_0_33 g) dX11_findsRows_54 ?_
          refine v_goto (tgt := 61) hB dX11_findsRows_57 rfl ?_
          exact V.sub [0, 1, 2, 3, 4] rfl (hn61 (rI h 0 34) (rI h 0 33) h)
      have hn36 : ∀ (s0 : Int32) (s1 : Int32) (h : pq_H), V X (SM g) (rr, hh) 5 36 [(0, .ref ((SM g).1.2.1 0)), (1, .int p1), (2, .int p2), (3, .int p3), (4, .int p4)] [.int s1, .int s0] h (f_X11_findsRows_j36 p1 p2 p3 p4 w5 w19 s0 s1 h) := by
        intro s0 s1 h
        unfold f_X11_findsRows_j36
        refine v_icmp_ge (tgt := 106) hB dX11_findsRows_36 rfl ?_ ?_
        · exact V.sub [0, 1, 2, 3, 4] rfl (hn106 h)
        · refine v_aload_n hB 0 dX11_findsRows_39 rfl rfl ?_
          refine v_iconst hB 0 dX11_findsRows_40 (by decide) ?_
          refine v_putI hB hK (fl_X11_333 g) (fin_X11_34 g) (cMI_0_34 g) dX11_findsRows_41 ?_
          exact V.sub [0, 1, 2, 3, 4] rfl (hn44 1000 (wI h 0 34 0))
      intro h
      unfold f_X11_findsRows_l19
      refine v_aload_n hB 0 dX11_findsRows_19 rfl rfl ?_
      refine v_getI hB hK (fl_X11_327 g) (cMI_0_33 g) dX11_findsRows_20 ?_
      refine v_iload_n hB 1 dX11_findsRows_23 rfl rfl ?_
      refine v_iconst hB 1 dX11_findsRows_24 (by decide) ?_
      refine v_icmp_le (tgt := 35) hB dX11_findsRows_25 rfl ?_ ?_
      · refine v_iconst hB 1 dX11_findsRows_35 (by decide) ?_
        exact V.sub [0, 1, 2, 3, 4] rfl (hn36 (rI h 0 33) 1 h)
      · refine v_aload_n hB 0 dX11_findsRows_28 rfl rfl ?_
        refine v_getI hB hK (fl_X11_324 g) (cMI_0_32 g) dX11_findsRows_29 ?_
        refine v_goto (tgt := 36) hB dX11_findsRows_32 rfl ?_
        exact V.sub [0, 1, 2, 3, 4] rfl (hn36 (rI h 0 33) (rI h 0 32) h)
    intro h
    unfold f_X11_findsRows_l5
    refine v_aload_n hB 0 dX11_findsRows_5 rfl rfl ?_
    refine v_getI hB hK (fl_X11_324 g) (cMI_0_32 g) dX11_findsRows_6 ?_
    refine v_bipush hB 28 dX11_findsRows_9 (by decide) ?_
    refine v_icmp_ge (tgt := 119) hB dX11_findsRows_11 rfl ?_ ?_
    · refine v_iconst hB 0 dX11_findsRows_119 (by decide) ?_
      exact v_retWz (x := false) hB hK hR dX11_findsRows_120
    · refine v_aload_n hB 0 dX11_findsRows_14 rfl rfl ?_
      refine v_iconst hB 0 dX11_findsRows_15 (by decide) ?_
      refine v_putI hB hK (fl_X11_327 g) (fin_X11_33 g) (cMI_0_33 g) dX11_findsRows_16 ?_
      exact V.sub [0, 1, 2, 3, 4] rfl (hn19 1000 (wI h 0 33 0))
  unfold f_X11_findsRows
  refine v_aload_n hB 0 dX11_findsRows_0 rfl rfl ?_
  refine v_iconst hB 0 dX11_findsRows_1 (by decide) ?_
  refine v_putI hB hK (fl_X11_324 g) (fin_X11_32 g) (cMI_0_32 g) dX11_findsRows_2 ?_
  exact V.sub [0, 1, 2, 3, 4] rfl (hn5 1000 (wI h 0 32 0))

def f_X11_isNew_j45 (s1 : Int32) (s2 : Int32) (s3 : Int32) (s4 : Int32) (h : pq_H) : Option (Bool × pq_H) :=
  bd2 (f_X11_findsRows s1 s2 s3 s4 h) fun r45 h45 => some (r45, h45)
def f_X11_isNew_j32 (s1 : Int32) (s2 : Int32) (s3 : Int32) (h : pq_H) : Option (Bool × pq_H) :=
  if (rI h 0 31) = 2 then (f_X11_isNew_j45 s1 s2 s3 3 h) else (f_X11_isNew_j45 s1 s2 s3 2 h)
def f_X11_isNew_j19 (s1 : Int32) (s2 : Int32) (h : pq_H) : Option (Bool × pq_H) :=
  if (rI h 0 31) = 1 then (f_X11_isNew_j32 s1 s2 3 h) else (f_X11_isNew_j32 s1 s2 1 h)
def f_X11_isNew (h : pq_H) : Option (Bool × pq_H) :=
  if (rI h 0 31) = 0 then (f_X11_isNew_j19 ((rI h 0 31) + 1) 3 h) else (f_X11_isNew_j19 ((rI h 0 31) + 1) 0 h)
set_option maxRecDepth 100000 in
set_option maxHeartbeats 4000000 in
theorem c_X11_isNew (g : pq_g) {A : Nat → Prop} (hA : pq_A (SM g) A) (l : Launch) (h : pq_H) {rr : Bool} {hh : pq_H} (e : f_X11_isNew h = some (rr, hh)) : pq_M (SM g) A l yX11_isNew cX11_isNew 1 (some .boolean) 4 94 [.ref ((SM g).1.2.1 0)] h (some (.int (b2i rr))) hh := by
  refine pq_met hA l (own := RX11) 4 94 _ [(0, .ref ((SM g).1.2.1 0))] h _ hh (by decide +kernel) rfl (Nat.le_of_ble_eq_true rfl) rfl (fun X hXl hXA hB hK hR => ?_)
  refine V.cast (F' := f_X11_isNew h) (res' := (rr, hh)) (fun _ => e) ?_
  have hn45 : ∀ (s1 : Int32) (s2 : Int32) (s3 : Int32) (s4 : Int32) (h : pq_H), V X (SM g) (rr, hh) 1 45 [] [.int s4, .int s3, .int s2, .int s1, .ref ((SM g).1.2.1 0)] h (f_X11_isNew_j45 s1 s2 s3 s4 h) := by
    intro s1 s2 s3 s4 h
    unfold f_X11_isNew_j45
    refine v_bWz (fun r45 h45 e45 => v_callV hB hK hR.rm [.int s1, .int s2, .int s3, .int s4] [] (oM_0 g) lb_X11_findsRows lv_X11_342 (c_X11_findsRows g hK.A X.1.2.1 s1 s2 s3 s4 h e45) dX11_isNew_45 rfl rfl (Nat.le_of_ble_eq_true rfl) (by decide) (by decide)) (fun r45 h45 => ?_)
    exact v_retWz (x := r45) hB hK hR dX11_isNew_48
  have hn32 : ∀ (s1 : Int32) (s2 : Int32) (s3 : Int32) (h : pq_H), V X (SM g) (rr, hh) 1 32 [(0, .ref ((SM g).1.2.1 0))] [.int s3, .int s2, .int s1, .ref ((SM g).1.2.1 0)] h (f_X11_isNew_j32 s1 s2 s3 h) := by
    intro s1 s2 s3 h
    unfold f_X11_isNew_j32
    refine v_aload_n hB 0 dX11_isNew_32 rfl rfl ?_
    refine v_getI hB hK (fl_X11_339 g) (cMI_0_31 g) dX11_isNew_33 ?_
    refine v_iconst hB 2 dX11_isNew_36 (by decide) ?_
    refine v_icmp_ne (tgt := 44) hB dX11_isNew_37 rfl ?_ ?_
    · refine v_iconst hB 2 dX11_isNew_44 (by decide) ?_
      exact V.sub [] rfl (hn45 s1 s2 s3 2 h)
    · refine v_iconst hB 3 dX11_isNew_40 (by decide) ?_
      refine v_goto (tgt := 45) hB dX11_isNew_41 rfl ?_
      exact V.sub [] rfl (hn45 s1 s2 s3 3 h)
  have hn19 : ∀ (s1 : Int32) (s2 : Int32) (h : pq_H), V X (SM g) (rr, hh) 1 19 [(0, .ref ((SM g).1.2.1 0))] [.int s2, .int s1, .ref ((SM g).1.2.1 0)] h (f_X11_isNew_j19 s1 s2 h) := by
    intro s1 s2 h
    unfold f_X11_isNew_j19
    refine v_aload_n hB 0 dX11_isNew_19 rfl rfl ?_
    refine v_getI hB hK (fl_X11_339 g) (cMI_0_31 g) dX11_isNew_20 ?_
    refine v_iconst hB 1 dX11_isNew_23 (by decide) ?_
    refine v_icmp_ne (tgt := 31) hB dX11_isNew_24 rfl ?_ ?_
    · refine v_iconst hB 1 dX11_isNew_31 (by decide) ?_
      exact V.sub [0] rfl (hn32 s1 s2 1 h)
    · refine v_iconst hB 3 dX11_isNew_27 (by decide) ?_
      refine v_goto (tgt := 32) hB dX11_isNew_28 rfl ?_
      exact V.sub [0] rfl (hn32 s1 s2 3 h)
  unfold f_X11_isNew
  refine v_aload_n hB 0 dX11_isNew_0 rfl rfl ?_
  refine v_aload_n hB 0 dX11_isNew_1 rfl rfl ?_
  refine v_getI hB hK (fl_X11_339 g) (cMI_0_31 g) dX11_isNew_2 ?_
  refine v_iconst hB 1 dX11_isNew_5 (by decide) ?_
  refine v_iadd hB dX11_isNew_6 ?_
  refine v_aload_n hB 0 dX11_isNew_7 rfl rfl ?_
  refine v_getI hB hK (fl_X11_339 g) (cMI_0_31 g) dX11_isNew_8 ?_
  refine v_if_ne (tgt := 18) hB dX11_isNew_11 rfl ?_ ?_
  · refine v_iconst hB 0 dX11_isNew_18 (by decide) ?_
    exact V.sub [0] rfl (hn19 ((rI h 0 31) + 1) 0 h)
  · refine v_iconst hB 3 dX11_isNew_14 (by decide) ?_
    refine v_goto (tgt := 19) hB dX11_isNew_15 rfl ?_
    exact V.sub [0] rfl (hn19 ((rI h 0 31) + 1) 3 h)

def f_X11_fillsColumns_j71 (w7 : Int32 → pq_H → Option pq_H) (v2 : Int32) (h : pq_H) : Option pq_H :=
  w7 (v2 + 1) h
def f_X11_fillsColumns_l7 (p1 : Int32) (w7 : Int32 → pq_H → Option pq_H) (v2 : Int32) (h : pq_H) : Option pq_H :=
  if (rI h 0 5) ≤ v2 then (some h) else (if ((p1 >>> (v2 &&& 31)) &&& 1) = 0 then (f_X11_fillsColumns_j71 w7 v2 h) else ((f_X11_laysColumn 3 v2 h).bind fun h29 => bd2 (f_X11_isNew h29) fun r33 h33 => if r33 = true then ((f_X11_laysColumn (rI h33 0 31) v2 h33).bind fun h48 => gd (inb (rI h48 0 31) 3) (hl (wI h48 18 (rI h48 0 31).toNatClampNeg v2) fun h60 => f_X11_fillsColumns_j71 w7 v2 (wI h60 0 31 ((rI h60 0 31) + 1)))) else (f_X11_fillsColumns_j71 w7 v2 h33)))
def f_X11_fillsColumns (p1 : Int32) (h : pq_H) : Option pq_H :=
  hl (wI h 0 31 0) fun h2 => lp (fun _ _ => none) (f_X11_fillsColumns_l7 p1) 1000 0 h2
set_option maxRecDepth 100000 in
set_option maxHeartbeats 4000000 in
theorem c_X11_fillsColumns (g : pq_g) {A : Nat → Prop} (hA : pq_A (SM g) A) (l : Launch) (p1 : Int32) (h : pq_H) {hh : pq_H} (e : f_X11_fillsColumns p1 h = some hh) : pq_M (SM g) A l yX11_fillsColumns cX11_fillsColumns 3 none 5 114 [.ref ((SM g).1.2.1 0), .int p1] h none hh := by
  refine pq_met hA l (own := RX11) 5 114 _ [(0, .ref ((SM g).1.2.1 0)), (1, .int p1)] h _ hh (by decide +kernel) rfl (Nat.le_of_ble_eq_true rfl) rfl (fun X hXl hXA hB hK hR => ?_)
  refine V.cast (F' := f_X11_fillsColumns p1 h) (res' := hh) (fun _ => e) ?_
  have hn7 : ∀ (n : Nat), ∀ (v2 : Int32) (h : pq_H), V X (SM g) hh 3 7 [(0, .ref ((SM g).1.2.1 0)), (1, .int p1), (2, .int v2)] [] h (lp (fun _ _ => none) (f_X11_fillsColumns_l7 p1) n v2 h) := by
    refine lp_ind (fun (w7 : Int32 → pq_H → Option pq_H) => ∀ (v2 : Int32) (h : pq_H), V X (SM g) hh 3 7 [(0, .ref ((SM g).1.2.1 0)), (1, .int p1), (2, .int v2)] [] h (w7 v2 h)) (fun _ _ => V.none _ _ _ _) (fun w7 ih7 => ?_)
    have hn71 : ∀ (v2 : Int32) (h : pq_H), V X (SM g) hh 3 71 [(0, .ref ((SM g).1.2.1 0)), (1, .int p1), (2, .int v2)] [] h (f_X11_fillsColumns_j71 w7 v2 h) := by
      intro v2 h
      unfold f_X11_fillsColumns_j71
      refine v_iinc hB (v2 + 1) [(0, .ref ((SM g).1.2.1 0)), (1, .int p1), (2, .int (v2 + 1))] 2 [1, 2, 0] dX11_fillsColumns_71 rfl rfl (by decide) rfl ?_
      refine v_goto (tgt := 7) hB dX11_fillsColumns_74 rfl ?_
      exact V.sub [0, 1, 2] rfl (ih7 (v2 + 1) h)
    intro v2 h
    unfold f_X11_fillsColumns_l7
    refine v_iload_n hB 2 dX11_fillsColumns_7 rfl rfl ?_
    refine v_aload_n hB 0 dX11_fillsColumns_8 rfl rfl ?_
    refine v_getI hB hK (fl_X11_95 g) (cMI_0_5 g) dX11_fillsColumns_9 ?_
    refine v_icmp_ge (tgt := 77) hB dX11_fillsColumns_12 rfl ?_ ?_
    · exact v_retWv hB hK hR dX11_fillsColumns_77
    · refine v_iload_n hB 1 dX11_fillsColumns_15 rfl rfl ?_
      refine v_iload_n hB 2 dX11_fillsColumns_16 rfl rfl ?_
      refine v_ishr hB dX11_fillsColumns_17 ?_
      refine v_iconst hB 1 dX11_fillsColumns_18 (by decide) ?_
      refine v_iand hB dX11_fillsColumns_19 ?_
      refine v_if_ne (tgt := 26) hB dX11_fillsColumns_20 rfl ?_ ?_
      · refine v_aload_n hB 0 dX11_fillsColumns_26 rfl rfl ?_
        refine v_iconst hB 3 dX11_fillsColumns_27 (by decide) ?_
        refine v_iload_n hB 2 dX11_fillsColumns_28 rfl rfl ?_
        refine v_bV (fun h29 e29 => v_callV hB hK hR.rm [.int 3, .int v2] [] (oM_0 g) lb_X11_laysColumn lv_X11_346 (c_X11_laysColumn g hK.A X.1.2.1 3 v2 h e29) dX11_fillsColumns_29 rfl rfl (Nat.le_of_ble_eq_true rfl) (by decide) (by decide)) (fun h29 => ?_)
        refine v_aload_n hB 0 dX11_fillsColumns_32 rfl rfl ?_
        refine v_bWz (fun r33 h33 e33 => v_callV hB hK hR.rm [] [] (oM_0 g) lb_X11_isNew lv_X11_349 (c_X11_isNew g hK.A X.1.2.1 h29 e33) dX11_fillsColumns_33 rfl rfl (Nat.le_of_ble_eq_true rfl) (by decide) (by decide)) (fun r33 h33 => ?_)
        refine v_ifz_ne (r := r33) (tgt := 42) hB dX11_fillsColumns_36 rfl ?_ ?_
        · refine v_aload_n hB 0 dX11_fillsColumns_42 rfl rfl ?_
          refine v_aload_n hB 0 dX11_fillsColumns_43 rfl rfl ?_
          refine v_getI hB hK (fl_X11_339 g) (cMI_0_31 g) dX11_fillsColumns_44 ?_
          refine v_iload_n hB 2 dX11_fillsColumns_47 rfl rfl ?_
          refine v_bV (fun h48 e48 => v_callV hB hK hR.rm [.int (rI h33 0 31), .int v2] [] (oM_0 g) lb_X11_laysColumn lv_X11_346 (c_X11_laysColumn g hK.A X.1.2.1 (rI h33 0 31) v2 h33 e48) dX11_fillsColumns_48 rfl rfl (Nat.le_of_ble_eq_true rfl) (by decide) (by decide)) (fun h48 => ?_)
          refine v_aload_n hB 0 dX11_fillsColumns_51 rfl rfl ?_
          refine v_getA hB hK (fl_X11_76 g) (cMA_0_30 g) dX11_fillsColumns_52 ?_
          refine v_aload_n hB 0 dX11_fillsColumns_55 rfl rfl ?_
          refine v_getI hB hK (fl_X11_339 g) (cMI_0_31 g) dX11_fillsColumns_56 ?_
          refine v_iload_n hB 2 dX11_fillsColumns_59 rfl rfl ?_
          refine v_iast hB hK (aMI_18 g) dX11_fillsColumns_60 ?_
          refine v_hl (fun h60 => ?_)
          refine v_aload_n hB 0 dX11_fillsColumns_61 rfl rfl ?_
          refine v_dup hB dX11_fillsColumns_62 rfl ?_
          refine v_getI hB hK (fl_X11_339 g) (cMI_0_31 g) dX11_fillsColumns_63 ?_
          refine v_iconst hB 1 dX11_fillsColumns_66 (by decide) ?_
          refine v_iadd hB dX11_fillsColumns_67 ?_
          refine v_putI hB hK (fl_X11_339 g) (fin_X11_31 g) (cMI_0_31 g) dX11_fillsColumns_68 ?_
          exact V.sub [0, 1, 2] rfl (hn71 v2 (wI h60 0 31 ((rI h60 0 31) + 1)))
        · refine v_goto (tgt := 71) hB dX11_fillsColumns_39 rfl ?_
          exact V.sub [0, 1, 2] rfl (hn71 v2 h33)
      · refine v_goto (tgt := 71) hB dX11_fillsColumns_23 rfl ?_
        exact V.sub [0, 1, 2] rfl (hn71 v2 h)
  unfold f_X11_fillsColumns
  refine v_aload_n hB 0 dX11_fillsColumns_0 rfl rfl ?_
  refine v_iconst hB 0 dX11_fillsColumns_1 (by decide) ?_
  refine v_putI hB hK (fl_X11_339 g) (fin_X11_31 g) (cMI_0_31 g) dX11_fillsColumns_2 ?_
  refine v_hl (fun h2 => ?_)
  refine v_iconst hB 0 dX11_fillsColumns_5 (by decide) ?_
  refine v_istore_n hB [(0, .ref ((SM g).1.2.1 0)), (1, .int p1), (2, .int 0)] [1, 2, 0] dX11_fillsColumns_6 rfl (by decide) rfl ?_
  exact V.sub [0, 1, 2] rfl (hn7 1000 0 h2)

def f_X11_upOf_j34 (h : pq_H) (s1 : Int32) (s2 : Int32) (s3 : Int32) (s4 : Int32) : Option Int64 :=
  (f_X11_minor s1 s2 s3 s4 h).bind fun r34 => some r34
def f_X11_upOf_j24 (p1 : Int32) (h : pq_H) (s1 : Int32) (s2 : Int32) (s3 : Int32) : Option Int64 :=
  if p1 = 2 then (f_X11_upOf_j34 h s1 s2 s3 3) else (f_X11_upOf_j34 h s1 s2 s3 2)
def f_X11_upOf_j14 (p1 : Int32) (h : pq_H) (s1 : Int32) (s2 : Int32) : Option Int64 :=
  if p1 = 1 then (f_X11_upOf_j24 p1 h s1 s2 3) else (f_X11_upOf_j24 p1 h s1 s2 1)
def f_X11_upOf (p1 : Int32) (h : pq_H) : Option Int64 :=
  if p1 = 0 then (f_X11_upOf_j14 p1 h (rI h 0 31) 3) else (f_X11_upOf_j14 p1 h (rI h 0 31) 0)
set_option maxRecDepth 100000 in
set_option maxHeartbeats 4000000 in
theorem c_X11_upOf (g : pq_g) {A : Nat → Prop} (hA : pq_A (SM g) A) (l : Launch) (p1 : Int32) (h : pq_H) {rr : Int64} (e : f_X11_upOf p1 h = some rr) : pq_M (SM g) A l yX11_upOf cX11_upOf 2 (some .long) 3 70 [.ref ((SM g).1.2.1 0), .int p1] h (some (.long rr)) h := by
  refine pq_met hA l (own := RX11) 3 70 _ [(0, .ref ((SM g).1.2.1 0)), (1, .int p1)] h _ h (by decide +kernel) rfl (Nat.le_of_ble_eq_true rfl) rfl (fun X hXl hXA hB hK hR => ?_)
  refine V.cast (F' := f_X11_upOf p1 h) (res' := rr) (fun _ => e) ?_
  have hn34 : ∀ (s1 : Int32) (s2 : Int32) (s3 : Int32) (s4 : Int32), V X (SM g) rr 2 34 [] [.int s4, .int s3, .int s2, .int s1, .ref ((SM g).1.2.1 0)] h (f_X11_upOf_j34 h s1 s2 s3 s4) := by
    intro s1 s2 s3 s4
    unfold f_X11_upOf_j34
    refine v_bRj (fun r34 e34 => v_callV hB hK hR.rm [.int s1, .int s2, .int s3, .int s4] [] (oM_0 g) lb_X11_minor lv_X11_336 (c_X11_minor g hK.A X.1.2.1 s1 s2 s3 s4 h e34) dX11_upOf_34 rfl rfl (Nat.le_of_ble_eq_true rfl) (by decide) (by decide)) (fun r34 => ?_)
    exact v_retRj (x := r34) hB hK hR dX11_upOf_37
  have hn24 : ∀ (s1 : Int32) (s2 : Int32) (s3 : Int32), V X (SM g) rr 2 24 [(1, .int p1)] [.int s3, .int s2, .int s1, .ref ((SM g).1.2.1 0)] h (f_X11_upOf_j24 p1 h s1 s2 s3) := by
    intro s1 s2 s3
    unfold f_X11_upOf_j24
    refine v_iload_n hB 0 dX11_upOf_24 rfl rfl ?_
    refine v_iconst hB 2 dX11_upOf_25 (by decide) ?_
    refine v_icmp_ne (tgt := 33) hB dX11_upOf_26 rfl ?_ ?_
    · refine v_iconst hB 2 dX11_upOf_33 (by decide) ?_
      exact V.sub [] rfl (hn34 s1 s2 s3 2)
    · refine v_iconst hB 3 dX11_upOf_29 (by decide) ?_
      refine v_goto (tgt := 34) hB dX11_upOf_30 rfl ?_
      exact V.sub [] rfl (hn34 s1 s2 s3 3)
  have hn14 : ∀ (s1 : Int32) (s2 : Int32), V X (SM g) rr 2 14 [(1, .int p1)] [.int s2, .int s1, .ref ((SM g).1.2.1 0)] h (f_X11_upOf_j14 p1 h s1 s2) := by
    intro s1 s2
    unfold f_X11_upOf_j14
    refine v_iload_n hB 0 dX11_upOf_14 rfl rfl ?_
    refine v_iconst hB 1 dX11_upOf_15 (by decide) ?_
    refine v_icmp_ne (tgt := 23) hB dX11_upOf_16 rfl ?_ ?_
    · refine v_iconst hB 1 dX11_upOf_23 (by decide) ?_
      exact V.sub [0] rfl (hn24 s1 s2 1)
    · refine v_iconst hB 3 dX11_upOf_19 (by decide) ?_
      refine v_goto (tgt := 24) hB dX11_upOf_20 rfl ?_
      exact V.sub [0] rfl (hn24 s1 s2 3)
  unfold f_X11_upOf
  refine v_aload_n hB 0 dX11_upOf_0 rfl rfl ?_
  refine v_aload_n hB 0 dX11_upOf_1 rfl rfl ?_
  refine v_getI hB hK (fl_X11_339 g) (cMI_0_31 g) dX11_upOf_2 ?_
  refine v_iload_n hB 1 dX11_upOf_5 rfl rfl ?_
  refine v_if_ne (tgt := 13) hB dX11_upOf_6 rfl ?_ ?_
  · refine v_iconst hB 0 dX11_upOf_13 (by decide) ?_
    exact V.sub [1] rfl (hn14 (rI h 0 31) 0)
  · refine v_iconst hB 3 dX11_upOf_9 (by decide) ?_
    refine v_goto (tgt := 14) hB dX11_upOf_10 rfl ?_
    exact V.sub [1] rfl (hn14 (rI h 0 31) 3)

def f_X11_isMade_j89 (w17 : Bool → Int32 → Option Bool) (v4 : Int32) (s0 : Bool) : Option Bool :=
  w17 s0 (v4 + 1)
def f_X11_isMade_j69 (v1 : Int64) (h : pq_H) (w17 : Bool → Int32 → Option Bool) (v4 : Int32) (v5 : Int64) : Option Bool :=
  (f_X11_at 3 v4 h).bind fun r76 => if v5 = (v1 * r76) then (f_X11_isMade_j89 w17 v4 true) else (f_X11_isMade_j89 w17 v4 false)
def f_X11_isMade_l34 (v1 : Int64) (h : pq_H) (w17 : Bool → Int32 → Option Bool) (v4 : Int32) (w34 : Int64 → Int32 → Option Bool) (v5 : Int64) (v7 : Int32) : Option Bool :=
  if (rI h 0 31) ≤ v7 then (f_X11_isMade_j69 v1 h w17 v4 v5) else ((f_X11_upOf v7 h).bind fun r48 => (f_X11_at v7 v4 h).bind fun r56 => w34 (v5 + (r48 * r56)) (v7 + 1))
def f_X11_isMade_l17 (h : pq_H) (v1 : Int64) (w17 : Bool → Int32 → Option Bool) (v3 : Bool) (v4 : Int32) : Option Bool :=
  if 28 ≤ v4 then (some v3) else (if v3 = true then (lp (fun _ _ => none) (f_X11_isMade_l34 v1 h w17 v4) 1000 0 0) else (some v3))
def f_X11_isMade (h : pq_H) : Option Bool :=
  (f_X11_minor (rI h 0 31) 0 1 2 h).bind fun r8 => lp (fun _ _ => none) (f_X11_isMade_l17 h r8) 1000 true 0
set_option maxRecDepth 100000 in
set_option maxHeartbeats 4000000 in
theorem c_X11_isMade (g : pq_g) {A : Nat → Prop} (hA : pq_A (SM g) A) (l : Launch) (h : pq_H) {rr : Bool} (e : f_X11_isMade h = some rr) : pq_M (SM g) A l yX11_isMade cX11_isMade 8 (some .boolean) 4 91 [.ref ((SM g).1.2.1 0)] h (some (.int (b2i rr))) h := by
  refine pq_met hA l (own := RX11) 4 91 _ [(0, .ref ((SM g).1.2.1 0))] h _ h (by decide +kernel) rfl (Nat.le_of_ble_eq_true rfl) rfl (fun X hXl hXA hB hK hR => ?_)
  refine V.cast (F' := f_X11_isMade h) (res' := rr) (fun _ => e) ?_
  have hn17 : ∀ (v1 : Int64) (n : Nat), ∀ (v3 : Bool) (v4 : Int32), V X (SM g) rr 8 17 [(0, .ref ((SM g).1.2.1 0)), (1, .long v1), (3, .int (b2i v3)), (4, .int v4)] [] h (lp (fun _ _ => none) (f_X11_isMade_l17 h v1) n v3 v4) := by
    intro v1
    refine lp_ind (fun (w17 : Bool → Int32 → Option Bool) => ∀ (v3 : Bool) (v4 : Int32), V X (SM g) rr 8 17 [(0, .ref ((SM g).1.2.1 0)), (1, .long v1), (3, .int (b2i v3)), (4, .int v4)] [] h (w17 v3 v4)) (fun _ _ => V.none _ _ _ _) (fun w17 ih17 => ?_)
    have hn89 : ∀ (v4 : Int32) (s0 : Bool), V X (SM g) rr 8 89 [(0, .ref ((SM g).1.2.1 0)), (1, .long v1), (4, .int v4)] [.int (b2i s0)] h (f_X11_isMade_j89 w17 v4 s0) := by
      intro v4 s0
      unfold f_X11_isMade_j89
      refine v_istore_n hB [(0, .ref ((SM g).1.2.1 0)), (1, .long v1), (3, .int (b2i s0)), (4, .int v4)] [1, 2, 0, 3] dX11_isMade_89 rfl (by decide) rfl ?_
      refine v_iinc hB (v4 + 1) [(0, .ref ((SM g).1.2.1 0)), (1, .long v1), (3, .int (b2i s0)), (4, .int (v4 + 1))] 3 [1, 2, 3, 0] dX11_isMade_90 rfl rfl (by decide) rfl ?_
      refine v_goto (tgt := 17) hB dX11_isMade_93 rfl ?_
      exact V.sub [0, 1, 2, 3] rfl (ih17 s0 (v4 + 1))
    have hn69 : ∀ (v4 : Int32) (v5 : Int64), V X (SM g) rr 8 69 [(0, .ref ((SM g).1.2.1 0)), (1, .long v1), (4, .int v4), (5, .long v5)] [] h (f_X11_isMade_j69 v1 h w17 v4 v5) := by
      intro v4 v5
      unfold f_X11_isMade_j69
      refine v_lload hB 3 dX11_isMade_69 rfl ?_
      refine v_lload_n hB 1 dX11_isMade_71 rfl rfl ?_
      refine v_aload_n hB 0 dX11_isMade_72 rfl rfl ?_
      refine v_iconst hB 3 dX11_isMade_73 (by decide) ?_
      refine v_iload hB 2 dX11_isMade_74 rfl ?_
      refine v_bRj (fun r76 e76 => v_callV hB hK hR.rm [.int 3, .int v4] [.long v1, .long v5] (oM_0 g) lb_X11_at lv_X11_322 (c_X11_at g hK.A X.1.2.1 3 v4 h e76) dX11_isMade_76 rfl rfl (Nat.le_of_ble_eq_true rfl) (by decide) (by decide)) (fun r76 => ?_)
      refine v_lmul hB dX11_isMade_79 ?_
      refine v_lcmp_ne (tgt := 88) hB dX11_isMade_80 dX11_isMade_81 rfl ?_ ?_
      · refine v_iconst hB 0 dX11_isMade_88 (by decide) ?_
        exact V.sub [0, 1, 2] rfl (hn89 v4 false)
      · refine v_iconst hB 1 dX11_isMade_84 (by decide) ?_
        refine v_goto (tgt := 89) hB dX11_isMade_85 rfl ?_
        exact V.sub [0, 1, 2] rfl (hn89 v4 true)
    have hn34 : ∀ (v4 : Int32) (n : Nat), ∀ (v5 : Int64) (v7 : Int32), V X (SM g) rr 8 34 [(0, .ref ((SM g).1.2.1 0)), (1, .long v1), (4, .int v4), (5, .long v5), (7, .int v7)] [] h (lp (fun _ _ => none) (f_X11_isMade_l34 v1 h w17 v4) n v5 v7) := by
      intro v4
      refine lp_ind (fun (w34 : Int64 → Int32 → Option Bool) => ∀ (v5 : Int64) (v7 : Int32), V X (SM g) rr 8 34 [(0, .ref ((SM g).1.2.1 0)), (1, .long v1), (4, .int v4), (5, .long v5), (7, .int v7)] [] h (w34 v5 v7)) (fun _ _ => V.none _ _ _ _) (fun w34 ih34 => ?_)
      intro v5 v7
      unfold f_X11_isMade_l34
      refine v_iload hB 4 dX11_isMade_34 rfl ?_
      refine v_aload_n hB 0 dX11_isMade_36 rfl rfl ?_
      refine v_getI hB hK (fl_X11_339 g) (cMI_0_31 g) dX11_isMade_37 ?_
      refine v_icmp_ge (tgt := 69) hB dX11_isMade_40 rfl ?_ ?_
      · exact V.sub [0, 1, 2, 3] rfl (hn69 v4 v5)
      · refine v_lload hB 3 dX11_isMade_43 rfl ?_
        refine v_aload_n hB 0 dX11_isMade_45 rfl rfl ?_
        refine v_iload hB 4 dX11_isMade_46 rfl ?_
        refine v_bRj (fun r48 e48 => v_callV hB hK hR.rm [.int v7] [.long v5] (oM_0 g) lb_X11_upOf lv_X11_352 (c_X11_upOf g hK.A X.1.2.1 v7 h e48) dX11_isMade_48 rfl rfl (Nat.le_of_ble_eq_true rfl) (by decide) (by decide)) (fun r48 => ?_)
        refine v_aload_n hB 0 dX11_isMade_51 rfl rfl ?_
        refine v_iload hB 4 dX11_isMade_52 rfl ?_
        refine v_iload hB 2 dX11_isMade_54 rfl ?_
        refine v_bRj (fun r56 e56 => v_callV hB hK hR.rm [.int v7, .int v4] [.long r48, .long v5] (oM_0 g) lb_X11_at lv_X11_322 (c_X11_at g hK.A X.1.2.1 v7 v4 h e56) dX11_isMade_56 rfl rfl (Nat.le_of_ble_eq_true rfl) (by decide) (by decide)) (fun r56 => ?_)
        refine v_lmul hB dX11_isMade_59 ?_
        refine v_ladd hB dX11_isMade_60 ?_
        refine v_lstore hB [(0, .ref ((SM g).1.2.1 0)), (1, .long v1), (4, .int v4), (5, .long (v5 + (r48 * r56))), (7, .int v7)] [1, 2, 3, 0, 4] dX11_isMade_61 (by decide) rfl ?_
        refine v_iinc hB (v7 + 1) [(0, .ref ((SM g).1.2.1 0)), (1, .long v1), (4, .int v4), (5, .long (v5 + (r48 * r56))), (7, .int (v7 + 1))] 4 [1, 2, 3, 4, 0] dX11_isMade_63 rfl rfl (by decide) rfl ?_
        refine v_goto (tgt := 34) hB dX11_isMade_66 rfl ?_
        exact V.sub [0, 1, 2, 3, 4] rfl (ih34 (v5 + (r48 * r56)) (v7 + 1))
    intro v3 v4
    unfold f_X11_isMade_l17
    refine v_iload hB 3 dX11_isMade_17 rfl ?_
    refine v_bipush hB 28 dX11_isMade_19 (by decide) ?_
    refine v_icmp_ge (tgt := 96) hB dX11_isMade_21 rfl ?_ ?_
    · refine v_iload_n hB 2 dX11_isMade_96 rfl rfl ?_
      exact v_retRz (x := v3) hB hK hR dX11_isMade_97
    · refine v_iload_n hB 2 dX11_isMade_24 rfl rfl ?_
      refine v_ifz_eq (r := v3) (tgt := 96) hB dX11_isMade_25 rfl ?_ ?_
      · refine v_iload_n hB 2 dX11_isMade_96 rfl rfl ?_
        exact v_retRz (x := v3) hB hK hR dX11_isMade_97
      · refine v_lconst hB 0 dX11_isMade_28 (by decide) ?_
        refine v_lstore hB [(0, .ref ((SM g).1.2.1 0)), (1, .long v1), (3, .int (b2i v3)), (4, .int v4), (5, .long 0)] [1, 2, 3, 4, 0] dX11_isMade_29 (by decide) rfl ?_
        refine v_iconst hB 0 dX11_isMade_31 (by decide) ?_
        refine v_istore hB [(0, .ref ((SM g).1.2.1 0)), (1, .long v1), (3, .int (b2i v3)), (4, .int v4), (5, .long 0), (7, .int 0)] [1, 2, 3, 4, 5, 0] dX11_isMade_32 (by decide) rfl ?_
        exact V.sub [0, 1, 3, 4, 5] rfl (hn34 v4 1000 0 0)
  unfold f_X11_isMade
  refine v_aload_n hB 0 dX11_isMade_0 rfl rfl ?_
  refine v_aload_n hB 0 dX11_isMade_1 rfl rfl ?_
  refine v_getI hB hK (fl_X11_339 g) (cMI_0_31 g) dX11_isMade_2 ?_
  refine v_iconst hB 0 dX11_isMade_5 (by decide) ?_
  refine v_iconst hB 1 dX11_isMade_6 (by decide) ?_
  refine v_iconst hB 2 dX11_isMade_7 (by decide) ?_
  refine v_bRj (fun r8 e8 => v_callV hB hK hR.rm [.int (rI h 0 31), .int 0, .int 1, .int 2] [] (oM_0 g) lb_X11_minor lv_X11_336 (c_X11_minor g hK.A X.1.2.1 (rI h 0 31) 0 1 2 h e8) dX11_isMade_8 rfl rfl (Nat.le_of_ble_eq_true rfl) (by decide) (by decide)) (fun r8 => ?_)
  refine v_lstore_n hB [(0, .ref ((SM g).1.2.1 0)), (1, .long r8)] [1, 0] dX11_isMade_11 rfl (by decide) rfl ?_
  refine v_iconst hB 1 dX11_isMade_12 (by decide) ?_
  refine v_istore_n hB [(0, .ref ((SM g).1.2.1 0)), (1, .long r8), (3, .int (b2i true))] [1, 2, 0] dX11_isMade_13 rfl (by decide) rfl ?_
  refine v_iconst hB 0 dX11_isMade_14 (by decide) ?_
  refine v_istore hB [(0, .ref ((SM g).1.2.1 0)), (1, .long r8), (3, .int (b2i true)), (4, .int 0)] [1, 2, 3, 0] dX11_isMade_15 (by decide) rfl ?_
  exact V.sub [0, 1, 2, 3] rfl (hn17 r8 1000 true 0)

def f_X11_isSmall_l4 (p1 : Int32) (h : pq_H) (w4 : Bool → Int32 → Option Bool) (v2 : Bool) (v3 : Int32) : Option Bool :=
  (f_X11_isTerm p1 v3 h).bind fun r7 => if r7 = true then ((f_X11_coefficientOf p1 v3 h).bind fun r17 => w4 (v2 && (f_X11_isIn r17 (-99) 99)) (v3 + 1)) else (some v2)
def f_X11_isSmall (p1 : Int32) (h : pq_H) : Option Bool :=
  lp (fun _ _ => none) (f_X11_isSmall_l4 p1 h) 1000 true 0
set_option maxRecDepth 100000 in
set_option maxHeartbeats 4000000 in
theorem c_X11_isSmall (g : pq_g) {A : Nat → Prop} (hA : pq_A (SM g) A) (l : Launch) (p1 : Int32) (h : pq_H) {rr : Bool} (e : f_X11_isSmall p1 h = some rr) : pq_M (SM g) A l yX11_isSmall cX11_isSmall 4 (some .boolean) 3 71 [.ref ((SM g).1.2.1 0), .int p1] h (some (.int (b2i rr))) h := by
  refine pq_met hA l (own := RX11) 3 71 _ [(0, .ref ((SM g).1.2.1 0)), (1, .int p1)] h _ h (by decide +kernel) rfl (Nat.le_of_ble_eq_true rfl) rfl (fun X hXl hXA hB hK hR => ?_)
  refine V.cast (F' := f_X11_isSmall p1 h) (res' := rr) (fun _ => e) ?_
  have hn4 : ∀ (n : Nat), ∀ (v2 : Bool) (v3 : Int32), V X (SM g) rr 4 4 [(0, .ref ((SM g).1.2.1 0)), (1, .int p1), (2, .int (b2i v2)), (3, .int v3)] [] h (lp (fun _ _ => none) (f_X11_isSmall_l4 p1 h) n v2 v3) := by
    refine lp_ind (fun (w4 : Bool → Int32 → Option Bool) => ∀ (v2 : Bool) (v3 : Int32), V X (SM g) rr 4 4 [(0, .ref ((SM g).1.2.1 0)), (1, .int p1), (2, .int (b2i v2)), (3, .int v3)] [] h (w4 v2 v3)) (fun _ _ => V.none _ _ _ _) (fun w4 ih4 => ?_)
    intro v2 v3
    unfold f_X11_isSmall_l4
    refine v_aload_n hB 0 dX11_isSmall_4 rfl rfl ?_
    refine v_iload_n hB 1 dX11_isSmall_5 rfl rfl ?_
    refine v_iload_n hB 3 dX11_isSmall_6 rfl rfl ?_
    refine v_bRz (fun r7 e7 => v_callV hB hK hR.rm [.int p1, .int v3] [] (oM_0 g) lb_X11_isTerm lv_X11_111 (c_X11_isTerm g hK.A X.1.2.1 p1 v3 h e7) dX11_isSmall_7 rfl rfl (Nat.le_of_ble_eq_true rfl) (by decide) (by decide)) (fun r7 => ?_)
    refine v_ifz_eq (r := r7) (tgt := 35) hB dX11_isSmall_10 rfl ?_ ?_
    · refine v_iload_n hB 2 dX11_isSmall_35 rfl rfl ?_
      exact v_retRz (x := v2) hB hK hR dX11_isSmall_36
    · refine v_iload_n hB 2 dX11_isSmall_13 rfl rfl ?_
      refine v_aload_n hB 0 dX11_isSmall_14 rfl rfl ?_
      refine v_iload_n hB 1 dX11_isSmall_15 rfl rfl ?_
      refine v_iload_n hB 3 dX11_isSmall_16 rfl rfl ?_
      refine v_bRi (fun r17 e17 => v_callV hB hK hR.rm [.int p1, .int v3] [.int (b2i v2)] (oM_0 g) lb_X11_coefficientOf lv_X11_115 (c_X11_coefficientOf g hK.A X.1.2.1 p1 v3 h e17) dX11_isSmall_17 rfl rfl (Nat.le_of_ble_eq_true rfl) (by decide) (by decide)) (fun r17 => ?_)
      refine v_bipush hB (-99) dX11_isSmall_20 (by decide) ?_
      refine v_bipush hB 99 dX11_isSmall_22 (by decide) ?_
      refine v_bT (v_callS hB hK hR.rm [.int r17, .int (-99), .int 99] [.int (b2i v2)] lb_X11_isIn lv_X11_98 (c_X11_isIn g hK.A X.1.2.1 r17 (-99) 99 h) dX11_isSmall_24 rfl rfl (Nat.le_of_ble_eq_true rfl) (by decide) (by decide)) ?_
      refine v_zand (x := v2) (y := f_X11_isIn r17 (-99) 99) hB dX11_isSmall_27 ?_
      refine v_istore_n hB [(0, .ref ((SM g).1.2.1 0)), (1, .int p1), (2, .int (b2i (v2 && (f_X11_isIn r17 (-99) 99)))), (3, .int v3)] [1, 2, 0, 3] dX11_isSmall_28 rfl (by decide) rfl ?_
      refine v_iinc hB (v3 + 1) [(0, .ref ((SM g).1.2.1 0)), (1, .int p1), (2, .int (b2i (v2 && (f_X11_isIn r17 (-99) 99)))), (3, .int (v3 + 1))] 3 [1, 2, 3, 0] dX11_isSmall_29 rfl rfl (by decide) rfl ?_
      refine v_goto (tgt := 4) hB dX11_isSmall_32 rfl ?_
      exact V.sub [0, 1, 2, 3] rfl (ih4 (v2 && (f_X11_isIn r17 (-99) 99)) (v3 + 1))
  unfold f_X11_isSmall
  refine v_iconst hB 1 dX11_isSmall_0 (by decide) ?_
  refine v_istore_n hB [(0, .ref ((SM g).1.2.1 0)), (1, .int p1), (2, .int (b2i true))] [1, 2, 0] dX11_isSmall_1 rfl (by decide) rfl ?_
  refine v_iconst hB 0 dX11_isSmall_2 (by decide) ?_
  refine v_istore_n hB [(0, .ref ((SM g).1.2.1 0)), (1, .int p1), (2, .int (b2i true)), (3, .int 0)] [1, 2, 3, 0] dX11_isSmall_3 rfl (by decide) rfl ?_
  exact V.sub [0, 1, 2, 3] rfl (hn4 1000 true 0)

def f_X11_isSetOf_j93 (v3 : Int32) (v4 : Bool) : Option Bool :=
  if v4 = true then (if (f_X11_isIn v3 1 3) = true then (some true) else (some false)) else (some false)
def f_X11_isSetOf_j87 (w28 : Int32 → Bool → Int32 → Option Bool) (v3 : Int32) (v4 : Bool) (v5 : Int32) : Option Bool :=
  w28 v3 v4 (v5 + 1)
def f_X11_isSetOf_j84 (w28 : Int32 → Bool → Int32 → Option Bool) (v3 : Int32) (v5 : Int32) (s0 : Bool) (s1 : Bool) : Option Bool :=
  f_X11_isSetOf_j87 w28 v3 (s0 && s1) v5
def f_X11_isSetOf_j83 (w28 : Int32 → Bool → Int32 → Option Bool) (v3 : Int32) (v5 : Int32) (s0 : Bool) : Option Bool :=
  f_X11_isSetOf_j84 w28 v3 v5 s0 false
def f_X11_isSetOf_l28 (p1 : Int32) (p2 : Int32) (h : pq_H) (w28 : Int32 → Bool → Int32 → Option Bool) (v3 : Int32) (v4 : Bool) (v5 : Int32) : Option Bool :=
  if (rI h 0 5) ≤ v5 then (f_X11_isSetOf_j93 v3 v4) else (if ((p2 >>> (v5 &&& 31)) &&& 1) = 0 then (f_X11_isSetOf_j87 w28 v3 v4 v5) else (gd (inb v5 6) (gd (inb p1 6) (if (rI h 5 v5.toNatClampNeg) = (rI h 5 p1.toNatClampNeg) then ((f_X11_isSmall v5 h).bind fun r73 => if r73 = true then (f_X11_isSetOf_j84 w28 (v3 + 1) v5 v4 true) else (f_X11_isSetOf_j83 w28 (v3 + 1) v5 v4)) else (f_X11_isSetOf_j83 w28 (v3 + 1) v5 v4)))))
def f_X11_isSetOf_j23 (p1 : Int32) (p2 : Int32) (h : pq_H) (v3 : Int32) (s0 : Bool) : Option Bool :=
  lp (fun _ _ _ => none) (f_X11_isSetOf_l28 p1 p2 h) 1000 v3 s0 0
def f_X11_isSetOf_j22 (p1 : Int32) (p2 : Int32) (h : pq_H) (v3 : Int32) : Option Bool :=
  f_X11_isSetOf_j23 p1 p2 h v3 false
def f_X11_isSetOf (p1 : Int32) (p2 : Int32) (h : pq_H) : Option Bool :=
  (f_X11_isSmall p1 h).bind fun r4 => if r4 = true then (if ((p2 >>> (p1 &&& 31)) &&& 1) = 0 then (f_X11_isSetOf_j23 p1 p2 h 0 true) else (f_X11_isSetOf_j22 p1 p2 h 0)) else (f_X11_isSetOf_j22 p1 p2 h 0)
set_option maxRecDepth 100000 in
set_option maxHeartbeats 4000000 in
theorem c_X11_isSetOf (g : pq_g) {A : Nat → Prop} (hA : pq_A (SM g) A) (l : Launch) (p1 : Int32) (p2 : Int32) (h : pq_H) {rr : Bool} (e : f_X11_isSetOf p1 p2 h = some rr) : pq_M (SM g) A l yX11_isSetOf cX11_isSetOf 6 (some .boolean) 4 94 [.ref ((SM g).1.2.1 0), .int p1, .int p2] h (some (.int (b2i rr))) h := by
  refine pq_met hA l (own := RX11) 4 94 _ [(0, .ref ((SM g).1.2.1 0)), (1, .int p1), (2, .int p2)] h _ h (by decide +kernel) rfl (Nat.le_of_ble_eq_true rfl) rfl (fun X hXl hXA hB hK hR => ?_)
  refine V.cast (F' := f_X11_isSetOf p1 p2 h) (res' := rr) (fun _ => e) ?_
  have hn93 : ∀ (v3 : Int32) (v4 : Bool), V X (SM g) rr 6 93 [(3, .int v3), (4, .int (b2i v4))] [] h (f_X11_isSetOf_j93 v3 v4) := by
    intro v3 v4
    unfold f_X11_isSetOf_j93
    refine v_iload hB 1 dX11_isSetOf_93 rfl ?_
    refine v_ifz_eq (r := v4) (tgt := 111) hB dX11_isSetOf_95 rfl ?_ ?_
    · refine v_iconst hB 0 dX11_isSetOf_111 (by decide) ?_
      exact v_retRz (x := false) hB hK hR dX11_isSetOf_112
    · refine v_iload_n hB 0 dX11_isSetOf_98 rfl rfl ?_
      refine v_iconst hB 1 dX11_isSetOf_99 (by decide) ?_
      refine v_iconst hB 3 dX11_isSetOf_100 (by decide) ?_
      refine v_bT (v_callS hB hK hR.rm [.int v3, .int 1, .int 3] [] lb_X11_isIn lv_X11_98 (c_X11_isIn g hK.A X.1.2.1 v3 1 3 h) dX11_isSetOf_101 rfl rfl (Nat.le_of_ble_eq_true rfl) (by decide) (by decide)) ?_
      refine v_ifz_eq (r := f_X11_isIn v3 1 3) (tgt := 111) hB dX11_isSetOf_104 rfl ?_ ?_
      · refine v_iconst hB 0 dX11_isSetOf_111 (by decide) ?_
        exact v_retRz (x := false) hB hK hR dX11_isSetOf_112
      · refine v_iconst hB 1 dX11_isSetOf_107 (by decide) ?_
        refine v_goto (tgt := 112) hB dX11_isSetOf_108 rfl ?_
        exact v_retRz (x := true) hB hK hR dX11_isSetOf_112
  have hn28 : ∀ (n : Nat), ∀ (v3 : Int32) (v4 : Bool) (v5 : Int32), V X (SM g) rr 6 28 [(0, .ref ((SM g).1.2.1 0)), (1, .int p1), (2, .int p2), (3, .int v3), (4, .int (b2i v4)), (5, .int v5)] [] h (lp (fun _ _ _ => none) (f_X11_isSetOf_l28 p1 p2 h) n v3 v4 v5) := by
    refine lp_ind (fun (w28 : Int32 → Bool → Int32 → Option Bool) => ∀ (v3 : Int32) (v4 : Bool) (v5 : Int32), V X (SM g) rr 6 28 [(0, .ref ((SM g).1.2.1 0)), (1, .int p1), (2, .int p2), (3, .int v3), (4, .int (b2i v4)), (5, .int v5)] [] h (w28 v3 v4 v5)) (fun _ _ _ => V.none _ _ _ _) (fun w28 ih28 => ?_)
    have hn87 : ∀ (v3 : Int32) (v4 : Bool) (v5 : Int32), V X (SM g) rr 6 87 [(0, .ref ((SM g).1.2.1 0)), (1, .int p1), (2, .int p2), (3, .int v3), (4, .int (b2i v4)), (5, .int v5)] [] h (f_X11_isSetOf_j87 w28 v3 v4 v5) := by
      intro v3 v4 v5
      unfold f_X11_isSetOf_j87
      refine v_iinc hB (v5 + 1) [(0, .ref ((SM g).1.2.1 0)), (1, .int p1), (2, .int p2), (3, .int v3), (4, .int (b2i v4)), (5, .int (v5 + 1))] 5 [1, 2, 3, 4, 5, 0] dX11_isSetOf_87 rfl rfl (by decide) rfl ?_
      refine v_goto (tgt := 28) hB dX11_isSetOf_90 rfl ?_
      exact V.sub [0, 1, 2, 3, 4, 5] rfl (ih28 v3 v4 (v5 + 1))
    have hn84 : ∀ (v3 : Int32) (v5 : Int32) (s0 : Bool) (s1 : Bool), V X (SM g) rr 6 84 [(0, .ref ((SM g).1.2.1 0)), (1, .int p1), (2, .int p2), (3, .int v3), (5, .int v5)] [.int (b2i s1), .int (b2i s0)] h (f_X11_isSetOf_j84 w28 v3 v5 s0 s1) := by
      intro v3 v5 s0 s1
      unfold f_X11_isSetOf_j84
      refine v_zand (x := s0) (y := s1) hB dX11_isSetOf_84 ?_
      refine v_istore hB [(0, .ref ((SM g).1.2.1 0)), (1, .int p1), (2, .int p2), (3, .int v3), (4, .int (b2i (s0 && s1))), (5, .int v5)] [1, 2, 3, 4, 0, 5] dX11_isSetOf_85 (by decide) rfl ?_
      exact V.sub [0, 1, 2, 3, 4, 5] rfl (hn87 v3 (s0 && s1) v5)
    have hn83 : ∀ (v3 : Int32) (v5 : Int32) (s0 : Bool), V X (SM g) rr 6 83 [(0, .ref ((SM g).1.2.1 0)), (1, .int p1), (2, .int p2), (3, .int v3), (5, .int v5)] [.int (b2i s0)] h (f_X11_isSetOf_j83 w28 v3 v5 s0) := by
      intro v3 v5 s0
      unfold f_X11_isSetOf_j83
      refine v_iconst hB 0 dX11_isSetOf_83 (by decide) ?_
      exact V.sub [0, 1, 2, 3, 4] rfl (hn84 v3 v5 s0 false)
    intro v3 v4 v5
    unfold f_X11_isSetOf_l28
    refine v_iload hB 5 dX11_isSetOf_28 rfl ?_
    refine v_aload_n hB 0 dX11_isSetOf_30 rfl rfl ?_
    refine v_getI hB hK (fl_X11_95 g) (cMI_0_5 g) dX11_isSetOf_31 ?_
    refine v_icmp_ge (tgt := 93) hB dX11_isSetOf_34 rfl ?_ ?_
    · exact V.sub [3, 4] rfl (hn93 v3 v4)
    · refine v_iload_n hB 2 dX11_isSetOf_37 rfl rfl ?_
      refine v_iload hB 5 dX11_isSetOf_38 rfl ?_
      refine v_ishr hB dX11_isSetOf_40 ?_
      refine v_iconst hB 1 dX11_isSetOf_41 (by decide) ?_
      refine v_iand hB dX11_isSetOf_42 ?_
      refine v_if_ne (tgt := 49) hB dX11_isSetOf_43 rfl ?_ ?_
      · refine v_iinc hB (v3 + 1) [(0, .ref ((SM g).1.2.1 0)), (1, .int p1), (2, .int p2), (3, .int (v3 + 1)), (4, .int (b2i v4)), (5, .int v5)] 3 [1, 2, 3, 0, 4, 5] dX11_isSetOf_49 rfl rfl (by decide) rfl ?_
        refine v_iload hB 4 dX11_isSetOf_52 rfl ?_
        refine v_aload_n hB 0 dX11_isSetOf_54 rfl rfl ?_
        refine v_getA hB hK (fl_X11_36 g) (cMA_0_4 g) dX11_isSetOf_55 ?_
        refine v_iload hB 5 dX11_isSetOf_58 rfl ?_
        refine v_iald hB hK (aMI_5 g) dX11_isSetOf_60 ?_
        refine v_aload_n hB 0 dX11_isSetOf_61 rfl rfl ?_
        refine v_getA hB hK (fl_X11_36 g) (cMA_0_4 g) dX11_isSetOf_62 ?_
        refine v_iload_n hB 1 dX11_isSetOf_65 rfl rfl ?_
        refine v_iald hB hK (aMI_5 g) dX11_isSetOf_66 ?_
        refine v_icmp_ne (tgt := 83) hB dX11_isSetOf_67 rfl ?_ ?_
        · exact V.sub [0, 1, 2, 3, 5] rfl (hn83 (v3 + 1) v5 v4)
        · refine v_aload_n hB 0 dX11_isSetOf_70 rfl rfl ?_
          refine v_iload hB 5 dX11_isSetOf_71 rfl ?_
          refine v_bRz (fun r73 e73 => v_callV hB hK hR.rm [.int v5] [.int (b2i v4)] (oM_0 g) lb_X11_isSmall lv_X11_355 (c_X11_isSmall g hK.A X.1.2.1 v5 h e73) dX11_isSetOf_73 rfl rfl (Nat.le_of_ble_eq_true rfl) (by decide) (by decide)) (fun r73 => ?_)
          refine v_ifz_eq (r := r73) (tgt := 83) hB dX11_isSetOf_76 rfl ?_ ?_
          · exact V.sub [0, 1, 2, 3, 5] rfl (hn83 (v3 + 1) v5 v4)
          · refine v_iconst hB 1 dX11_isSetOf_79 (by decide) ?_
            refine v_goto (tgt := 84) hB dX11_isSetOf_80 rfl ?_
            exact V.sub [0, 1, 2, 3, 5] rfl (hn84 (v3 + 1) v5 v4 true)
      · refine v_goto (tgt := 87) hB dX11_isSetOf_46 rfl ?_
        exact V.sub [0, 1, 2, 3, 4, 5] rfl (hn87 v3 v4 v5)
  have hn23 : ∀ (v3 : Int32) (s0 : Bool), V X (SM g) rr 6 23 [(0, .ref ((SM g).1.2.1 0)), (1, .int p1), (2, .int p2), (3, .int v3)] [.int (b2i s0)] h (f_X11_isSetOf_j23 p1 p2 h v3 s0) := by
    intro v3 s0
    unfold f_X11_isSetOf_j23
    refine v_istore hB [(0, .ref ((SM g).1.2.1 0)), (1, .int p1), (2, .int p2), (3, .int v3), (4, .int (b2i s0))] [1, 2, 3, 4, 0] dX11_isSetOf_23 (by decide) rfl ?_
    refine v_iconst hB 0 dX11_isSetOf_25 (by decide) ?_
    refine v_istore hB [(0, .ref ((SM g).1.2.1 0)), (1, .int p1), (2, .int p2), (3, .int v3), (4, .int (b2i s0)), (5, .int 0)] [1, 2, 3, 4, 5, 0] dX11_isSetOf_26 (by decide) rfl ?_
    exact V.sub [0, 1, 2, 3, 4, 5] rfl (hn28 1000 v3 s0 0)
  have hn22 : ∀ (v3 : Int32), V X (SM g) rr 6 22 [(0, .ref ((SM g).1.2.1 0)), (1, .int p1), (2, .int p2), (3, .int v3)] [] h (f_X11_isSetOf_j22 p1 p2 h v3) := by
    intro v3
    unfold f_X11_isSetOf_j22
    refine v_iconst hB 0 dX11_isSetOf_22 (by decide) ?_
    exact V.sub [0, 1, 2, 3] rfl (hn23 v3 false)
  unfold f_X11_isSetOf
  refine v_iconst hB 0 dX11_isSetOf_0 (by decide) ?_
  refine v_istore_n hB [(0, .ref ((SM g).1.2.1 0)), (1, .int p1), (2, .int p2), (3, .int 0)] [1, 2, 3, 0] dX11_isSetOf_1 rfl (by decide) rfl ?_
  refine v_aload_n hB 0 dX11_isSetOf_2 rfl rfl ?_
  refine v_iload_n hB 1 dX11_isSetOf_3 rfl rfl ?_
  refine v_bRz (fun r4 e4 => v_callV hB hK hR.rm [.int p1] [] (oM_0 g) lb_X11_isSmall lv_X11_355 (c_X11_isSmall g hK.A X.1.2.1 p1 h e4) dX11_isSetOf_4 rfl rfl (Nat.le_of_ble_eq_true rfl) (by decide) (by decide)) (fun r4 => ?_)
  refine v_ifz_eq (r := r4) (tgt := 22) hB dX11_isSetOf_7 rfl ?_ ?_
  · exact V.sub [0, 1, 2, 3] rfl (hn22 0)
  · refine v_iload_n hB 2 dX11_isSetOf_10 rfl rfl ?_
    refine v_iload_n hB 1 dX11_isSetOf_11 rfl rfl ?_
    refine v_ishr hB dX11_isSetOf_12 ?_
    refine v_iconst hB 1 dX11_isSetOf_13 (by decide) ?_
    refine v_iand hB dX11_isSetOf_14 ?_
    refine v_if_ne (tgt := 22) hB dX11_isSetOf_15 rfl ?_ ?_
    · exact V.sub [0, 1, 2, 3] rfl (hn22 0)
    · refine v_iconst hB 1 dX11_isSetOf_18 (by decide) ?_
      refine v_goto (tgt := 23) hB dX11_isSetOf_19 rfl ?_
      exact V.sub [0, 1, 2, 3] rfl (hn23 0 true)

def f_X11_made_j167 (p4 : Int32) (h : pq_H) : Option (Int64 × pq_H) :=
  some (p4.toInt64, h)
def f_X11_made_j138 (p4 : Int32) (v6 : Int32) (h : pq_H) : Option (Int64 × pq_H) :=
  (f_X11_upOf v6 h).bind fun r141 => (f_X11_minor (rI h 0 31) 0 1 2 h).bind fun r152 => (f_X11_partOf r141 r152 p4).bind fun r157 => some (r157, h)
def f_X11_made_l118 (p3 : Int32) (p4 : Int32) (h : pq_H) (w118 : Int32 → Option (Int64 × pq_H)) (v6 : Int32) : Option (Int64 × pq_H) :=
  if (rI h 0 31) ≤ v6 then (f_X11_made_j167 p4 h) else (gd (inb v6 3) (if (rI h 18 v6.toNatClampNeg) = p3 then (f_X11_made_j138 p4 v6 h) else (w118 (v6 + 1))))
def f_X11_made_j64 (p1 : Int32) (p2 : Int32) (p3 : Int32) (p4 : Int32) (s0 : Int32) (h : pq_H) : Option (Int64 × pq_H) :=
  if s0 = 0 then ((f_X11_fillsColumns p2 h).bind fun h80 => (f_X11_laysColumn 3 p1 h80).bind fun h86 => bd2 (f_X11_findsRows (rI h86 0 31) 0 1 2 h86) fun r97 h97 => (f_X11_isMade h97).bind fun r102 => if r102 = true then (lp (fun _ => none) (f_X11_made_l118 p3 p4 h97) 1000 0) else (bd2 (f_X11_lower (-3) h97) fun r111 h111 => some (r111, h111))) else (bd2 (f_X11_lower s0 h) fun r74 h74 => some (r74, h74))
def f_X11_made_j30 (p1 : Int32) (p2 : Int32) (p3 : Int32) (p4 : Int32) (h : pq_H) : Option (Int64 × pq_H) :=
  f_X11_made_j64 p1 p2 p3 p4 (-1) h
def f_X11_made (p1 : Int32) (p2 : Int32) (p3 : Int32) (p4 : Int32) (h : pq_H) : Option (Int64 × pq_H) :=
  if (f_X11_isForm p1 h) = true then (if p2 < 1 then (f_X11_made_j30 p1 p2 p3 p4 h) else (if (p2 >>> ((rI h 0 5) &&& 31)) = 0 then (if (f_X11_isForm p3 h) = true then (if (f_X11_isIn p4 0 1) = true then ((f_X11_isSetOf p1 p2 h).bind fun r52 => if r52 = true then (f_X11_made_j64 p1 p2 p3 p4 0 h) else (f_X11_made_j64 p1 p2 p3 p4 (-3) h)) else (f_X11_made_j64 p1 p2 p3 p4 (-2) h)) else (f_X11_made_j30 p1 p2 p3 p4 h)) else (f_X11_made_j30 p1 p2 p3 p4 h))) else (f_X11_made_j30 p1 p2 p3 p4 h)
set_option maxRecDepth 100000 in
set_option maxHeartbeats 4000000 in
theorem c_X11_made (g : pq_g) {A : Nat → Prop} (hA : pq_A (SM g) A) (l : Launch) (p1 : Int32) (p2 : Int32) (p3 : Int32) (p4 : Int32) (h : pq_H) {rr : Int64} {hh : pq_H} (e : f_X11_made p1 p2 p3 p4 h = some (rr, hh)) : pq_M (SM g) A l yX11_made cX11_made 7 (some .long) 6 136 [.ref ((SM g).1.2.1 0), .int p1, .int p2, .int p3, .int p4] h (some (.long rr)) hh := by
  refine pq_met hA l (own := RX11) 6 136 _ [(0, .ref ((SM g).1.2.1 0)), (1, .int p1), (2, .int p2), (3, .int p3), (4, .int p4)] h _ hh (by decide +kernel) rfl (Nat.le_of_ble_eq_true rfl) rfl (fun X hXl hXA hB hK hR => ?_)
  refine V.cast (F' := f_X11_made p1 p2 p3 p4 h) (res' := (rr, hh)) (fun _ => e) ?_
  have hn167 : ∀ (h : pq_H), V X (SM g) (rr, hh) 7 167 [(4, .int p4)] [] h (f_X11_made_j167 p4 h) := by
    intro h
    unfold f_X11_made_j167
    refine v_iload hB 0 dX11_made_167 rfl ?_
    refine v_i2l hB dX11_made_169 ?_
    exact v_retWj (x := p4.toInt64) hB hK hR dX11_made_170
  have hn138 : ∀ (v6 : Int32) (h : pq_H), V X (SM g) (rr, hh) 7 138 [(0, .ref ((SM g).1.2.1 0)), (4, .int p4), (6, .int v6)] [] h (f_X11_made_j138 p4 v6 h) := by
    intro v6 h
    unfold f_X11_made_j138
    refine v_aload_n hB 0 dX11_made_138 rfl rfl ?_
    refine v_iload hB 2 dX11_made_139 rfl ?_
    refine v_bRj (fun r141 e141 => v_callV hB hK hR.rm [.int v6] [] (oM_0 g) lb_X11_upOf lv_X11_352 (c_X11_upOf g hK.A X.1.2.1 v6 h e141) dX11_made_141 rfl rfl (Nat.le_of_ble_eq_true rfl) (by decide) (by decide)) (fun r141 => ?_)
    refine v_aload_n hB 0 dX11_made_144 rfl rfl ?_
    refine v_aload_n hB 0 dX11_made_145 rfl rfl ?_
    refine v_getI hB hK (fl_X11_339 g) (cMI_0_31 g) dX11_made_146 ?_
    refine v_iconst hB 0 dX11_made_149 (by decide) ?_
    refine v_iconst hB 1 dX11_made_150 (by decide) ?_
    refine v_iconst hB 2 dX11_made_151 (by decide) ?_
    refine v_bRj (fun r152 e152 => v_callV hB hK hR.rm [.int (rI h 0 31), .int 0, .int 1, .int 2] [.long r141] (oM_0 g) lb_X11_minor lv_X11_336 (c_X11_minor g hK.A X.1.2.1 (rI h 0 31) 0 1 2 h e152) dX11_made_152 rfl rfl (Nat.le_of_ble_eq_true rfl) (by decide) (by decide)) (fun r152 => ?_)
    refine v_iload hB 1 dX11_made_155 rfl ?_
    refine v_bRj (fun r157 e157 => v_callS hB hK hR.rm [.long r141, .long r152, .int p4] [] lb_X11_partOf lv_X11_303 (c_X11_partOf g hK.A X.1.2.1 r141 r152 p4 h e157) dX11_made_157 rfl rfl (Nat.le_of_ble_eq_true rfl) (by decide) (by decide)) (fun r157 => ?_)
    exact v_retWj (x := r157) hB hK hR dX11_made_160
  have hn118 : ∀ (h : pq_H) (n : Nat), ∀ (v6 : Int32), V X (SM g) (rr, hh) 7 118 [(0, .ref ((SM g).1.2.1 0)), (3, .int p3), (4, .int p4), (6, .int v6)] [] h (lp (fun _ => none) (f_X11_made_l118 p3 p4 h) n v6) := by
    intro h
    refine lp_ind (fun (w118 : Int32 → Option (Int64 × pq_H)) => ∀ (v6 : Int32), V X (SM g) (rr, hh) 7 118 [(0, .ref ((SM g).1.2.1 0)), (3, .int p3), (4, .int p4), (6, .int v6)] [] h (w118 v6)) (fun _ => V.none _ _ _ _) (fun w118 ih118 => ?_)
    intro v6
    unfold f_X11_made_l118
    refine v_iload hB 3 dX11_made_118 rfl ?_
    refine v_aload_n hB 0 dX11_made_120 rfl rfl ?_
    refine v_getI hB hK (fl_X11_339 g) (cMI_0_31 g) dX11_made_121 ?_
    refine v_icmp_ge (tgt := 167) hB dX11_made_124 rfl ?_ ?_
    · exact V.sub [2] rfl (hn167 h)
    · refine v_aload_n hB 0 dX11_made_127 rfl rfl ?_
      refine v_getA hB hK (fl_X11_76 g) (cMA_0_30 g) dX11_made_128 ?_
      refine v_iload hB 3 dX11_made_131 rfl ?_
      refine v_iald hB hK (aMI_18 g) dX11_made_133 ?_
      refine v_iload_n hB 1 dX11_made_134 rfl rfl ?_
      refine v_icmp_ne (tgt := 161) hB dX11_made_135 rfl ?_ ?_
      · refine v_iinc hB (v6 + 1) [(0, .ref ((SM g).1.2.1 0)), (3, .int p3), (4, .int p4), (6, .int (v6 + 1))] 3 [1, 2, 3, 0] dX11_made_161 rfl rfl (by decide) rfl ?_
        refine v_goto (tgt := 118) hB dX11_made_164 rfl ?_
        exact V.sub [0, 1, 2, 3] rfl (ih118 (v6 + 1))
      · exact V.sub [0, 2, 3] rfl (hn138 v6 h)
  have hn64 : ∀ (s0 : Int32) (h : pq_H), V X (SM g) (rr, hh) 7 64 [(0, .ref ((SM g).1.2.1 0)), (1, .int p1), (2, .int p2), (3, .int p3), (4, .int p4)] [.int s0] h (f_X11_made_j64 p1 p2 p3 p4 s0 h) := by
    intro s0 h
    unfold f_X11_made_j64
    refine v_istore hB [(0, .ref ((SM g).1.2.1 0)), (1, .int p1), (2, .int p2), (3, .int p3), (4, .int p4), (5, .int s0)] [1, 2, 3, 4, 5, 0] dX11_made_64 (by decide) rfl ?_
    refine v_iload hB 5 dX11_made_66 rfl ?_
    refine v_if_eq (tgt := 78) hB dX11_made_68 rfl ?_ ?_
    · refine v_aload_n hB 0 dX11_made_78 rfl rfl ?_
      refine v_iload_n hB 2 dX11_made_79 rfl rfl ?_
      refine v_bV (fun h80 e80 => v_callV hB hK hR.rm [.int p2] [] (oM_0 g) lb_X11_fillsColumns lv_X11_361 (c_X11_fillsColumns g hK.A X.1.2.1 p2 h e80) dX11_made_80 rfl rfl (Nat.le_of_ble_eq_true rfl) (by decide) (by decide)) (fun h80 => ?_)
      refine v_aload_n hB 0 dX11_made_83 rfl rfl ?_
      refine v_iconst hB 3 dX11_made_84 (by decide) ?_
      refine v_iload_n hB 1 dX11_made_85 rfl rfl ?_
      refine v_bV (fun h86 e86 => v_callV hB hK hR.rm [.int 3, .int p1] [] (oM_0 g) lb_X11_laysColumn lv_X11_346 (c_X11_laysColumn g hK.A X.1.2.1 3 p1 h80 e86) dX11_made_86 rfl rfl (Nat.le_of_ble_eq_true rfl) (by decide) (by decide)) (fun h86 => ?_)
      refine v_aload_n hB 0 dX11_made_89 rfl rfl ?_
      refine v_aload_n hB 0 dX11_made_90 rfl rfl ?_
      refine v_getI hB hK (fl_X11_339 g) (cMI_0_31 g) dX11_made_91 ?_
      refine v_iconst hB 0 dX11_made_94 (by decide) ?_
      refine v_iconst hB 1 dX11_made_95 (by decide) ?_
      refine v_iconst hB 2 dX11_made_96 (by decide) ?_
      refine v_bWz (fun r97 h97 e97 => v_callV hB hK hR.rm [.int (rI h86 0 31), .int 0, .int 1, .int 2] [] (oM_0 g) lb_X11_findsRows lv_X11_342 (c_X11_findsRows g hK.A X.1.2.1 (rI h86 0 31) 0 1 2 h86 e97) dX11_made_97 rfl rfl (Nat.le_of_ble_eq_true rfl) (by decide) (by decide)) (fun r97 h97 => ?_)
      refine v_pop hB dX11_made_100 rfl ?_
      refine v_aload_n hB 0 dX11_made_101 rfl rfl ?_
      refine v_bRz (fun r102 e102 => v_callV hB hK hR.rm [] [] (oM_0 g) lb_X11_isMade lv_X11_364 (c_X11_isMade g hK.A X.1.2.1 h97 e102) dX11_made_102 rfl rfl (Nat.le_of_ble_eq_true rfl) (by decide) (by decide)) (fun r102 => ?_)
      refine v_ifz_ne (r := r102) (tgt := 115) hB dX11_made_105 rfl ?_ ?_
      · refine v_iconst hB 0 dX11_made_115 (by decide) ?_
        refine v_istore hB [(0, .ref ((SM g).1.2.1 0)), (1, .int p1), (2, .int p2), (3, .int p3), (4, .int p4), (5, .int s0), (6, .int 0)] [1, 2, 3, 4, 5, 6, 0] dX11_made_116 (by decide) rfl ?_
        exact V.sub [0, 3, 4, 6] rfl (hn118 h97 1000 0)
      · refine v_aload_n hB 0 dX11_made_108 rfl rfl ?_
        refine v_bipush hB (-3) dX11_made_109 (by decide) ?_
        refine v_bWj (fun r111 h111 e111 => v_callV hB hK hR.rm [.int (-3)] [] (oM_0 g) lb_X11_lower lv_X11_231 (c_X11_lower g hK.A X.1.2.1 (-3) h97 e111) dX11_made_111 rfl rfl (Nat.le_of_ble_eq_true rfl) (by decide) (by decide)) (fun r111 h111 => ?_)
        exact v_retWj (x := r111) hB hK hR dX11_made_114
    · refine v_aload_n hB 0 dX11_made_71 rfl rfl ?_
      refine v_iload hB 5 dX11_made_72 rfl ?_
      refine v_bWj (fun r74 h74 e74 => v_callV hB hK hR.rm [.int s0] [] (oM_0 g) lb_X11_lower lv_X11_231 (c_X11_lower g hK.A X.1.2.1 s0 h e74) dX11_made_74 rfl rfl (Nat.le_of_ble_eq_true rfl) (by decide) (by decide)) (fun r74 h74 => ?_)
      exact v_retWj (x := r74) hB hK hR dX11_made_77
  have hn30 : ∀ (h : pq_H), V X (SM g) (rr, hh) 7 30 [(0, .ref ((SM g).1.2.1 0)), (1, .int p1), (2, .int p2), (3, .int p3), (4, .int p4)] [] h (f_X11_made_j30 p1 p2 p3 p4 h) := by
    intro h
    unfold f_X11_made_j30
    refine v_iconst hB (-1) dX11_made_30 (by decide) ?_
    refine v_goto (tgt := 64) hB dX11_made_31 rfl ?_
    exact V.sub [0, 1, 2, 3, 4] rfl (hn64 (-1) h)
  unfold f_X11_made
  refine v_aload_n hB 0 dX11_made_0 rfl rfl ?_
  refine v_iload_n hB 1 dX11_made_1 rfl rfl ?_
  refine v_bT (v_callV hB hK hR.rm [.int p1] [] (oM_0 g) lb_X11_isForm lv_X11_143 (c_X11_isForm g hK.A X.1.2.1 p1 h) dX11_made_2 rfl rfl (Nat.le_of_ble_eq_true rfl) (by decide) (by decide)) ?_
  refine v_ifz_eq (r := f_X11_isForm p1 h) (tgt := 30) hB dX11_made_5 rfl ?_ ?_
  · exact V.sub [0, 1, 2, 3, 4] rfl (hn30 h)
  · refine v_iload_n hB 2 dX11_made_8 rfl rfl ?_
    refine v_iconst hB 1 dX11_made_9 (by decide) ?_
    refine v_icmp_lt (tgt := 30) hB dX11_made_10 rfl ?_ ?_
    · exact V.sub [0, 1, 2, 3, 4] rfl (hn30 h)
    · refine v_iload_n hB 2 dX11_made_13 rfl rfl ?_
      refine v_aload_n hB 0 dX11_made_14 rfl rfl ?_
      refine v_getI hB hK (fl_X11_95 g) (cMI_0_5 g) dX11_made_15 ?_
      refine v_ishr hB dX11_made_18 ?_
      refine v_if_ne (tgt := 30) hB dX11_made_19 rfl ?_ ?_
      · exact V.sub [0, 1, 2, 3, 4] rfl (hn30 h)
      · refine v_aload_n hB 0 dX11_made_22 rfl rfl ?_
        refine v_iload_n hB 3 dX11_made_23 rfl rfl ?_
        refine v_bT (v_callV hB hK hR.rm [.int p3] [] (oM_0 g) lb_X11_isForm lv_X11_143 (c_X11_isForm g hK.A X.1.2.1 p3 h) dX11_made_24 rfl rfl (Nat.le_of_ble_eq_true rfl) (by decide) (by decide)) ?_
        refine v_ifz_ne (r := f_X11_isForm p3 h) (tgt := 34) hB dX11_made_27 rfl ?_ ?_
        · refine v_iload hB 4 dX11_made_34 rfl ?_
          refine v_iconst hB 0 dX11_made_36 (by decide) ?_
          refine v_iconst hB 1 dX11_made_37 (by decide) ?_
          refine v_bT (v_callS hB hK hR.rm [.int p4, .int 0, .int 1] [] lb_X11_isIn lv_X11_98 (c_X11_isIn g hK.A X.1.2.1 p4 0 1 h) dX11_made_38 rfl rfl (Nat.le_of_ble_eq_true rfl) (by decide) (by decide)) ?_
          refine v_ifz_ne (r := f_X11_isIn p4 0 1) (tgt := 49) hB dX11_made_41 rfl ?_ ?_
          · refine v_aload_n hB 0 dX11_made_49 rfl rfl ?_
            refine v_iload_n hB 1 dX11_made_50 rfl rfl ?_
            refine v_iload_n hB 2 dX11_made_51 rfl rfl ?_
            refine v_bRz (fun r52 e52 => v_callV hB hK hR.rm [.int p1, .int p2] [] (oM_0 g) lb_X11_isSetOf lv_X11_358 (c_X11_isSetOf g hK.A X.1.2.1 p1 p2 h e52) dX11_made_52 rfl rfl (Nat.le_of_ble_eq_true rfl) (by decide) (by decide)) (fun r52 => ?_)
            refine v_ifz_eq (r := r52) (tgt := 62) hB dX11_made_55 rfl ?_ ?_
            · refine v_bipush hB (-3) dX11_made_62 (by decide) ?_
              exact V.sub [0, 1, 2, 3, 4] rfl (hn64 (-3) h)
            · refine v_iconst hB 0 dX11_made_58 (by decide) ?_
              refine v_goto (tgt := 64) hB dX11_made_59 rfl ?_
              exact V.sub [0, 1, 2, 3, 4] rfl (hn64 0 h)
          · refine v_bipush hB (-2) dX11_made_44 (by decide) ?_
            refine v_goto (tgt := 64) hB dX11_made_46 rfl ?_
            exact V.sub [0, 1, 2, 3, 4] rfl (hn64 (-2) h)
        · exact V.sub [0, 1, 2, 3, 4] rfl (hn30 h)

def f_X11_puts (p1 : Int32) (h : pq_H) : Option pq_H :=
  gd (inb (rI h 0 36) 500) (hl (wI h 19 (rI h 0 36).toNatClampNeg p1) fun h9 => some (wI h9 0 36 ((rI h9 0 36) + 1)))
set_option maxRecDepth 100000 in
set_option maxHeartbeats 4000000 in
theorem c_X11_puts (g : pq_g) {A : Nat → Prop} (hA : pq_A (SM g) A) (l : Launch) (p1 : Int32) (h : pq_H) {hh : pq_H} (e : f_X11_puts p1 h = some hh) : pq_M (SM g) A l yX11_puts cX11_puts 2 none 0 0 [.ref ((SM g).1.2.1 0), .int p1] h none hh := by
  refine pq_met hA l (own := RX11) 0 0 _ [(0, .ref ((SM g).1.2.1 0)), (1, .int p1)] h _ hh (by decide +kernel) rfl (Nat.le_of_ble_eq_true rfl) rfl (fun X hXl hXA hB hK hR => ?_)
  refine V.cast (F' := f_X11_puts p1 h) (res' := hh) (fun _ => e) ?_
  unfold f_X11_puts
  refine v_aload_n hB 0 dX11_puts_0 rfl rfl ?_
  refine v_getA hB hK (fl_X11_79 g) (cMA_0_35 g) dX11_puts_1 ?_
  refine v_aload_n hB 0 dX11_puts_4 rfl rfl ?_
  refine v_getI hB hK (fl_X11_367 g) (cMI_0_36 g) dX11_puts_5 ?_
  refine v_iload_n hB 1 dX11_puts_8 rfl rfl ?_
  refine v_iast hB hK (aMI_19 g) dX11_puts_9 ?_
  refine v_hl (fun h9 => ?_)
  refine v_aload_n hB 0 dX11_puts_10 rfl rfl ?_
  refine v_dup hB dX11_puts_11 rfl ?_
  refine v_getI hB hK (fl_X11_367 g) (cMI_0_36 g) dX11_puts_12 ?_
  refine v_iconst hB 1 dX11_puts_15 (by decide) ?_
  refine v_iadd hB dX11_puts_16 ?_
  refine v_putI hB hK (fl_X11_367 g) (fin_X11_36 g) (cMI_0_36 g) dX11_puts_17 ?_
  exact v_retWv hB hK hR dX11_puts_20

def f_X11_putsNumber_l18 (p1 : Int32) (w18 : Int32 → pq_H → Option pq_H) (v2 : Int32) (h : pq_H) : Option pq_H :=
  if v2 ≤ 0 then (some h) else (gd (v2 != 0) ((f_X11_puts (48 + ((p1 / v2) - (p1 / v2) / 10 * 10)) h).bind fun h32 => w18 (v2 / 10) h32))
def f_X11_putsNumber_l2 (p1 : Int32) (h : pq_H) (w2 : Int32 → Option pq_H) (v2 : Int32) : Option pq_H :=
  gd (v2 != 0) (if (p1 / v2) ≤ 9 then (lp (fun _ _ => none) (f_X11_putsNumber_l18 p1) 1000 v2 h) else (w2 (v2 * 10)))
def f_X11_putsNumber (p1 : Int32) (h : pq_H) : Option pq_H :=
  lp (fun _ => none) (f_X11_putsNumber_l2 p1 h) 1000 1
set_option maxRecDepth 100000 in
set_option maxHeartbeats 4000000 in
theorem c_X11_putsNumber (g : pq_g) {A : Nat → Prop} (hA : pq_A (SM g) A) (l : Launch) (p1 : Int32) (h : pq_H) {hh : pq_H} (e : f_X11_putsNumber p1 h = some hh) : pq_M (SM g) A l yX11_putsNumber cX11_putsNumber 3 none 1 21 [.ref ((SM g).1.2.1 0), .int p1] h none hh := by
  refine pq_met hA l (own := RX11) 1 21 _ [(0, .ref ((SM g).1.2.1 0)), (1, .int p1)] h _ hh (by decide +kernel) rfl (Nat.le_of_ble_eq_true rfl) rfl (fun X hXl hXA hB hK hR => ?_)
  refine V.cast (F' := f_X11_putsNumber p1 h) (res' := hh) (fun _ => e) ?_
  have hn18 : ∀ (n : Nat), ∀ (v2 : Int32) (h : pq_H), V X (SM g) hh 3 18 [(0, .ref ((SM g).1.2.1 0)), (1, .int p1), (2, .int v2)] [] h (lp (fun _ _ => none) (f_X11_putsNumber_l18 p1) n v2 h) := by
    refine lp_ind (fun (w18 : Int32 → pq_H → Option pq_H) => ∀ (v2 : Int32) (h : pq_H), V X (SM g) hh 3 18 [(0, .ref ((SM g).1.2.1 0)), (1, .int p1), (2, .int v2)] [] h (w18 v2 h)) (fun _ _ => V.none _ _ _ _) (fun w18 ih18 => ?_)
    intro v2 h
    unfold f_X11_putsNumber_l18
    refine v_iload_n hB 2 dX11_putsNumber_18 rfl rfl ?_
    refine v_if_le (tgt := 43) hB dX11_putsNumber_19 rfl ?_ ?_
    · exact v_retWv hB hK hR dX11_putsNumber_43
    · refine v_aload_n hB 0 dX11_putsNumber_22 rfl rfl ?_
      refine v_bipush hB 48 dX11_putsNumber_23 (by decide) ?_
      refine v_iload_n hB 1 dX11_putsNumber_25 rfl rfl ?_
      refine v_iload_n hB 2 dX11_putsNumber_26 rfl rfl ?_
      refine v_idivG hB dX11_putsNumber_27 ?_
      refine v_bipush hB 10 dX11_putsNumber_28 (by decide) ?_
      refine v_irem hB dX11_putsNumber_30 (by decide) ?_
      refine v_iadd hB dX11_putsNumber_31 ?_
      refine v_bV (fun h32 e32 => v_callV hB hK hR.rm [.int (48 + ((p1 / v2) - (p1 / v2) / 10 * 10))] [] (oM_0 g) lb_X11_puts lv_X11_370 (c_X11_puts g hK.A X.1.2.1 (48 + ((p1 / v2) - (p1 / v2) / 10 * 10)) h e32) dX11_putsNumber_32 rfl rfl (Nat.le_of_ble_eq_true rfl) (by decide) (by decide)) (fun h32 => ?_)
      refine v_iload_n hB 2 dX11_putsNumber_35 rfl rfl ?_
      refine v_bipush hB 10 dX11_putsNumber_36 (by decide) ?_
      refine v_idiv hB dX11_putsNumber_38 (by decide) ?_
      refine v_istore_n hB [(0, .ref ((SM g).1.2.1 0)), (1, .int p1), (2, .int (v2 / 10))] [1, 2, 0] dX11_putsNumber_39 rfl (by decide) rfl ?_
      refine v_goto (tgt := 18) hB dX11_putsNumber_40 rfl ?_
      exact V.sub [0, 1, 2] rfl (ih18 (v2 / 10) h32)
  have hn2 : ∀ (h : pq_H) (n : Nat), ∀ (v2 : Int32), V X (SM g) hh 3 2 [(0, .ref ((SM g).1.2.1 0)), (1, .int p1), (2, .int v2)] [] h (lp (fun _ => none) (f_X11_putsNumber_l2 p1 h) n v2) := by
    intro h
    refine lp_ind (fun (w2 : Int32 → Option pq_H) => ∀ (v2 : Int32), V X (SM g) hh 3 2 [(0, .ref ((SM g).1.2.1 0)), (1, .int p1), (2, .int v2)] [] h (w2 v2)) (fun _ => V.none _ _ _ _) (fun w2 ih2 => ?_)
    intro v2
    unfold f_X11_putsNumber_l2
    refine v_iload_n hB 1 dX11_putsNumber_2 rfl rfl ?_
    refine v_iload_n hB 2 dX11_putsNumber_3 rfl rfl ?_
    refine v_idivG hB dX11_putsNumber_4 ?_
    refine v_bipush hB 9 dX11_putsNumber_5 (by decide) ?_
    refine v_icmp_le (tgt := 18) hB dX11_putsNumber_7 rfl ?_ ?_
    · exact V.sub [0, 1, 2] rfl (hn18 1000 v2 h)
    · refine v_iload_n hB 2 dX11_putsNumber_10 rfl rfl ?_
      refine v_bipush hB 10 dX11_putsNumber_11 (by decide) ?_
      refine v_imul hB dX11_putsNumber_13 ?_
      refine v_istore_n hB [(0, .ref ((SM g).1.2.1 0)), (1, .int p1), (2, .int (v2 * 10))] [1, 2, 0] dX11_putsNumber_14 rfl (by decide) rfl ?_
      refine v_goto (tgt := 2) hB dX11_putsNumber_15 rfl ?_
      exact V.sub [0, 1, 2] rfl (ih2 (v2 * 10))
  unfold f_X11_putsNumber
  refine v_iconst hB 1 dX11_putsNumber_0 (by decide) ?_
  refine v_istore_n hB [(0, .ref ((SM g).1.2.1 0)), (1, .int p1), (2, .int 1)] [1, 2, 0] dX11_putsNumber_1 rfl (by decide) rfl ?_
  exact V.sub [0, 1, 2] rfl (hn2 h 1000 1)

def f_X11_spells_j165 (h : pq_H) : Option pq_H :=
  if (rI h 0 36) = 0 then ((f_X11_puts 48 h).bind fun h175 => some h175) else (some h)
def f_X11_spells_j159 (w14 : Int32 → pq_H → Option pq_H) (v3 : Int32) (h : pq_H) : Option pq_H :=
  w14 (v3 + 1) h
def f_X11_spells_j153 (w14 : Int32 → pq_H → Option pq_H) (w100 : Int32 → pq_H → Option pq_H) (v5 : Int32) (h : pq_H) : Option pq_H :=
  w100 (v5 + 1) h
def f_X11_spells_j129 (w14 : Int32 → pq_H → Option pq_H) (w100 : Int32 → pq_H → Option pq_H) (v5 : Int32) (v6 : Int32) (h : pq_H) : Option pq_H :=
  if 2 ≤ v6 then ((f_X11_puts 94 h).bind fun h141 => (f_X11_puts (48 + v6) h141).bind fun h150 => f_X11_spells_j153 w14 w100 v5 h150) else (f_X11_spells_j153 w14 w100 v5 h)
def f_X11_spells_l100 (v2 : Int32) (w14 : Int32 → pq_H → Option pq_H) (v3 : Int32) (w100 : Int32 → pq_H → Option pq_H) (v5 : Int32) (h : pq_H) : Option pq_H :=
  if 3 ≤ v5 then (f_X11_spells_j159 w14 v3 h) else ((f_X11_powerIn v2 v3 v5).bind fun r110 => if r110 ≤ 0 then (f_X11_spells_j129 w14 w100 v5 r110 h) else ((f_X11_puts (97 + v5) h).bind fun h126 => f_X11_spells_j129 w14 w100 v5 r110 h126))
def f_X11_spells_j97 (v2 : Int32) (w14 : Int32 → pq_H → Option pq_H) (v3 : Int32) (h : pq_H) : Option pq_H :=
  lp (fun _ _ => none) (f_X11_spells_l100 v2 w14 v3) 1000 0 h
def f_X11_spells_j91 (v2 : Int32) (w14 : Int32 → pq_H → Option pq_H) (v3 : Int32) (v4 : Int32) (h : pq_H) : Option pq_H :=
  (f_X11_putsNumber v4 h).bind fun h94 => f_X11_spells_j97 v2 w14 v3 h94
def f_X11_spells_j79 (v2 : Int32) (w14 : Int32 → pq_H → Option pq_H) (v3 : Int32) (s0 : Int32) (h : pq_H) : Option pq_H :=
  if s0 = 1 then (if v2 = 0 then (f_X11_spells_j91 v2 w14 v3 s0 h) else (f_X11_spells_j97 v2 w14 v3 h)) else (f_X11_spells_j91 v2 w14 v3 s0 h)
def f_X11_spells_j66 (v2 : Int32) (w14 : Int32 → pq_H → Option pq_H) (v3 : Int32) (v4 : Int32) (h : pq_H) : Option pq_H :=
  if 0 ≤ v4 then (f_X11_spells_j79 v2 w14 v3 v4 h) else (f_X11_spells_j79 v2 w14 v3 (-v4) h)
def f_X11_spells_l14 (p1 : Int32) (v2 : Int32) (w14 : Int32 → pq_H → Option pq_H) (v3 : Int32) (h : pq_H) : Option pq_H :=
  (f_X11_isTerm p1 v3 h).bind fun r17 => if r17 = true then ((f_X11_coefficientOf p1 v3 h).bind fun r26 => if r26 = 0 then (f_X11_spells_j159 w14 v3 h) else (if 0 ≤ r26 then (if (rI h 0 36) ≤ 0 then (f_X11_spells_j66 v2 w14 v3 r26 h) else ((f_X11_puts 43 h).bind fun h63 => f_X11_spells_j66 v2 w14 v3 r26 h63)) else ((f_X11_puts 45 h).bind fun h47 => f_X11_spells_j66 v2 w14 v3 r26 h47))) else (f_X11_spells_j165 h)
def f_X11_spells (p1 : Int32) (h : pq_H) : Option pq_H :=
  hl (wI h 0 36 0) fun h2 => gd (inb p1 6) (lp (fun _ _ => none) (f_X11_spells_l14 p1 (rI h2 5 p1.toNatClampNeg)) 1000 0 h2)
set_option maxRecDepth 100000 in
set_option maxHeartbeats 4000000 in
theorem c_X11_spells (g : pq_g) {A : Nat → Prop} (hA : pq_A (SM g) A) (l : Launch) (p1 : Int32) (h : pq_H) {hh : pq_H} (e : f_X11_spells p1 h = some hh) : pq_M (SM g) A l yX11_spells cX11_spells 7 none 3 71 [.ref ((SM g).1.2.1 0), .int p1] h none hh := by
  refine pq_met hA l (own := RX11) 3 71 _ [(0, .ref ((SM g).1.2.1 0)), (1, .int p1)] h _ hh (by decide +kernel) rfl (Nat.le_of_ble_eq_true rfl) rfl (fun X hXl hXA hB hK hR => ?_)
  refine V.cast (F' := f_X11_spells p1 h) (res' := hh) (fun _ => e) ?_
  have hn165 : ∀ (h : pq_H), V X (SM g) hh 7 165 [(0, .ref ((SM g).1.2.1 0))] [] h (f_X11_spells_j165 h) := by
    intro h
    unfold f_X11_spells_j165
    refine v_aload_n hB 0 dX11_spells_165 rfl rfl ?_
    refine v_getI hB hK (fl_X11_367 g) (cMI_0_36 g) dX11_spells_166 ?_
    refine v_if_ne (tgt := 178) hB dX11_spells_169 rfl ?_ ?_
    · exact v_retWv hB hK hR dX11_spells_178
    · refine v_aload_n hB 0 dX11_spells_172 rfl rfl ?_
      refine v_bipush hB 48 dX11_spells_173 (by decide) ?_
      refine v_bV (fun h175 e175 => v_callV hB hK hR.rm [.int 48] [] (oM_0 g) lb_X11_puts lv_X11_370 (c_X11_puts g hK.A X.1.2.1 48 h e175) dX11_spells_175 rfl rfl (Nat.le_of_ble_eq_true rfl) (by decide) (by decide)) (fun h175 => ?_)
      exact v_retWv hB hK hR dX11_spells_178
  have hn14 : ∀ (v2 : Int32) (n : Nat), ∀ (v3 : Int32) (h : pq_H), V X (SM g) hh 7 14 [(0, .ref ((SM g).1.2.1 0)), (1, .int p1), (2, .int v2), (3, .int v3)] [] h (lp (fun _ _ => none) (f_X11_spells_l14 p1 v2) n v3 h) := by
    intro v2
    refine lp_ind (fun (w14 : Int32 → pq_H → Option pq_H) => ∀ (v3 : Int32) (h : pq_H), V X (SM g) hh 7 14 [(0, .ref ((SM g).1.2.1 0)), (1, .int p1), (2, .int v2), (3, .int v3)] [] h (w14 v3 h)) (fun _ _ => V.none _ _ _ _) (fun w14 ih14 => ?_)
    have hn159 : ∀ (v3 : Int32) (h : pq_H), V X (SM g) hh 7 159 [(0, .ref ((SM g).1.2.1 0)), (1, .int p1), (2, .int v2), (3, .int v3)] [] h (f_X11_spells_j159 w14 v3 h) := by
      intro v3 h
      unfold f_X11_spells_j159
      refine v_iinc hB (v3 + 1) [(0, .ref ((SM g).1.2.1 0)), (1, .int p1), (2, .int v2), (3, .int (v3 + 1))] 3 [1, 2, 3, 0] dX11_spells_159 rfl rfl (by decide) rfl ?_
      refine v_goto (tgt := 14) hB dX11_spells_162 rfl ?_
      exact V.sub [0, 1, 2, 3] rfl (ih14 (v3 + 1) h)
    have hn100 : ∀ (v3 : Int32) (n : Nat), ∀ (v5 : Int32) (h : pq_H), V X (SM g) hh 7 100 [(0, .ref ((SM g).1.2.1 0)), (1, .int p1), (2, .int v2), (3, .int v3), (5, .int v5)] [] h (lp (fun _ _ => none) (f_X11_spells_l100 v2 w14 v3) n v5 h) := by
      intro v3
      refine lp_ind (fun (w100 : Int32 → pq_H → Option pq_H) => ∀ (v5 : Int32) (h : pq_H), V X (SM g) hh 7 100 [(0, .ref ((SM g).1.2.1 0)), (1, .int p1), (2, .int v2), (3, .int v3), (5, .int v5)] [] h (w100 v5 h)) (fun _ _ => V.none _ _ _ _) (fun w100 ih100 => ?_)
      have hn153 : ∀ (v5 : Int32) (h : pq_H), V X (SM g) hh 7 153 [(0, .ref ((SM g).1.2.1 0)), (1, .int p1), (2, .int v2), (3, .int v3), (5, .int v5)] [] h (f_X11_spells_j153 w14 w100 v5 h) := by
        intro v5 h
        unfold f_X11_spells_j153
        refine v_iinc hB (v5 + 1) [(0, .ref ((SM g).1.2.1 0)), (1, .int p1), (2, .int v2), (3, .int v3), (5, .int (v5 + 1))] 4 [1, 2, 3, 4, 0] dX11_spells_153 rfl rfl (by decide) rfl ?_
        refine v_goto (tgt := 100) hB dX11_spells_156 rfl ?_
        exact V.sub [0, 1, 2, 3, 4] rfl (ih100 (v5 + 1) h)
      have hn129 : ∀ (v5 : Int32) (v6 : Int32) (h : pq_H), V X (SM g) hh 7 129 [(0, .ref ((SM g).1.2.1 0)), (1, .int p1), (2, .int v2), (3, .int v3), (5, .int v5), (6, .int v6)] [] h (f_X11_spells_j129 w14 w100 v5 v6 h) := by
        intro v5 v6 h
        unfold f_X11_spells_j129
        refine v_iload hB 5 dX11_spells_129 rfl ?_
        refine v_iconst hB 2 dX11_spells_131 (by decide) ?_
        refine v_icmp_ge (tgt := 138) hB dX11_spells_132 rfl ?_ ?_
        · refine v_aload_n hB 0 dX11_spells_138 rfl rfl ?_
          refine v_bipush hB 94 dX11_spells_139 (by decide) ?_
          refine v_bV (fun h141 e141 => v_callV hB hK hR.rm [.int 94] [] (oM_0 g) lb_X11_puts lv_X11_370 (c_X11_puts g hK.A X.1.2.1 94 h e141) dX11_spells_141 rfl rfl (Nat.le_of_ble_eq_true rfl) (by decide) (by decide)) (fun h141 => ?_)
          refine v_aload_n hB 0 dX11_spells_144 rfl rfl ?_
          refine v_bipush hB 48 dX11_spells_145 (by decide) ?_
          refine v_iload hB 5 dX11_spells_147 rfl ?_
          refine v_iadd hB dX11_spells_149 ?_
          refine v_bV (fun h150 e150 => v_callV hB hK hR.rm [.int (48 + v6)] [] (oM_0 g) lb_X11_puts lv_X11_370 (c_X11_puts g hK.A X.1.2.1 (48 + v6) h141 e150) dX11_spells_150 rfl rfl (Nat.le_of_ble_eq_true rfl) (by decide) (by decide)) (fun h150 => ?_)
          exact V.sub [0, 1, 2, 3, 4] rfl (hn153 v5 h150)
        · refine v_goto (tgt := 153) hB dX11_spells_135 rfl ?_
          exact V.sub [0, 1, 2, 3, 4] rfl (hn153 v5 h)
      intro v5 h
      unfold f_X11_spells_l100
      refine v_iload hB 4 dX11_spells_100 rfl ?_
      refine v_iconst hB 3 dX11_spells_102 (by decide) ?_
      refine v_icmp_ge (tgt := 159) hB dX11_spells_103 rfl ?_ ?_
      · exact V.sub [0, 1, 2, 3] rfl (hn159 v3 h)
      · refine v_iload_n hB 2 dX11_spells_106 rfl rfl ?_
        refine v_iload_n hB 3 dX11_spells_107 rfl rfl ?_
        refine v_iload hB 4 dX11_spells_108 rfl ?_
        refine v_bRi (fun r110 e110 => v_callS hB hK hR.rm [.int v2, .int v3, .int v5] [] lb_X11_powerIn lv_X11_17 (c_X11_powerIn g hK.A X.1.2.1 v2 v3 v5 h e110) dX11_spells_110 rfl rfl (Nat.le_of_ble_eq_true rfl) (by decide) (by decide)) (fun r110 => ?_)
        refine v_istore hB [(0, .ref ((SM g).1.2.1 0)), (1, .int p1), (2, .int v2), (3, .int v3), (5, .int v5), (6, .int r110)] [1, 2, 3, 4, 5, 0] dX11_spells_113 (by decide) rfl ?_
        refine v_iload hB 5 dX11_spells_115 rfl ?_
        refine v_if_le (tgt := 129) hB dX11_spells_117 rfl ?_ ?_
        · exact V.sub [0, 1, 2, 3, 4, 5] rfl (hn129 v5 r110 h)
        · refine v_aload_n hB 0 dX11_spells_120 rfl rfl ?_
          refine v_bipush hB 97 dX11_spells_121 (by decide) ?_
          refine v_iload hB 4 dX11_spells_123 rfl ?_
          refine v_iadd hB dX11_spells_125 ?_
          refine v_bV (fun h126 e126 => v_callV hB hK hR.rm [.int (97 + v5)] [] (oM_0 g) lb_X11_puts lv_X11_370 (c_X11_puts g hK.A X.1.2.1 (97 + v5) h e126) dX11_spells_126 rfl rfl (Nat.le_of_ble_eq_true rfl) (by decide) (by decide)) (fun h126 => ?_)
          exact V.sub [0, 1, 2, 3, 4, 5] rfl (hn129 v5 r110 h126)
    have hn97 : ∀ (v3 : Int32) (h : pq_H), V X (SM g) hh 7 97 [(0, .ref ((SM g).1.2.1 0)), (1, .int p1), (2, .int v2), (3, .int v3)] [] h (f_X11_spells_j97 v2 w14 v3 h) := by
      intro v3 h
      unfold f_X11_spells_j97
      refine v_iconst hB 0 dX11_spells_97 (by decide) ?_
      refine v_istore hB [(0, .ref ((SM g).1.2.1 0)), (1, .int p1), (2, .int v2), (3, .int v3), (5, .int 0)] [1, 2, 3, 4, 0] dX11_spells_98 (by decide) rfl ?_
      exact V.sub [0, 1, 2, 3, 4] rfl (hn100 v3 1000 0 h)
    have hn91 : ∀ (v3 : Int32) (v4 : Int32) (h : pq_H), V X (SM g) hh 7 91 [(0, .ref ((SM g).1.2.1 0)), (1, .int p1), (2, .int v2), (3, .int v3), (4, .int v4)] [] h (f_X11_spells_j91 v2 w14 v3 v4 h) := by
      intro v3 v4 h
      unfold f_X11_spells_j91
      refine v_aload_n hB 0 dX11_spells_91 rfl rfl ?_
      refine v_iload hB 4 dX11_spells_92 rfl ?_
      refine v_bV (fun h94 e94 => v_callV hB hK hR.rm [.int v4] [] (oM_0 g) lb_X11_putsNumber lv_X11_373 (c_X11_putsNumber g hK.A X.1.2.1 v4 h e94) dX11_spells_94 rfl rfl (Nat.le_of_ble_eq_true rfl) (by decide) (by decide)) (fun h94 => ?_)
      exact V.sub [0, 1, 2, 3] rfl (hn97 v3 h94)
    have hn79 : ∀ (v3 : Int32) (s0 : Int32) (h : pq_H), V X (SM g) hh 7 79 [(0, .ref ((SM g).1.2.1 0)), (1, .int p1), (2, .int v2), (3, .int v3)] [.int s0] h (f_X11_spells_j79 v2 w14 v3 s0 h) := by
      intro v3 s0 h
      unfold f_X11_spells_j79
      refine v_istore hB [(0, .ref ((SM g).1.2.1 0)), (1, .int p1), (2, .int v2), (3, .int v3), (4, .int s0)] [1, 2, 3, 4, 0] dX11_spells_79 (by decide) rfl ?_
      refine v_iload hB 4 dX11_spells_81 rfl ?_
      refine v_iconst hB 1 dX11_spells_83 (by decide) ?_
      refine v_icmp_ne (tgt := 91) hB dX11_spells_84 rfl ?_ ?_
      · exact V.sub [0, 1, 2, 3, 4] rfl (hn91 v3 s0 h)
      · refine v_iload_n hB 2 dX11_spells_87 rfl rfl ?_
        refine v_if_ne (tgt := 97) hB dX11_spells_88 rfl ?_ ?_
        · exact V.sub [0, 1, 2, 3] rfl (hn97 v3 h)
        · exact V.sub [0, 1, 2, 3, 4] rfl (hn91 v3 s0 h)
    have hn66 : ∀ (v3 : Int32) (v4 : Int32) (h : pq_H), V X (SM g) hh 7 66 [(0, .ref ((SM g).1.2.1 0)), (1, .int p1), (2, .int v2), (3, .int v3), (4, .int v4)] [] h (f_X11_spells_j66 v2 w14 v3 v4 h) := by
      intro v3 v4 h
      unfold f_X11_spells_j66
      refine v_iload hB 4 dX11_spells_66 rfl ?_
      refine v_if_ge (tgt := 77) hB dX11_spells_68 rfl ?_ ?_
      · refine v_iload hB 4 dX11_spells_77 rfl ?_
        exact V.sub [0, 1, 2, 3] rfl (hn79 v3 v4 h)
      · refine v_iload hB 4 dX11_spells_71 rfl ?_
        refine v_ineg hB dX11_spells_73 ?_
        refine v_goto (tgt := 79) hB dX11_spells_74 rfl ?_
        exact V.sub [0, 1, 2, 3] rfl (hn79 v3 (-v4) h)
    intro v3 h
    unfold f_X11_spells_l14
    refine v_aload_n hB 0 dX11_spells_14 rfl rfl ?_
    refine v_iload_n hB 1 dX11_spells_15 rfl rfl ?_
    refine v_iload_n hB 3 dX11_spells_16 rfl rfl ?_
    refine v_bRz (fun r17 e17 => v_callV hB hK hR.rm [.int p1, .int v3] [] (oM_0 g) lb_X11_isTerm lv_X11_111 (c_X11_isTerm g hK.A X.1.2.1 p1 v3 h e17) dX11_spells_17 rfl rfl (Nat.le_of_ble_eq_true rfl) (by decide) (by decide)) (fun r17 => ?_)
    refine v_ifz_eq (r := r17) (tgt := 165) hB dX11_spells_20 rfl ?_ ?_
    · exact V.sub [0] rfl (hn165 h)
    · refine v_aload_n hB 0 dX11_spells_23 rfl rfl ?_
      refine v_iload_n hB 1 dX11_spells_24 rfl rfl ?_
      refine v_iload_n hB 3 dX11_spells_25 rfl rfl ?_
      refine v_bRi (fun r26 e26 => v_callV hB hK hR.rm [.int p1, .int v3] [] (oM_0 g) lb_X11_coefficientOf lv_X11_115 (c_X11_coefficientOf g hK.A X.1.2.1 p1 v3 h e26) dX11_spells_26 rfl rfl (Nat.le_of_ble_eq_true rfl) (by decide) (by decide)) (fun r26 => ?_)
      refine v_istore hB [(0, .ref ((SM g).1.2.1 0)), (1, .int p1), (2, .int v2), (3, .int v3), (4, .int r26)] [1, 2, 3, 4, 0] dX11_spells_29 (by decide) rfl ?_
      refine v_iload hB 4 dX11_spells_31 rfl ?_
      refine v_if_ne (tgt := 39) hB dX11_spells_33 rfl ?_ ?_
      · refine v_iload hB 4 dX11_spells_39 rfl ?_
        refine v_if_ge (tgt := 53) hB dX11_spells_41 rfl ?_ ?_
        · refine v_aload_n hB 0 dX11_spells_53 rfl rfl ?_
          refine v_getI hB hK (fl_X11_367 g) (cMI_0_36 g) dX11_spells_54 ?_
          refine v_if_le (tgt := 66) hB dX11_spells_57 rfl ?_ ?_
          · exact V.sub [0, 1, 2, 3, 4] rfl (hn66 v3 r26 h)
          · refine v_aload_n hB 0 dX11_spells_60 rfl rfl ?_
            refine v_bipush hB 43 dX11_spells_61 (by decide) ?_
            refine v_bV (fun h63 e63 => v_callV hB hK hR.rm [.int 43] [] (oM_0 g) lb_X11_puts lv_X11_370 (c_X11_puts g hK.A X.1.2.1 43 h e63) dX11_spells_63 rfl rfl (Nat.le_of_ble_eq_true rfl) (by decide) (by decide)) (fun h63 => ?_)
            exact V.sub [0, 1, 2, 3, 4] rfl (hn66 v3 r26 h63)
        · refine v_aload_n hB 0 dX11_spells_44 rfl rfl ?_
          refine v_bipush hB 45 dX11_spells_45 (by decide) ?_
          refine v_bV (fun h47 e47 => v_callV hB hK hR.rm [.int 45] [] (oM_0 g) lb_X11_puts lv_X11_370 (c_X11_puts g hK.A X.1.2.1 45 h e47) dX11_spells_47 rfl rfl (Nat.le_of_ble_eq_true rfl) (by decide) (by decide)) (fun h47 => ?_)
          refine v_goto (tgt := 66) hB dX11_spells_50 rfl ?_
          exact V.sub [0, 1, 2, 3, 4] rfl (hn66 v3 r26 h47)
      · refine v_goto (tgt := 159) hB dX11_spells_36 rfl ?_
        exact V.sub [0, 1, 2, 3] rfl (hn159 v3 h)
  unfold f_X11_spells
  refine v_aload_n hB 0 dX11_spells_0 rfl rfl ?_
  refine v_iconst hB 0 dX11_spells_1 (by decide) ?_
  refine v_putI hB hK (fl_X11_367 g) (fin_X11_36 g) (cMI_0_36 g) dX11_spells_2 ?_
  refine v_hl (fun h2 => ?_)
  refine v_aload_n hB 0 dX11_spells_5 rfl rfl ?_
  refine v_getA hB hK (fl_X11_36 g) (cMA_0_4 g) dX11_spells_6 ?_
  refine v_iload_n hB 1 dX11_spells_9 rfl rfl ?_
  refine v_iald hB hK (aMI_5 g) dX11_spells_10 ?_
  refine v_istore_n hB [(0, .ref ((SM g).1.2.1 0)), (1, .int p1), (2, .int (rI h2 5 p1.toNatClampNeg))] [1, 2, 0] dX11_spells_11 rfl (by decide) rfl ?_
  refine v_iconst hB 0 dX11_spells_12 (by decide) ?_
  refine v_istore_n hB [(0, .ref ((SM g).1.2.1 0)), (1, .int p1), (2, .int (rI h2 5 p1.toNatClampNeg)), (3, .int 0)] [1, 2, 3, 0] dX11_spells_13 rfl (by decide) rfl ?_
  exact V.sub [0, 1, 2, 3] rfl (hn14 (rI h2 5 p1.toNatClampNeg) 1000 0 h2)

def f_X11_spelled_j23 (p1 : Int32) (p2 : Int32) (s0 : Int32) (h : pq_H) : Option (Int32 × pq_H) :=
  if s0 = 0 then ((f_X11_spells p1 h).bind fun h36 => if 0 ≤ p2 then (if (rI h36 0 36) ≤ p2 then (some ((-9), h36)) else (gd (inb p2 500) (some (rI h36 19 p2.toNatClampNeg, h36)))) else (some (rI h36 0 36, h36))) else (bd2 (f_X11_no s0 h) fun r30 h30 => some (r30, h30))
def f_X11_spelled (p1 : Int32) (p2 : Int32) (h : pq_H) : Option (Int32 × pq_H) :=
  if (f_X11_isForm p1 h) = true then (if (-1) ≤ p2 then (f_X11_spelled_j23 p1 p2 0 h) else (f_X11_spelled_j23 p1 p2 (-4) h)) else (f_X11_spelled_j23 p1 p2 (-1) h)
set_option maxRecDepth 100000 in
set_option maxHeartbeats 4000000 in
theorem c_X11_spelled (g : pq_g) {A : Nat → Prop} (hA : pq_A (SM g) A) (l : Launch) (p1 : Int32) (p2 : Int32) (h : pq_H) {rr : Int32} {hh : pq_H} (e : f_X11_spelled p1 p2 h = some (rr, hh)) : pq_M (SM g) A l yX11_spelled cX11_spelled 4 (some .int) 4 97 [.ref ((SM g).1.2.1 0), .int p1, .int p2] h (some (.int rr)) hh := by
  refine pq_met hA l (own := RX11) 4 97 _ [(0, .ref ((SM g).1.2.1 0)), (1, .int p1), (2, .int p2)] h _ hh (by decide +kernel) rfl (Nat.le_of_ble_eq_true rfl) rfl (fun X hXl hXA hB hK hR => ?_)
  refine V.cast (F' := f_X11_spelled p1 p2 h) (res' := (rr, hh)) (fun _ => e) ?_
  have hn23 : ∀ (s0 : Int32) (h : pq_H), V X (SM g) (rr, hh) 4 23 [(0, .ref ((SM g).1.2.1 0)), (1, .int p1), (2, .int p2)] [.int s0] h (f_X11_spelled_j23 p1 p2 s0 h) := by
    intro s0 h
    unfold f_X11_spelled_j23
    refine v_istore_n hB [(0, .ref ((SM g).1.2.1 0)), (1, .int p1), (2, .int p2), (3, .int s0)] [1, 2, 3, 0] dX11_spelled_23 rfl (by decide) rfl ?_
    refine v_iload_n hB 3 dX11_spelled_24 rfl rfl ?_
    refine v_if_eq (tgt := 34) hB dX11_spelled_25 rfl ?_ ?_
    · refine v_aload_n hB 0 dX11_spelled_34 rfl rfl ?_
      refine v_iload_n hB 1 dX11_spelled_35 rfl rfl ?_
      refine v_bV (fun h36 e36 => v_callV hB hK hR.rm [.int p1] [] (oM_0 g) lb_X11_spells lv_X11_376 (c_X11_spells g hK.A X.1.2.1 p1 h e36) dX11_spelled_36 rfl rfl (Nat.le_of_ble_eq_true rfl) (by decide) (by decide)) (fun h36 => ?_)
      refine v_iload_n hB 2 dX11_spelled_39 rfl rfl ?_
      refine v_if_ge (tgt := 50) hB dX11_spelled_40 rfl ?_ ?_
      · refine v_iload_n hB 2 dX11_spelled_50 rfl rfl ?_
        refine v_aload_n hB 0 dX11_spelled_51 rfl rfl ?_
        refine v_getI hB hK (fl_X11_367 g) (cMI_0_36 g) dX11_spelled_52 ?_
        refine v_icmp_ge (tgt := 67) hB dX11_spelled_55 rfl ?_ ?_
        · refine v_bipush hB (-9) dX11_spelled_67 (by decide) ?_
          exact v_retWi (x := (-9)) hB hK hR dX11_spelled_69
        · refine v_aload_n hB 0 dX11_spelled_58 rfl rfl ?_
          refine v_getA hB hK (fl_X11_79 g) (cMA_0_35 g) dX11_spelled_59 ?_
          refine v_iload_n hB 2 dX11_spelled_62 rfl rfl ?_
          refine v_iald hB hK (aMI_19 g) dX11_spelled_63 ?_
          refine v_goto (tgt := 69) hB dX11_spelled_64 rfl ?_
          exact v_retWi (x := rI h36 19 p2.toNatClampNeg) hB hK hR dX11_spelled_69
      · refine v_aload_n hB 0 dX11_spelled_43 rfl rfl ?_
        refine v_getI hB hK (fl_X11_367 g) (cMI_0_36 g) dX11_spelled_44 ?_
        refine v_goto (tgt := 69) hB dX11_spelled_47 rfl ?_
        exact v_retWi (x := rI h36 0 36) hB hK hR dX11_spelled_69
    · refine v_aload_n hB 0 dX11_spelled_28 rfl rfl ?_
      refine v_iload_n hB 3 dX11_spelled_29 rfl rfl ?_
      refine v_bWi (fun r30 h30 e30 => v_callV hB hK hR.rm [.int s0] [] (oM_0 g) lb_X11_no lv_X11_8 (c_X11_no g hK.A X.1.2.1 s0 h e30) dX11_spelled_30 rfl rfl (Nat.le_of_ble_eq_true rfl) (by decide) (by decide)) (fun r30 h30 => ?_)
      exact v_retWi (x := r30) hB hK hR dX11_spelled_33
  unfold f_X11_spelled
  refine v_aload_n hB 0 dX11_spelled_0 rfl rfl ?_
  refine v_iload_n hB 1 dX11_spelled_1 rfl rfl ?_
  refine v_bT (v_callV hB hK hR.rm [.int p1] [] (oM_0 g) lb_X11_isForm lv_X11_143 (c_X11_isForm g hK.A X.1.2.1 p1 h) dX11_spelled_2 rfl rfl (Nat.le_of_ble_eq_true rfl) (by decide) (by decide)) ?_
  refine v_ifz_ne (r := f_X11_isForm p1 h) (tgt := 12) hB dX11_spelled_5 rfl ?_ ?_
  · refine v_iload_n hB 2 dX11_spelled_12 rfl rfl ?_
    refine v_iconst hB (-1) dX11_spelled_13 (by decide) ?_
    refine v_icmp_ge (tgt := 22) hB dX11_spelled_14 rfl ?_ ?_
    · refine v_iconst hB 0 dX11_spelled_22 (by decide) ?_
      exact V.sub [0, 1, 2] rfl (hn23 0 h)
    · refine v_bipush hB (-4) dX11_spelled_17 (by decide) ?_
      refine v_goto (tgt := 23) hB dX11_spelled_19 rfl ?_
      exact V.sub [0, 1, 2] rfl (hn23 (-4) h)
  · refine v_iconst hB (-1) dX11_spelled_8 (by decide) ?_
    refine v_goto (tgt := 23) hB dX11_spelled_9 rfl ?_
    exact V.sub [0, 1, 2] rfl (hn23 (-1) h)

def f_X11_draw (p1 : Int32) (h : pq_H) : Option (Int32 × pq_H) :=
  hl (wI h 0 37 (((rI h 0 37) * 1664525) + 1013904223)) fun h13 => gd (p1 != 0) (some ((((rI h13 0 37) &&& 2147483647) / 256) - (((rI h13 0 37) &&& 2147483647) / 256) / p1 * p1, h13))
set_option maxRecDepth 100000 in
set_option maxHeartbeats 4000000 in
theorem c_X11_draw (g : pq_g) {A : Nat → Prop} (hA : pq_A (SM g) A) (l : Launch) (p1 : Int32) (h : pq_H) {rr : Int32} {hh : pq_H} (e : f_X11_draw p1 h = some (rr, hh)) : pq_M (SM g) A l yX11_draw cX11_draw 2 (some .int) 0 0 [.ref ((SM g).1.2.1 0), .int p1] h (some (.int rr)) hh := by
  refine pq_met hA l (own := RX11) 0 0 _ [(0, .ref ((SM g).1.2.1 0)), (1, .int p1)] h _ hh (by decide +kernel) rfl (Nat.le_of_ble_eq_true rfl) rfl (fun X hXl hXA hB hK hR => ?_)
  refine V.cast (F' := f_X11_draw p1 h) (res' := (rr, hh)) (fun _ => e) ?_
  unfold f_X11_draw
  refine v_aload_n hB 0 dX11_draw_0 rfl rfl ?_
  refine v_aload_n hB 0 dX11_draw_1 rfl rfl ?_
  refine v_getI hB hK (fl_X11_379 g) (cMI_0_37 g) dX11_draw_2 ?_
  refine v_ldcw hB 1664525 k_X11_382 dX11_draw_5 ?_
  refine v_imul hB dX11_draw_8 ?_
  refine v_ldcw hB 1013904223 k_X11_383 dX11_draw_9 ?_
  refine v_iadd hB dX11_draw_12 ?_
  refine v_putI hB hK (fl_X11_379 g) (fin_X11_37 g) (cMI_0_37 g) dX11_draw_13 ?_
  refine v_hl (fun h13 => ?_)
  refine v_aload_n hB 0 dX11_draw_16 rfl rfl ?_
  refine v_getI hB hK (fl_X11_379 g) (cMI_0_37 g) dX11_draw_17 ?_
  refine v_ldcw hB 2147483647 k_X11_384 dX11_draw_20 ?_
  refine v_iand hB dX11_draw_23 ?_
  refine v_sipush hB 256 dX11_draw_24 (by decide) ?_
  refine v_idiv hB dX11_draw_27 (by decide) ?_
  refine v_iload_n hB 1 dX11_draw_28 rfl rfl ?_
  refine v_iremG hB dX11_draw_29 ?_
  exact v_retWi (x := (((rI h13 0 37) &&& 2147483647) / 256) - (((rI h13 0 37) &&& 2147483647) / 256) / p1 * p1) hB hK hR dX11_draw_30

def f_X11_lots_j145 (p4 : Int32) (v6 : Int32) (v7 : Int32) (h : pq_H) : Option (Int32 × pq_H) :=
  if p4 = 0 then (some (v6, h)) else (some (v7, h))
def f_X11_lots_j136 (w66 : Int32 → Int32 → Int32 → pq_H → Option (Int32 × pq_H)) (v6 : Int32) (v8 : Int32) (s0 : Int32) (s1 : Int32) (h : pq_H) : Option (Int32 × pq_H) :=
  w66 v6 (s0 + s1) (v8 + 1) h
def f_X11_lots_j119 (w66 : Int32 → Int32 → Int32 → pq_H → Option (Int32 × pq_H)) (v7 : Int32) (v8 : Int32) (v11 : Int64) (s0 : Int32) (s1 : Int32) (h : pq_H) : Option (Int32 × pq_H) :=
  if v11 = 0 then (f_X11_lots_j136 w66 (s0 + s1) v8 v7 1 h) else (f_X11_lots_j136 w66 (s0 + s1) v8 v7 0 h)
def f_X11_lots_l66 (p1 : Int32) (p2 : Int32) (p4 : Int32) (w66 : Int32 → Int32 → Int32 → pq_H → Option (Int32 × pq_H)) (v6 : Int32) (v7 : Int32) (v8 : Int32) (h : pq_H) : Option (Int32 × pq_H) :=
  if p2 ≤ v8 then (f_X11_lots_j145 p4 v6 v7 h) else (bd2 (f_X11_draw 10 h) fun r75 h75 => bd2 (f_X11_draw 10 h75) fun r83 h83 => bd2 (f_X11_draw 10 h83) fun r97 h97 => (f_X11_valueAt p1 r75 r83 r97 h97).bind fun r100 => if 0 ≤ r100 then (f_X11_lots_j119 w66 v7 v8 r100 v6 0 h97) else (f_X11_lots_j119 w66 v7 v8 r100 v6 1 h97))
def f_X11_lots_j40 (p1 : Int32) (p2 : Int32) (p3 : Int32) (p4 : Int32) (v5 : Int32) (h : pq_H) : Option (Int32 × pq_H) :=
  if v5 = 0 then (hl (wI h 0 37 p3) fun h54 => lp (fun _ _ _ _ => none) (f_X11_lots_l66 p1 p2 p4) 1000 0 0 0 h54) else (bd2 (f_X11_no v5 h) fun r48 h48 => some (r48, h48))
def f_X11_lots_j19 (p1 : Int32) (p2 : Int32) (p3 : Int32) (p4 : Int32) (s0 : Int32) (h : pq_H) : Option (Int32 × pq_H) :=
  if s0 = 0 then (if (f_X11_isIn p4 0 1) = true then (f_X11_lots_j40 p1 p2 p3 p4 s0 h) else (f_X11_lots_j40 p1 p2 p3 p4 (-2) h)) else (f_X11_lots_j40 p1 p2 p3 p4 s0 h)
def f_X11_lots (p1 : Int32) (p2 : Int32) (p3 : Int32) (p4 : Int32) (h : pq_H) : Option (Int32 × pq_H) :=
  if (f_X11_isForm p1 h) = true then (f_X11_lots_j19 p1 p2 p3 p4 (f_X11_bound p2 1 50) h) else (f_X11_lots_j19 p1 p2 p3 p4 (-1) h)
set_option maxRecDepth 100000 in
set_option maxHeartbeats 4000000 in
theorem c_X11_lots (g : pq_g) {A : Nat → Prop} (hA : pq_A (SM g) A) (l : Launch) (p1 : Int32) (p2 : Int32) (p3 : Int32) (p4 : Int32) (h : pq_H) {rr : Int32} {hh : pq_H} (e : f_X11_lots p1 p2 p3 p4 h = some (rr, hh)) : pq_M (SM g) A l yX11_lots cX11_lots 13 (some .int) 4 99 [.ref ((SM g).1.2.1 0), .int p1, .int p2, .int p3, .int p4] h (some (.int rr)) hh := by
  refine pq_met hA l (own := RX11) 4 99 _ [(0, .ref ((SM g).1.2.1 0)), (1, .int p1), (2, .int p2), (3, .int p3), (4, .int p4)] h _ hh (by decide +kernel) rfl (Nat.le_of_ble_eq_true rfl) rfl (fun X hXl hXA hB hK hR => ?_)
  refine V.cast (F' := f_X11_lots p1 p2 p3 p4 h) (res' := (rr, hh)) (fun _ => e) ?_
  have hn145 : ∀ (v6 : Int32) (v7 : Int32) (h : pq_H), V X (SM g) (rr, hh) 13 145 [(4, .int p4), (6, .int v6), (7, .int v7)] [] h (f_X11_lots_j145 p4 v6 v7 h) := by
    intro v6 v7 h
    unfold f_X11_lots_j145
    refine v_iload hB 0 dX11_lots_145 rfl ?_
    refine v_if_ne (tgt := 155) hB dX11_lots_147 rfl ?_ ?_
    · refine v_iload hB 2 dX11_lots_155 rfl ?_
      exact v_retWi (x := v7) hB hK hR dX11_lots_157
    · refine v_iload hB 1 dX11_lots_150 rfl ?_
      refine v_goto (tgt := 157) hB dX11_lots_152 rfl ?_
      exact v_retWi (x := v6) hB hK hR dX11_lots_157
  have hn66 : ∀ (n : Nat), ∀ (v6 : Int32) (v7 : Int32) (v8 : Int32) (h : pq_H), V X (SM g) (rr, hh) 13 66 [(0, .ref ((SM g).1.2.1 0)), (1, .int p1), (2, .int p2), (4, .int p4), (6, .int v6), (7, .int v7), (8, .int v8)] [] h (lp (fun _ _ _ _ => none) (f_X11_lots_l66 p1 p2 p4) n v6 v7 v8 h) := by
    refine lp_ind (fun (w66 : Int32 → Int32 → Int32 → pq_H → Option (Int32 × pq_H)) => ∀ (v6 : Int32) (v7 : Int32) (v8 : Int32) (h : pq_H), V X (SM g) (rr, hh) 13 66 [(0, .ref ((SM g).1.2.1 0)), (1, .int p1), (2, .int p2), (4, .int p4), (6, .int v6), (7, .int v7), (8, .int v8)] [] h (w66 v6 v7 v8 h)) (fun _ _ _ _ => V.none _ _ _ _) (fun w66 ih66 => ?_)
    have hn136 : ∀ (v6 : Int32) (v8 : Int32) (s0 : Int32) (s1 : Int32) (h : pq_H), V X (SM g) (rr, hh) 13 136 [(0, .ref ((SM g).1.2.1 0)), (1, .int p1), (2, .int p2), (4, .int p4), (6, .int v6), (8, .int v8)] [.int s1, .int s0] h (f_X11_lots_j136 w66 v6 v8 s0 s1 h) := by
      intro v6 v8 s0 s1 h
      unfold f_X11_lots_j136
      refine v_iadd hB dX11_lots_136 ?_
      refine v_istore hB [(0, .ref ((SM g).1.2.1 0)), (1, .int p1), (2, .int p2), (4, .int p4), (6, .int v6), (7, .int (s0 + s1)), (8, .int v8)] [1, 2, 3, 4, 5, 0, 6] dX11_lots_137 (by decide) rfl ?_
      refine v_iinc hB (v8 + 1) [(0, .ref ((SM g).1.2.1 0)), (1, .int p1), (2, .int p2), (4, .int p4), (6, .int v6), (7, .int (s0 + s1)), (8, .int (v8 + 1))] 6 [1, 2, 3, 4, 5, 6, 0] dX11_lots_139 rfl rfl (by decide) rfl ?_
      refine v_goto (tgt := 66) hB dX11_lots_142 rfl ?_
      exact V.sub [0, 1, 2, 3, 4, 5, 6] rfl (ih66 v6 (s0 + s1) (v8 + 1) h)
    have hn119 : ∀ (v7 : Int32) (v8 : Int32) (v11 : Int64) (s0 : Int32) (s1 : Int32) (h : pq_H), V X (SM g) (rr, hh) 13 119 [(0, .ref ((SM g).1.2.1 0)), (1, .int p1), (2, .int p2), (4, .int p4), (7, .int v7), (8, .int v8), (11, .long v11)] [.int s1, .int s0] h (f_X11_lots_j119 w66 v7 v8 v11 s0 s1 h) := by
      intro v7 v8 v11 s0 s1 h
      unfold f_X11_lots_j119
      refine v_iadd hB dX11_lots_119 ?_
      refine v_istore hB [(0, .ref ((SM g).1.2.1 0)), (1, .int p1), (2, .int p2), (4, .int p4), (6, .int (s0 + s1)), (7, .int v7), (8, .int v8), (11, .long v11)] [1, 2, 3, 4, 0, 5, 6, 7] dX11_lots_120 (by decide) rfl ?_
      refine v_iload hB 5 dX11_lots_122 rfl ?_
      refine v_lload hB 7 dX11_lots_124 rfl ?_
      refine v_lconst hB 0 dX11_lots_126 (by decide) ?_
      refine v_lcmp_ne (tgt := 135) hB dX11_lots_127 dX11_lots_128 rfl ?_ ?_
      · refine v_iconst hB 0 dX11_lots_135 (by decide) ?_
        exact V.sub [0, 1, 2, 3, 4, 6] rfl (hn136 (s0 + s1) v8 v7 0 h)
      · refine v_iconst hB 1 dX11_lots_131 (by decide) ?_
        refine v_goto (tgt := 136) hB dX11_lots_132 rfl ?_
        exact V.sub [0, 1, 2, 3, 4, 6] rfl (hn136 (s0 + s1) v8 v7 1 h)
    intro v6 v7 v8 h
    unfold f_X11_lots_l66
    refine v_iload hB 6 dX11_lots_66 rfl ?_
    refine v_iload_n hB 2 dX11_lots_68 rfl rfl ?_
    refine v_icmp_ge (tgt := 145) hB dX11_lots_69 rfl ?_ ?_
    · exact V.sub [3, 4, 5] rfl (hn145 v6 v7 h)
    · refine v_aload_n hB 0 dX11_lots_72 rfl rfl ?_
      refine v_bipush hB 10 dX11_lots_73 (by decide) ?_
      refine v_bWi (fun r75 h75 e75 => v_callV hB hK hR.rm [.int 10] [] (oM_0 g) lb_X11_draw lv_X11_385 (c_X11_draw g hK.A X.1.2.1 10 h e75) dX11_lots_75 rfl rfl (Nat.le_of_ble_eq_true rfl) (by decide) (by decide)) (fun r75 h75 => ?_)
      refine v_istore hB [(0, .ref ((SM g).1.2.1 0)), (1, .int p1), (2, .int p2), (4, .int p4), (6, .int v6), (7, .int v7), (8, .int v8), (9, .int r75)] [1, 2, 3, 4, 5, 6, 7, 0] dX11_lots_78 (by decide) rfl ?_
      refine v_aload_n hB 0 dX11_lots_80 rfl rfl ?_
      refine v_bipush hB 10 dX11_lots_81 (by decide) ?_
      refine v_bWi (fun r83 h83 e83 => v_callV hB hK hR.rm [.int 10] [] (oM_0 g) lb_X11_draw lv_X11_385 (c_X11_draw g hK.A X.1.2.1 10 h75 e83) dX11_lots_83 rfl rfl (Nat.le_of_ble_eq_true rfl) (by decide) (by decide)) (fun r83 h83 => ?_)
      refine v_istore hB [(0, .ref ((SM g).1.2.1 0)), (1, .int p1), (2, .int p2), (4, .int p4), (6, .int v6), (7, .int v7), (8, .int v8), (9, .int r75), (10, .int r83)] [1, 2, 3, 4, 5, 6, 7, 8, 0] dX11_lots_86 (by decide) rfl ?_
      refine v_aload_n hB 0 dX11_lots_88 rfl rfl ?_
      refine v_iload_n hB 1 dX11_lots_89 rfl rfl ?_
      refine v_iload hB 7 dX11_lots_90 rfl ?_
      refine v_iload hB 8 dX11_lots_92 rfl ?_
      refine v_aload_n hB 0 dX11_lots_94 rfl rfl ?_
      refine v_bipush hB 10 dX11_lots_95 (by decide) ?_
      refine v_bWi (fun r97 h97 e97 => v_callV hB hK hR.rm [.int 10] [.int r83, .int r75, .int p1, .ref ((SM g).1.2.1 0)] (oM_0 g) lb_X11_draw lv_X11_385 (c_X11_draw g hK.A X.1.2.1 10 h83 e97) dX11_lots_97 rfl rfl (Nat.le_of_ble_eq_true rfl) (by decide) (by decide)) (fun r97 h97 => ?_)
      refine v_bRj (fun r100 e100 => v_callV hB hK hR.rm [.int p1, .int r75, .int r83, .int r97] [] (oM_0 g) lb_X11_valueAt lv_X11_235 (c_X11_valueAt g hK.A X.1.2.1 p1 r75 r83 r97 h97 e100) dX11_lots_100 rfl rfl (Nat.le_of_ble_eq_true rfl) (by decide) (by decide)) (fun r100 => ?_)
      refine v_lstore hB [(0, .ref ((SM g).1.2.1 0)), (1, .int p1), (2, .int p2), (4, .int p4), (6, .int v6), (7, .int v7), (8, .int v8), (9, .int r75), (10, .int r83), (11, .long r100)] [1, 2, 3, 4, 5, 6, 7, 8, 9, 0] dX11_lots_103 (by decide) rfl ?_
      refine v_iload hB 4 dX11_lots_105 rfl ?_
      refine v_lload hB 9 dX11_lots_107 rfl ?_
      refine v_lconst hB 0 dX11_lots_109 (by decide) ?_
      refine v_lcmp_ge (tgt := 118) hB dX11_lots_110 dX11_lots_111 rfl ?_ ?_
      · refine v_iconst hB 0 dX11_lots_118 (by decide) ?_
        exact V.sub [0, 1, 2, 3, 5, 6, 9] rfl (hn119 v7 v8 r100 v6 0 h97)
      · refine v_iconst hB 1 dX11_lots_114 (by decide) ?_
        refine v_goto (tgt := 119) hB dX11_lots_115 rfl ?_
        exact V.sub [0, 1, 2, 3, 5, 6, 9] rfl (hn119 v7 v8 r100 v6 1 h97)
  have hn40 : ∀ (v5 : Int32) (h : pq_H), V X (SM g) (rr, hh) 13 40 [(0, .ref ((SM g).1.2.1 0)), (1, .int p1), (2, .int p2), (3, .int p3), (4, .int p4), (5, .int v5)] [] h (f_X11_lots_j40 p1 p2 p3 p4 v5 h) := by
    intro v5 h
    unfold f_X11_lots_j40
    refine v_iload hB 5 dX11_lots_40 rfl ?_
    refine v_if_eq (tgt := 52) hB dX11_lots_42 rfl ?_ ?_
    · refine v_aload_n hB 0 dX11_lots_52 rfl rfl ?_
      refine v_iload_n hB 3 dX11_lots_53 rfl rfl ?_
      refine v_putI hB hK (fl_X11_379 g) (fin_X11_37 g) (cMI_0_37 g) dX11_lots_54 ?_
      refine v_hl (fun h54 => ?_)
      refine v_iconst hB 0 dX11_lots_57 (by decide) ?_
      refine v_istore hB [(0, .ref ((SM g).1.2.1 0)), (1, .int p1), (2, .int p2), (3, .int p3), (4, .int p4), (5, .int v5), (6, .int 0)] [1, 2, 3, 4, 5, 6, 0] dX11_lots_58 (by decide) rfl ?_
      refine v_iconst hB 0 dX11_lots_60 (by decide) ?_
      refine v_istore hB [(0, .ref ((SM g).1.2.1 0)), (1, .int p1), (2, .int p2), (3, .int p3), (4, .int p4), (5, .int v5), (6, .int 0), (7, .int 0)] [1, 2, 3, 4, 5, 6, 7, 0] dX11_lots_61 (by decide) rfl ?_
      refine v_iconst hB 0 dX11_lots_63 (by decide) ?_
      refine v_istore hB [(0, .ref ((SM g).1.2.1 0)), (1, .int p1), (2, .int p2), (3, .int p3), (4, .int p4), (5, .int v5), (6, .int 0), (7, .int 0), (8, .int 0)] [1, 2, 3, 4, 5, 6, 7, 8, 0] dX11_lots_64 (by decide) rfl ?_
      exact V.sub [0, 1, 2, 4, 6, 7, 8] rfl (hn66 1000 0 0 0 h54)
    · refine v_aload_n hB 0 dX11_lots_45 rfl rfl ?_
      refine v_iload hB 5 dX11_lots_46 rfl ?_
      refine v_bWi (fun r48 h48 e48 => v_callV hB hK hR.rm [.int v5] [] (oM_0 g) lb_X11_no lv_X11_8 (c_X11_no g hK.A X.1.2.1 v5 h e48) dX11_lots_48 rfl rfl (Nat.le_of_ble_eq_true rfl) (by decide) (by decide)) (fun r48 h48 => ?_)
      exact v_retWi (x := r48) hB hK hR dX11_lots_51
  have hn19 : ∀ (s0 : Int32) (h : pq_H), V X (SM g) (rr, hh) 13 19 [(0, .ref ((SM g).1.2.1 0)), (1, .int p1), (2, .int p2), (3, .int p3), (4, .int p4)] [.int s0] h (f_X11_lots_j19 p1 p2 p3 p4 s0 h) := by
    intro s0 h
    unfold f_X11_lots_j19
    refine v_istore hB [(0, .ref ((SM g).1.2.1 0)), (1, .int p1), (2, .int p2), (3, .int p3), (4, .int p4), (5, .int s0)] [1, 2, 3, 4, 5, 0] dX11_lots_19 (by decide) rfl ?_
    refine v_iload hB 5 dX11_lots_21 rfl ?_
    refine v_if_ne (tgt := 40) hB dX11_lots_23 rfl ?_ ?_
    · exact V.sub [0, 1, 2, 3, 4, 5] rfl (hn40 s0 h)
    · refine v_iload hB 4 dX11_lots_26 rfl ?_
      refine v_iconst hB 0 dX11_lots_28 (by decide) ?_
      refine v_iconst hB 1 dX11_lots_29 (by decide) ?_
      refine v_bT (v_callS hB hK hR.rm [.int p4, .int 0, .int 1] [] lb_X11_isIn lv_X11_98 (c_X11_isIn g hK.A X.1.2.1 p4 0 1 h) dX11_lots_30 rfl rfl (Nat.le_of_ble_eq_true rfl) (by decide) (by decide)) ?_
      refine v_ifz_ne (r := f_X11_isIn p4 0 1) (tgt := 40) hB dX11_lots_33 rfl ?_ ?_
      · exact V.sub [0, 1, 2, 3, 4, 5] rfl (hn40 s0 h)
      · refine v_bipush hB (-2) dX11_lots_36 (by decide) ?_
        refine v_istore hB [(0, .ref ((SM g).1.2.1 0)), (1, .int p1), (2, .int p2), (3, .int p3), (4, .int p4), (5, .int (-2))] [1, 2, 3, 4, 5, 0] dX11_lots_38 (by decide) rfl ?_
        exact V.sub [0, 1, 2, 3, 4, 5] rfl (hn40 (-2) h)
  unfold f_X11_lots
  refine v_aload_n hB 0 dX11_lots_0 rfl rfl ?_
  refine v_iload_n hB 1 dX11_lots_1 rfl rfl ?_
  refine v_bT (v_callV hB hK hR.rm [.int p1] [] (oM_0 g) lb_X11_isForm lv_X11_143 (c_X11_isForm g hK.A X.1.2.1 p1 h) dX11_lots_2 rfl rfl (Nat.le_of_ble_eq_true rfl) (by decide) (by decide)) ?_
  refine v_ifz_ne (r := f_X11_isForm p1 h) (tgt := 12) hB dX11_lots_5 rfl ?_ ?_
  · refine v_iload_n hB 2 dX11_lots_12 rfl rfl ?_
    refine v_iconst hB 1 dX11_lots_13 (by decide) ?_
    refine v_bipush hB 50 dX11_lots_14 (by decide) ?_
    refine v_bT (v_callS hB hK hR.rm [.int p2, .int 1, .int 50] [] lb_X11_bound lv_X11_154 (c_X11_bound g hK.A X.1.2.1 p2 1 50 h) dX11_lots_16 rfl rfl (Nat.le_of_ble_eq_true rfl) (by decide) (by decide)) ?_
    exact V.sub [0, 1, 2, 3, 4] rfl (hn19 (f_X11_bound p2 1 50) h)
  · refine v_iconst hB (-1) dX11_lots_8 (by decide) ?_
    refine v_goto (tgt := 19) hB dX11_lots_9 rfl ?_
    exact V.sub [0, 1, 2, 3, 4] rfl (hn19 (-1) h)

def f_X11_list_l42 (p1 : Int32) (w42 : Int32 → pq_H → Option (Int32 × pq_H)) (v3 : Int32) (h : pq_H) : Option (Int32 × pq_H) :=
  if 40 ≤ v3 then (some (1, h)) else (gd (inb ((40 * p1) + v3) 120) (w42 (v3 + 1) (wI h 21 ((40 * p1) + v3).toNatClampNeg 0)))
def f_X11_list (p1 : Int32) (p2 : Int32) (h : pq_H) : Option (Int32 × pq_H) :=
  if (f_X11_isList p1) = true then (if p2 ≤ 40 then (if 0 ≤ p2 then (gd (inb p1 3) (hl (wI h 20 p1.toNatClampNeg p2) fun h39 => lp (fun _ _ => none) (f_X11_list_l42 p1) 1000 0 h39)) else (some ((-14), h))) else (bd2 (f_X11_no (-6) h) fun r22 h22 => some (r22, h22))) else (bd2 (f_X11_no (-1) h) fun r9 h9 => some (r9, h9))
set_option maxRecDepth 100000 in
set_option maxHeartbeats 4000000 in
theorem c_X11_list (g : pq_g) {A : Nat → Prop} (hA : pq_A (SM g) A) (l : Launch) (p1 : Int32) (p2 : Int32) (h : pq_H) {rr : Int32} {hh : pq_H} (e : f_X11_list p1 p2 h = some (rr, hh)) : pq_M (SM g) A l yX11_list cX11_list 4 (some .int) 2 42 [.ref ((SM g).1.2.1 0), .int p1, .int p2] h (some (.int rr)) hh := by
  refine pq_met hA l (own := RX11) 2 42 _ [(0, .ref ((SM g).1.2.1 0)), (1, .int p1), (2, .int p2)] h _ hh (by decide +kernel) rfl (Nat.le_of_ble_eq_true rfl) rfl (fun X hXl hXA hB hK hR => ?_)
  refine V.cast (F' := f_X11_list p1 p2 h) (res' := (rr, hh)) (fun _ => e) ?_
  have hn42 : ∀ (n : Nat), ∀ (v3 : Int32) (h : pq_H), V X (SM g) (rr, hh) 4 42 [(0, .ref ((SM g).1.2.1 0)), (1, .int p1), (3, .int v3)] [] h (lp (fun _ _ => none) (f_X11_list_l42 p1) n v3 h) := by
    refine lp_ind (fun (w42 : Int32 → pq_H → Option (Int32 × pq_H)) => ∀ (v3 : Int32) (h : pq_H), V X (SM g) (rr, hh) 4 42 [(0, .ref ((SM g).1.2.1 0)), (1, .int p1), (3, .int v3)] [] h (w42 v3 h)) (fun _ _ => V.none _ _ _ _) (fun w42 ih42 => ?_)
    intro v3 h
    unfold f_X11_list_l42
    refine v_iload_n hB 2 dX11_list_42 rfl rfl ?_
    refine v_bipush hB 40 dX11_list_43 (by decide) ?_
    refine v_icmp_ge (tgt := 66) hB dX11_list_45 rfl ?_ ?_
    · refine v_iconst hB 1 dX11_list_66 (by decide) ?_
      exact v_retWi (x := 1) hB hK hR dX11_list_67
    · refine v_aload_n hB 0 dX11_list_48 rfl rfl ?_
      refine v_getA hB hK (fl_X11_85 g) (cMA_0_39 g) dX11_list_49 ?_
      refine v_bipush hB 40 dX11_list_52 (by decide) ?_
      refine v_iload_n hB 1 dX11_list_54 rfl rfl ?_
      refine v_imul hB dX11_list_55 ?_
      refine v_iload_n hB 2 dX11_list_56 rfl rfl ?_
      refine v_iadd hB dX11_list_57 ?_
      refine v_iconst hB 0 dX11_list_58 (by decide) ?_
      refine v_iast hB hK (aMI_21 g) dX11_list_59 ?_
      refine v_iinc hB (v3 + 1) [(0, .ref ((SM g).1.2.1 0)), (1, .int p1), (3, .int (v3 + 1))] 2 [1, 2, 0] dX11_list_60 rfl rfl (by decide) rfl ?_
      refine v_goto (tgt := 42) hB dX11_list_63 rfl ?_
      exact V.sub [0, 1, 2] rfl (ih42 (v3 + 1) (wI h 21 ((40 * p1) + v3).toNatClampNeg 0))
  unfold f_X11_list
  refine v_iload_n hB 1 dX11_list_0 rfl rfl ?_
  refine v_bT (v_callS hB hK hR.rm [.int p1] [] lb_X11_isList lv_X11_310 (c_X11_isList g hK.A X.1.2.1 p1 h) dX11_list_1 rfl rfl (Nat.le_of_ble_eq_true rfl) (by decide) (by decide)) ?_
  refine v_ifz_ne (r := f_X11_isList p1) (tgt := 13) hB dX11_list_4 rfl ?_ ?_
  · refine v_iload_n hB 2 dX11_list_13 rfl rfl ?_
    refine v_bipush hB 40 dX11_list_14 (by decide) ?_
    refine v_icmp_le (tgt := 26) hB dX11_list_16 rfl ?_ ?_
    · refine v_iload_n hB 2 dX11_list_26 rfl rfl ?_
      refine v_if_ge (tgt := 33) hB dX11_list_27 rfl ?_ ?_
      · refine v_aload_n hB 0 dX11_list_33 rfl rfl ?_
        refine v_getA hB hK (fl_X11_82 g) (cMA_0_38 g) dX11_list_34 ?_
        refine v_iload_n hB 1 dX11_list_37 rfl rfl ?_
        refine v_iload_n hB 2 dX11_list_38 rfl rfl ?_
        refine v_iast hB hK (aMI_20 g) dX11_list_39 ?_
        refine v_hl (fun h39 => ?_)
        refine v_iconst hB 0 dX11_list_40 (by decide) ?_
        refine v_istore_n hB [(0, .ref ((SM g).1.2.1 0)), (1, .int p1), (2, .int p2), (3, .int 0)] [1, 2, 3, 0] dX11_list_41 rfl (by decide) rfl ?_
        exact V.sub [0, 1, 3] rfl (hn42 1000 0 h39)
      · refine v_bipush hB (-14) dX11_list_30 (by decide) ?_
        exact v_retWi (x := (-14)) hB hK hR dX11_list_32
    · refine v_aload_n hB 0 dX11_list_19 rfl rfl ?_
      refine v_bipush hB (-6) dX11_list_20 (by decide) ?_
      refine v_bWi (fun r22 h22 e22 => v_callV hB hK hR.rm [.int (-6)] [] (oM_0 g) lb_X11_no lv_X11_8 (c_X11_no g hK.A X.1.2.1 (-6) h e22) dX11_list_22 rfl rfl (Nat.le_of_ble_eq_true rfl) (by decide) (by decide)) (fun r22 h22 => ?_)
      exact v_retWi (x := r22) hB hK hR dX11_list_25
  · refine v_aload_n hB 0 dX11_list_7 rfl rfl ?_
    refine v_iconst hB (-1) dX11_list_8 (by decide) ?_
    refine v_bWi (fun r9 h9 e9 => v_callV hB hK hR.rm [.int (-1)] [] (oM_0 g) lb_X11_no lv_X11_8 (c_X11_no g hK.A X.1.2.1 (-1) h e9) dX11_list_9 rfl rfl (Nat.le_of_ble_eq_true rfl) (by decide) (by decide)) (fun r9 h9 => ?_)
    exact v_retWi (x := r9) hB hK hR dX11_list_12

def f_X11_notPlace (p1 : Int32) (p2 : Int32) (h : pq_H) : Option Int32 :=
  gd (inb p1 3) (if 0 ≤ (rI h 20 p1.toNatClampNeg) then (gd (inb p1 3) (if (f_X11_isIn p2 0 ((rI h 20 p1.toNatClampNeg) - 1)) = true then (some 0) else (some (-13)))) else (some (-11)))
set_option maxRecDepth 100000 in
set_option maxHeartbeats 4000000 in
theorem c_X11_notPlace (g : pq_g) {A : Nat → Prop} (hA : pq_A (SM g) A) (l : Launch) (p1 : Int32) (p2 : Int32) (h : pq_H) {rr : Int32} (e : f_X11_notPlace p1 p2 h = some rr) : pq_M (SM g) A l yX11_notPlace cX11_notPlace 3 (some .int) 1 22 [.ref ((SM g).1.2.1 0), .int p1, .int p2] h (some (.int rr)) h := by
  refine pq_met hA l (own := RX11) 1 22 _ [(0, .ref ((SM g).1.2.1 0)), (1, .int p1), (2, .int p2)] h _ h (by decide +kernel) rfl (Nat.le_of_ble_eq_true rfl) rfl (fun X hXl hXA hB hK hR => ?_)
  refine V.cast (F' := f_X11_notPlace p1 p2 h) (res' := rr) (fun _ => e) ?_
  unfold f_X11_notPlace
  refine v_aload_n hB 0 dX11_notPlace_0 rfl rfl ?_
  refine v_getA hB hK (fl_X11_82 g) (cMA_0_38 g) dX11_notPlace_1 ?_
  refine v_iload_n hB 1 dX11_notPlace_4 rfl rfl ?_
  refine v_iald hB hK (aMI_20 g) dX11_notPlace_5 ?_
  refine v_if_ge (tgt := 14) hB dX11_notPlace_6 rfl ?_ ?_
  · refine v_iload_n hB 2 dX11_notPlace_14 rfl rfl ?_
    refine v_iconst hB 0 dX11_notPlace_15 (by decide) ?_
    refine v_aload_n hB 0 dX11_notPlace_16 rfl rfl ?_
    refine v_getA hB hK (fl_X11_82 g) (cMA_0_38 g) dX11_notPlace_17 ?_
    refine v_iload_n hB 1 dX11_notPlace_20 rfl rfl ?_
    refine v_iald hB hK (aMI_20 g) dX11_notPlace_21 ?_
    refine v_iconst hB 1 dX11_notPlace_22 (by decide) ?_
    refine v_isub hB dX11_notPlace_23 ?_
    refine v_bT (v_callS hB hK hR.rm [.int p2, .int 0, .int ((rI h 20 p1.toNatClampNeg) - 1)] [] lb_X11_isIn lv_X11_98 (c_X11_isIn g hK.A X.1.2.1 p2 0 ((rI h 20 p1.toNatClampNeg) - 1) h) dX11_notPlace_24 rfl rfl (Nat.le_of_ble_eq_true rfl) (by decide) (by decide)) ?_
    refine v_ifz_ne (r := f_X11_isIn p2 0 ((rI h 20 p1.toNatClampNeg) - 1)) (tgt := 35) hB dX11_notPlace_27 rfl ?_ ?_
    · refine v_iconst hB 0 dX11_notPlace_35 (by decide) ?_
      exact v_retRi (x := 0) hB hK hR dX11_notPlace_36
    · refine v_bipush hB (-13) dX11_notPlace_30 (by decide) ?_
      refine v_goto (tgt := 36) hB dX11_notPlace_32 rfl ?_
      exact v_retRi (x := (-13)) hB hK hR dX11_notPlace_36
  · refine v_bipush hB (-11) dX11_notPlace_9 (by decide) ?_
    refine v_goto (tgt := 36) hB dX11_notPlace_11 rfl ?_
    exact v_retRi (x := (-11)) hB hK hR dX11_notPlace_36

