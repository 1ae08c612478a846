def f_X11_no (p1 : Int32) (h : pq_H) : Option (Int32 × pq_H) :=
  gd (inb (-p1) 7) (gd (inb (-p1) 7) (some (p1, wI h 1 (-p1).toNatClampNeg ((rI h 1 (-p1).toNatClampNeg) + 1))))
set_option maxRecDepth 100000 in
set_option maxHeartbeats 4000000 in
theorem c_X11_no (g : pq_g) {A : Nat → Prop} (hA : pq_A (SM g) A) (l : Launch) (p1 : Int32) (h : pq_H) {rr : Int32} {hh : pq_H} (e : f_X11_no p1 h = some (rr, hh)) : pq_M (SM g) A l yX11_no cX11_no 2 (some .int) 0 0 [.ref ((SM g).1.2.1 0), .int p1] h (some (.int rr)) hh := by
  refine pq_met hA l (own := RX11) 0 0 _ [(0, .ref ((SM g).1.2.1 0)), (1, .int p1)] h _ hh (by decide +kernel) rfl (Nat.le_of_ble_eq_true rfl) rfl (fun X hXl hXA hB hK hR => ?_)
  refine V.cast (F' := f_X11_no p1 h) (res' := (rr, hh)) (fun _ => e) ?_
  unfold f_X11_no
  refine v_aload_n hB 0 dX11_no_0 rfl rfl ?_
  refine v_getA hB hK (fl_X11_1 g) (cMA_0_0 g) dX11_no_1 ?_
  refine v_iload_n hB 1 dX11_no_4 rfl rfl ?_
  refine v_ineg hB dX11_no_5 ?_
  refine v_dup2 hB dX11_no_6 rfl rfl ?_
  refine v_iald hB hK (aMI_1 g) dX11_no_7 ?_
  refine v_iconst hB 1 dX11_no_8 (by decide) ?_
  refine v_iadd hB dX11_no_9 ?_
  refine v_iast hB hK (aMI_1 g) dX11_no_10 ?_
  refine v_iload_n hB 1 dX11_no_11 rfl rfl ?_
  exact v_retWi (x := p1) hB hK hR dX11_no_12

def f_X11_far (p1 : Int32) (h : pq_H) : Option (Int32 × pq_H) :=
  bd2 (f_X11_no p1 h) fun r4 h4 => some (1000000000 - r4, h4)
set_option maxRecDepth 100000 in
set_option maxHeartbeats 4000000 in
theorem c_X11_far (g : pq_g) {A : Nat → Prop} (hA : pq_A (SM g) A) (l : Launch) (p1 : Int32) (h : pq_H) {rr : Int32} {hh : pq_H} (e : f_X11_far p1 h = some (rr, hh)) : pq_M (SM g) A l yX11_far cX11_far 2 (some .int) 1 21 [.ref ((SM g).1.2.1 0), .int p1] h (some (.int rr)) hh := by
  refine pq_met hA l (own := RX11) 1 21 _ [(0, .ref ((SM g).1.2.1 0)), (1, .int p1)] h _ hh (by decide +kernel) rfl (Nat.le_of_ble_eq_true rfl) rfl (fun X hXl hXA hB hK hR => ?_)
  refine V.cast (F' := f_X11_far p1 h) (res' := (rr, hh)) (fun _ => e) ?_
  unfold f_X11_far
  refine v_ldc hB 1000000000 k_X11_7 dX11_far_0 ?_
  refine v_aload_n hB 0 dX11_far_2 rfl rfl ?_
  refine v_iload_n hB 1 dX11_far_3 rfl rfl ?_
  refine v_bWi (fun r4 h4 e4 => v_callV hB hK hR.rm [.int p1] [.int 1000000000] (oM_0 g) lb_X11_no lv_X11_8 (c_X11_no g hK.A X.1.2.1 p1 h e4) dX11_far_4 rfl rfl (Nat.le_of_ble_eq_true rfl) (by decide) (by decide)) (fun r4 h4 => ?_)
  refine v_isub hB dX11_far_7 ?_
  exact v_retWi (x := 1000000000 - r4) hB hK hR dX11_far_8

def f_X11_lower (p1 : Int32) (h : pq_H) : Option (Int64 × pq_H) :=
  bd2 (f_X11_no p1 h) fun r5 h5 => some (4000000000000000000 - r5.toInt64, h5)
set_option maxRecDepth 100000 in
set_option maxHeartbeats 4000000 in
theorem c_X11_lower (g : pq_g) {A : Nat → Prop} (hA : pq_A (SM g) A) (l : Launch) (p1 : Int32) (h : pq_H) {rr : Int64} {hh : pq_H} (e : f_X11_lower p1 h = some (rr, hh)) : pq_M (SM g) A l yX11_lower cX11_lower 2 (some .long) 1 21 [.ref ((SM g).1.2.1 0), .int p1] h (some (.long rr)) hh := by
  refine pq_met hA l (own := RX11) 1 21 _ [(0, .ref ((SM g).1.2.1 0)), (1, .int p1)] h _ hh (by decide +kernel) rfl (Nat.le_of_ble_eq_true rfl) rfl (fun X hXl hXA hB hK hR => ?_)
  refine V.cast (F' := f_X11_lower p1 h) (res' := (rr, hh)) (fun _ => e) ?_
  unfold f_X11_lower
  refine v_ldc2 hB 4000000000000000000 k_X11_12 dX11_lower_0 ?_
  refine v_aload_n hB 0 dX11_lower_3 rfl rfl ?_
  refine v_iload_n hB 1 dX11_lower_4 rfl rfl ?_
  refine v_bWi (fun r5 h5 e5 => v_callV hB hK hR.rm [.int p1] [.long 4000000000000000000] (oM_0 g) lb_X11_no lv_X11_8 (c_X11_no g hK.A X.1.2.1 p1 h e5) dX11_lower_5 rfl rfl (Nat.le_of_ble_eq_true rfl) (by decide) (by decide)) (fun r5 h5 => ?_)
  refine v_i2l hB dX11_lower_8 ?_
  refine v_lsub hB dX11_lower_9 ?_
  exact v_retWj (x := 4000000000000000000 - r5.toInt64) hB hK hR dX11_lower_10

def f_X11_isIn (p0 : Int32) (p1 : Int32) (p2 : Int32) : Bool :=
  if p0 < p1 then (false) else (if p2 < p0 then (false) else (true))
set_option maxRecDepth 100000 in
set_option maxHeartbeats 4000000 in
theorem c_X11_isIn (g : pq_g) {A : Nat → Prop} (hA : pq_A (SM g) A) (l : Launch) (p0 : Int32) (p1 : Int32) (p2 : Int32) (h : pq_H) : pq_M (SM g) A l yX11_isIn cX11_isIn 3 (some .boolean) 0 0 [.int p0, .int p1, .int p2] h (some (.int (b2i (f_X11_isIn p0 p1 p2)))) h := by
  refine pq_met hA l (own := RX11) 0 0 _ [(0, .int p0), (1, .int p1), (2, .int p2)] h _ h (by decide +kernel) rfl (Nat.le_of_ble_eq_true rfl) rfl (fun X hXl hXA hB hK hR => ?_)
  refine V.cast (F' := some (f_X11_isIn p0 p1 p2)) (res' := (f_X11_isIn p0 p1 p2)) (fun _ => rfl) ?_
  unfold f_X11_isIn
  refine v_iload_n hB 0 dX11_isIn_0 rfl rfl ?_
  refine v_iload_n hB 1 dX11_isIn_1 rfl rfl ?_
  refine v_icmp_ltT (tgt := 14) hB dX11_isIn_2 rfl ?_ ?_
  · refine v_iconst hB 0 dX11_isIn_14 (by decide) ?_
    exact v_retRz (x := false) hB hK hR dX11_isIn_15
  · refine v_iload_n hB 0 dX11_isIn_5 rfl rfl ?_
    refine v_iload_n hB 2 dX11_isIn_6 rfl rfl ?_
    refine v_icmp_gtT (tgt := 14) hB dX11_isIn_7 rfl ?_ ?_
    · refine v_iconst hB 0 dX11_isIn_14 (by decide) ?_
      exact v_retRz (x := false) hB hK hR dX11_isIn_15
    · refine v_iconst hB 1 dX11_isIn_10 (by decide) ?_
      refine v_goto (tgt := 15) hB dX11_isIn_11 rfl ?_
      exact v_retRz (x := true) hB hK hR dX11_isIn_15

def f_X11_bound (p0 : Int32) (p1 : Int32) (p2 : Int32) : Int32 :=
  if p1 ≤ p0 then (if p0 ≤ p2 then (0) else ((-6))) else ((-4))
set_option maxRecDepth 100000 in
set_option maxHeartbeats 4000000 in
theorem c_X11_bound (g : pq_g) {A : Nat → Prop} (hA : pq_A (SM g) A) (l : Launch) (p0 : Int32) (p1 : Int32) (p2 : Int32) (h : pq_H) : pq_M (SM g) A l yX11_bound cX11_bound 3 (some .int) 0 0 [.int p0, .int p1, .int p2] h (some (.int (f_X11_bound p0 p1 p2))) h := by
  refine pq_met hA l (own := RX11) 0 0 _ [(0, .int p0), (1, .int p1), (2, .int p2)] h _ h (by decide +kernel) rfl (Nat.le_of_ble_eq_true rfl) rfl (fun X hXl hXA hB hK hR => ?_)
  refine V.cast (F' := some (f_X11_bound p0 p1 p2)) (res' := (f_X11_bound p0 p1 p2)) (fun _ => rfl) ?_
  unfold f_X11_bound
  refine v_iload_n hB 0 dX11_bound_0 rfl rfl ?_
  refine v_iload_n hB 1 dX11_bound_1 rfl rfl ?_
  refine v_icmp_geT (tgt := 10) hB dX11_bound_2 rfl ?_ ?_
  · refine v_iload_n hB 0 dX11_bound_10 rfl rfl ?_
    refine v_iload_n hB 2 dX11_bound_11 rfl rfl ?_
    refine v_icmp_leT (tgt := 20) hB dX11_bound_12 rfl ?_ ?_
    · refine v_iconst hB 0 dX11_bound_20 (by decide) ?_
      exact v_retRi (x := 0) hB hK hR dX11_bound_21
    · refine v_bipush hB (-6) dX11_bound_15 (by decide) ?_
      refine v_goto (tgt := 21) hB dX11_bound_17 rfl ?_
      exact v_retRi (x := (-6)) hB hK hR dX11_bound_21
  · refine v_bipush hB (-4) dX11_bound_5 (by decide) ?_
    refine v_goto (tgt := 21) hB dX11_bound_7 rfl ?_
    exact v_retRi (x := (-4)) hB hK hR dX11_bound_21

def f_X11_termsOf (p0 : Int32) : Int32 :=
  ((p0 + 1) * (p0 + 2)) / 2
set_option maxRecDepth 100000 in
set_option maxHeartbeats 4000000 in
theorem c_X11_termsOf (g : pq_g) {A : Nat → Prop} (hA : pq_A (SM g) A) (l : Launch) (p0 : Int32) (h : pq_H) : pq_M (SM g) A l yX11_termsOf cX11_termsOf 1 (some .int) 0 0 [.int p0] h (some (.int (f_X11_termsOf p0))) h := by
  refine pq_met hA l (own := RX11) 0 0 _ [(0, .int p0)] h _ h (by decide +kernel) rfl (Nat.le_of_ble_eq_true rfl) rfl (fun X hXl hXA hB hK hR => ?_)
  refine V.cast (F' := some (f_X11_termsOf p0)) (res' := (f_X11_termsOf p0)) (fun _ => rfl) ?_
  unfold f_X11_termsOf
  refine v_iload_n hB 0 dX11_termsOf_0 rfl rfl ?_
  refine v_iconst hB 1 dX11_termsOf_1 (by decide) ?_
  refine v_iadd hB dX11_termsOf_2 ?_
  refine v_iload_n hB 0 dX11_termsOf_3 rfl rfl ?_
  refine v_iconst hB 2 dX11_termsOf_4 (by decide) ?_
  refine v_iadd hB dX11_termsOf_5 ?_
  refine v_imul hB dX11_termsOf_6 ?_
  refine v_iconst hB 2 dX11_termsOf_7 (by decide) ?_
  refine v_idiv hB dX11_termsOf_8 (by decide) ?_
  exact v_retRi (x := ((p0 + 1) * (p0 + 2)) / 2) hB hK hR dX11_termsOf_9

def f_X11_termOf (p0 : Int32) (p1 : Int32) (p2 : Int32) : Int32 :=
  (((p0 - p1) * ((p0 - p1) + 1)) / 2) + p2
set_option maxRecDepth 100000 in
set_option maxHeartbeats 4000000 in
theorem c_X11_termOf (g : pq_g) {A : Nat → Prop} (hA : pq_A (SM g) A) (l : Launch) (p0 : Int32) (p1 : Int32) (p2 : Int32) (h : pq_H) : pq_M (SM g) A l yX11_termOf cX11_termOf 3 (some .int) 0 0 [.int p0, .int p1, .int p2] h (some (.int (f_X11_termOf p0 p1 p2))) h := by
  refine pq_met hA l (own := RX11) 0 0 _ [(0, .int p0), (1, .int p1), (2, .int p2)] h _ h (by decide +kernel) rfl (Nat.le_of_ble_eq_true rfl) rfl (fun X hXl hXA hB hK hR => ?_)
  refine V.cast (F' := some (f_X11_termOf p0 p1 p2)) (res' := (f_X11_termOf p0 p1 p2)) (fun _ => rfl) ?_
  unfold f_X11_termOf
  refine v_iload_n hB 0 dX11_termOf_0 rfl rfl ?_
  refine v_iload_n hB 1 dX11_termOf_1 rfl rfl ?_
  refine v_isub hB dX11_termOf_2 ?_
  refine v_iload_n hB 0 dX11_termOf_3 rfl rfl ?_
  refine v_iload_n hB 1 dX11_termOf_4 rfl rfl ?_
  refine v_isub hB dX11_termOf_5 ?_
  refine v_iconst hB 1 dX11_termOf_6 (by decide) ?_
  refine v_iadd hB dX11_termOf_7 ?_
  refine v_imul hB dX11_termOf_8 ?_
  refine v_iconst hB 2 dX11_termOf_9 (by decide) ?_
  refine v_idiv hB dX11_termOf_10 (by decide) ?_
  refine v_iload_n hB 2 dX11_termOf_11 rfl rfl ?_
  refine v_iadd hB dX11_termOf_12 ?_
  exact v_retRi (x := (((p0 - p1) * ((p0 - p1) + 1)) / 2) + p2) hB hK hR dX11_termOf_13

def f_X11_restOf_l2 (p0 : Int32) (w2 : Int32 → Option Int32) (v1 : Int32) : Option Int32 :=
  if p0 < (((v1 + 1) * (v1 + 2)) / 2) then (some v1) else (w2 (v1 + 1))
def f_X11_restOf (p0 : Int32) : Option Int32 :=
  lp (fun _ => none) (f_X11_restOf_l2 p0) 1000 0
set_option maxRecDepth 100000 in
set_option maxHeartbeats 4000000 in
theorem c_X11_restOf (g : pq_g) {A : Nat → Prop} (hA : pq_A (SM g) A) (l : Launch) (p0 : Int32) (h : pq_H) {rr : Int32} (e : f_X11_restOf p0 = some rr) : pq_M (SM g) A l yX11_restOf cX11_restOf 2 (some .int) 0 0 [.int p0] h (some (.int rr)) h := by
  refine pq_met hA l (own := RX11) 0 0 _ [(0, .int p0)] h _ h (by decide +kernel) rfl (Nat.le_of_ble_eq_true rfl) rfl (fun X hXl hXA hB hK hR => ?_)
  refine V.cast (F' := f_X11_restOf p0) (res' := rr) (fun _ => e) ?_
  have hn2 : ∀ (n : Nat), ∀ (v1 : Int32), V X (SM g) rr 2 2 [(0, .int p0), (1, .int v1)] [] h (lp (fun _ => none) (f_X11_restOf_l2 p0) n v1) := by
    refine lp_ind (fun (w2 : Int32 → Option Int32) => ∀ (v1 : Int32), V X (SM g) rr 2 2 [(0, .int p0), (1, .int v1)] [] h (w2 v1)) (fun _ => V.none _ _ _ _) (fun w2 ih2 => ?_)
    intro v1
    unfold f_X11_restOf_l2
    refine v_iload_n hB 1 dX11_restOf_2 rfl rfl ?_
    refine v_iconst hB 1 dX11_restOf_3 (by decide) ?_
    refine v_iadd hB dX11_restOf_4 ?_
    refine v_iload_n hB 1 dX11_restOf_5 rfl rfl ?_
    refine v_iconst hB 2 dX11_restOf_6 (by decide) ?_
    refine v_iadd hB dX11_restOf_7 ?_
    refine v_imul hB dX11_restOf_8 ?_
    refine v_iconst hB 2 dX11_restOf_9 (by decide) ?_
    refine v_idiv hB dX11_restOf_10 (by decide) ?_
    refine v_iload_n hB 0 dX11_restOf_11 rfl rfl ?_
    refine v_icmp_gt (tgt := 21) hB dX11_restOf_12 rfl ?_ ?_
    · refine v_iload_n hB 1 dX11_restOf_21 rfl rfl ?_
      exact v_retRi (x := v1) hB hK hR dX11_restOf_22
    · refine v_iinc hB (v1 + 1) [(0, .int p0), (1, .int (v1 + 1))] 1 [1, 0] dX11_restOf_15 rfl rfl (by decide) rfl ?_
      refine v_goto (tgt := 2) hB dX11_restOf_18 rfl ?_
      exact V.sub [0, 1] rfl (ih2 (v1 + 1))
  unfold f_X11_restOf
  refine v_iconst hB 0 dX11_restOf_0 (by decide) ?_
  refine v_istore_n hB [(0, .int p0), (1, .int 0)] [1, 0] dX11_restOf_1 rfl (by decide) rfl ?_
  exact V.sub [0, 1] rfl (hn2 1000 0)

def f_X11_powerIn (p0 : Int32) (p1 : Int32) (p2 : Int32) : Option Int32 :=
  (f_X11_restOf p1).bind fun r1 => if p2 = 0 then (some (p0 - r1)) else (if p2 = 1 then (some (r1 - (p1 - ((r1 * (r1 + 1)) / 2)))) else (some (p1 - ((r1 * (r1 + 1)) / 2))))
set_option maxRecDepth 100000 in
set_option maxHeartbeats 4000000 in
theorem c_X11_powerIn (g : pq_g) {A : Nat → Prop} (hA : pq_A (SM g) A) (l : Launch) (p0 : Int32) (p1 : Int32) (p2 : Int32) (h : pq_H) {rr : Int32} (e : f_X11_powerIn p0 p1 p2 = some rr) : pq_M (SM g) A l yX11_powerIn cX11_powerIn 5 (some .int) 1 21 [.int p0, .int p1, .int p2] h (some (.int rr)) h := by
  refine pq_met hA l (own := RX11) 1 21 _ [(0, .int p0), (1, .int p1), (2, .int p2)] h _ h (by decide +kernel) rfl (Nat.le_of_ble_eq_true rfl) rfl (fun X hXl hXA hB hK hR => ?_)
  refine V.cast (F' := f_X11_powerIn p0 p1 p2) (res' := rr) (fun _ => e) ?_
  unfold f_X11_powerIn
  refine v_iload_n hB 1 dX11_powerIn_0 rfl rfl ?_
  refine v_bRi (fun r1 e1 => v_callS hB hK hR.rm [.int p1] [] lb_X11_restOf lv_X11_14 (c_X11_restOf g hK.A X.1.2.1 p1 h e1) dX11_powerIn_1 rfl rfl (Nat.le_of_ble_eq_true rfl) (by decide) (by decide)) (fun r1 => ?_)
  refine v_istore_n hB [(0, .int p0), (1, .int p1), (2, .int p2), (3, .int r1)] [1, 2, 3, 0] dX11_powerIn_4 rfl (by decide) rfl ?_
  refine v_iload_n hB 1 dX11_powerIn_5 rfl rfl ?_
  refine v_iload_n hB 3 dX11_powerIn_6 rfl rfl ?_
  refine v_iload_n hB 3 dX11_powerIn_7 rfl rfl ?_
  refine v_iconst hB 1 dX11_powerIn_8 (by decide) ?_
  refine v_iadd hB dX11_powerIn_9 ?_
  refine v_imul hB dX11_powerIn_10 ?_
  refine v_iconst hB 2 dX11_powerIn_11 (by decide) ?_
  refine v_idiv hB dX11_powerIn_12 (by decide) ?_
  refine v_isub hB dX11_powerIn_13 ?_
  refine v_istore hB [(0, .int p0), (1, .int p1), (2, .int p2), (3, .int r1), (4, .int (p1 - ((r1 * (r1 + 1)) / 2)))] [1, 2, 3, 4, 0] dX11_powerIn_14 (by decide) rfl ?_
  refine v_iload_n hB 2 dX11_powerIn_16 rfl rfl ?_
  refine v_if_ne (tgt := 26) hB dX11_powerIn_17 rfl ?_ ?_
  · refine v_iload_n hB 2 dX11_powerIn_26 rfl rfl ?_
    refine v_iconst hB 1 dX11_powerIn_27 (by decide) ?_
    refine v_icmp_ne (tgt := 38) hB dX11_powerIn_28 rfl ?_ ?_
    · refine v_iload hB 4 dX11_powerIn_38 rfl ?_
      exact v_retRi (x := p1 - ((r1 * (r1 + 1)) / 2)) hB hK hR dX11_powerIn_40
    · refine v_iload_n hB 3 dX11_powerIn_31 rfl rfl ?_
      refine v_iload hB 4 dX11_powerIn_32 rfl ?_
      refine v_isub hB dX11_powerIn_34 ?_
      refine v_goto (tgt := 40) hB dX11_powerIn_35 rfl ?_
      exact v_retRi (x := r1 - (p1 - ((r1 * (r1 + 1)) / 2))) hB hK hR dX11_powerIn_40
  · refine v_iload_n hB 0 dX11_powerIn_20 rfl rfl ?_
    refine v_iload_n hB 3 dX11_powerIn_21 rfl rfl ?_
    refine v_isub hB dX11_powerIn_22 ?_
    refine v_goto (tgt := 40) hB dX11_powerIn_23 rfl ?_
    exact v_retRi (x := p0 - r1) hB hK hR dX11_powerIn_40

def f_X11_isOn_j37 (w5 : Bool → Int32 → Option Bool) (v4 : Int32) (s0 : Bool) (s1 : Bool) : Option Bool :=
  w5 (s0 && s1) (v4 + 1)
def f_X11_isOn_j32 (w5 : Bool → Int32 → Option Bool) (v4 : Int32) (s0 : Bool) : Option Bool :=
  f_X11_isOn_j37 w5 v4 s0 true
def f_X11_isOn_l5 (p0 : Int32) (p1 : Int32) (p2 : Int32) (w5 : Bool → Int32 → Option Bool) (v3 : Bool) (v4 : Int32) : Option Bool :=
  if 3 ≤ v4 then (some v3) else (if ((p2 >>> (v4 &&& 31)) &&& 1) = 1 then (f_X11_isOn_j32 w5 v4 v3) else ((f_X11_powerIn p0 p1 v4).bind fun r26 => if r26 = 0 then (f_X11_isOn_j32 w5 v4 v3) else (f_X11_isOn_j37 w5 v4 v3 false)))
def f_X11_isOn (p0 : Int32) (p1 : Int32) (p2 : Int32) : Option Bool :=
  lp (fun _ _ => none) (f_X11_isOn_l5 p0 p1 p2) 1000 true 0
set_option maxRecDepth 100000 in
set_option maxHeartbeats 4000000 in
theorem c_X11_isOn (g : pq_g) {A : Nat → Prop} (hA : pq_A (SM g) A) (l : Launch) (p0 : Int32) (p1 : Int32) (p2 : Int32) (h : pq_H) {rr : Bool} (e : f_X11_isOn p0 p1 p2 = some rr) : pq_M (SM g) A l yX11_isOn cX11_isOn 5 (some .boolean) 2 45 [.int p0, .int p1, .int p2] h (some (.int (b2i rr))) h := by
  refine pq_met hA l (own := RX11) 2 45 _ [(0, .int p0), (1, .int p1), (2, .int p2)] h _ h (by decide +kernel) rfl (Nat.le_of_ble_eq_true rfl) rfl (fun X hXl hXA hB hK hR => ?_)
  refine V.cast (F' := f_X11_isOn p0 p1 p2) (res' := rr) (fun _ => e) ?_
  have hn5 : ∀ (n : Nat), ∀ (v3 : Bool) (v4 : Int32), V X (SM g) rr 5 5 [(0, .int p0), (1, .int p1), (2, .int p2), (3, .int (b2i v3)), (4, .int v4)] [] h (lp (fun _ _ => none) (f_X11_isOn_l5 p0 p1 p2) n v3 v4) := by
    refine lp_ind (fun (w5 : Bool → Int32 → Option Bool) => ∀ (v3 : Bool) (v4 : Int32), V X (SM g) rr 5 5 [(0, .int p0), (1, .int p1), (2, .int p2), (3, .int (b2i v3)), (4, .int v4)] [] h (w5 v3 v4)) (fun _ _ => V.none _ _ _ _) (fun w5 ih5 => ?_)
    have hn37 : ∀ (v4 : Int32) (s0 : Bool) (s1 : Bool), V X (SM g) rr 5 37 [(0, .int p0), (1, .int p1), (2, .int p2), (4, .int v4)] [.int (b2i s1), .int (b2i s0)] h (f_X11_isOn_j37 w5 v4 s0 s1) := by
      intro v4 s0 s1
      unfold f_X11_isOn_j37
      refine v_zand (x := s0) (y := s1) hB dX11_isOn_37 ?_
      refine v_istore_n hB [(0, .int p0), (1, .int p1), (2, .int p2), (3, .int (b2i (s0 && s1))), (4, .int v4)] [1, 2, 3, 0, 4] dX11_isOn_38 rfl (by decide) rfl ?_
      refine v_iinc hB (v4 + 1) [(0, .int p0), (1, .int p1), (2, .int p2), (3, .int (b2i (s0 && s1))), (4, .int (v4 + 1))] 4 [1, 2, 3, 4, 0] dX11_isOn_39 rfl rfl (by decide) rfl ?_
      refine v_goto (tgt := 5) hB dX11_isOn_42 rfl ?_
      exact V.sub [0, 1, 2, 3, 4] rfl (ih5 (s0 && s1) (v4 + 1))
    have hn32 : ∀ (v4 : Int32) (s0 : Bool), V X (SM g) rr 5 32 [(0, .int p0), (1, .int p1), (2, .int p2), (4, .int v4)] [.int (b2i s0)] h (f_X11_isOn_j32 w5 v4 s0) := by
      intro v4 s0
      unfold f_X11_isOn_j32
      refine v_iconst hB 1 dX11_isOn_32 (by decide) ?_
      refine v_goto (tgt := 37) hB dX11_isOn_33 rfl ?_
      exact V.sub [0, 1, 2, 3] rfl (hn37 v4 s0 true)
    intro v3 v4
    unfold f_X11_isOn_l5
    refine v_iload hB 4 dX11_isOn_5 rfl ?_
    refine v_iconst hB 3 dX11_isOn_7 (by decide) ?_
    refine v_icmp_ge (tgt := 45) hB dX11_isOn_8 rfl ?_ ?_
    · refine v_iload_n hB 3 dX11_isOn_45 rfl rfl ?_
      exact v_retRz (x := v3) hB hK hR dX11_isOn_46
    · refine v_iload_n hB 3 dX11_isOn_11 rfl rfl ?_
      refine v_iload_n hB 2 dX11_isOn_12 rfl rfl ?_
      refine v_iload hB 4 dX11_isOn_13 rfl ?_
      refine v_ishr hB dX11_isOn_15 ?_
      refine v_iconst hB 1 dX11_isOn_16 (by decide) ?_
      refine v_iand hB dX11_isOn_17 ?_
      refine v_iconst hB 1 dX11_isOn_18 (by decide) ?_
      refine v_icmp_eq (tgt := 32) hB dX11_isOn_19 rfl ?_ ?_
      · exact V.sub [0, 1, 2, 4] rfl (hn32 v4 v3)
      · refine v_iload_n hB 0 dX11_isOn_22 rfl rfl ?_
        refine v_iload_n hB 1 dX11_isOn_23 rfl rfl ?_
        refine v_iload hB 4 dX11_isOn_24 rfl ?_
        refine v_bRi (fun r26 e26 => v_callS hB hK hR.rm [.int p0, .int p1, .int v4] [.int (b2i v3)] lb_X11_powerIn lv_X11_17 (c_X11_powerIn g hK.A X.1.2.1 p0 p1 v4 h e26) dX11_isOn_26 rfl rfl (Nat.le_of_ble_eq_true rfl) (by decide) (by decide)) (fun r26 => ?_)
        refine v_if_ne (tgt := 36) hB dX11_isOn_29 rfl ?_ ?_
        · refine v_iconst hB 0 dX11_isOn_36 (by decide) ?_
          exact V.sub [0, 1, 2, 4] rfl (hn37 v4 v3 false)
        · exact V.sub [0, 1, 2, 4] rfl (hn32 v4 v3)
  unfold f_X11_isOn
  refine v_iconst hB 1 dX11_isOn_0 (by decide) ?_
  refine v_istore_n hB [(0, .int p0), (1, .int p1), (2, .int p2), (3, .int (b2i true))] [1, 2, 3, 0] dX11_isOn_1 rfl (by decide) rfl ?_
  refine v_iconst hB 0 dX11_isOn_2 (by decide) ?_
  refine v_istore hB [(0, .int p0), (1, .int p1), (2, .int p2), (3, .int (b2i true)), (4, .int 0)] [1, 2, 3, 4, 0] dX11_isOn_3 (by decide) rfl ?_
  exact V.sub [0, 1, 2, 3, 4] rfl (hn5 1000 true 0)

def f_X11_isForm (p1 : Int32) (h : pq_H) : Bool :=
  f_X11_isIn p1 0 ((rI h 0 5) - 1)
set_option maxRecDepth 100000 in
set_option maxHeartbeats 4000000 in
theorem c_X11_isForm (g : pq_g) {A : Nat → Prop} (hA : pq_A (SM g) A) (l : Launch) (p1 : Int32) (h : pq_H) : pq_M (SM g) A l yX11_isForm cX11_isForm 2 (some .boolean) 1 22 [.ref ((SM g).1.2.1 0), .int p1] h (some (.int (b2i (f_X11_isForm p1 h)))) h := by
  refine pq_met hA l (own := RX11) 1 22 _ [(0, .ref ((SM g).1.2.1 0)), (1, .int p1)] h _ h (by decide +kernel) rfl (Nat.le_of_ble_eq_true rfl) rfl (fun X hXl hXA hB hK hR => ?_)
  refine V.cast (F' := some (f_X11_isForm p1 h)) (res' := (f_X11_isForm p1 h)) (fun _ => rfl) ?_
  unfold f_X11_isForm
  refine v_iload_n hB 1 dX11_isForm_0 rfl rfl ?_
  refine v_iconst hB 0 dX11_isForm_1 (by decide) ?_
  refine v_aload_n hB 0 dX11_isForm_2 rfl rfl ?_
  refine v_getI hB hK (fl_X11_95 g) (cMI_0_5 g) dX11_isForm_3 ?_
  refine v_iconst hB 1 dX11_isForm_6 (by decide) ?_
  refine v_isub hB dX11_isForm_7 ?_
  refine v_bT (v_callS hB hK hR.rm [.int p1, .int 0, .int ((rI h 0 5) - 1)] [] lb_X11_isIn lv_X11_98 (c_X11_isIn g hK.A X.1.2.1 p1 0 ((rI h 0 5) - 1) h) dX11_isForm_8 rfl rfl (Nat.le_of_ble_eq_true rfl) (by decide) (by decide)) ?_
  exact v_retRz (x := f_X11_isIn p1 0 ((rI h 0 5) - 1)) hB hK hR dX11_isForm_11

def f_X11_isSide (p0 : Int32) : Bool :=
  f_X11_isIn p0 1 7
set_option maxRecDepth 100000 in
set_option maxHeartbeats 4000000 in
theorem c_X11_isSide (g : pq_g) {A : Nat → Prop} (hA : pq_A (SM g) A) (l : Launch) (p0 : Int32) (h : pq_H) : pq_M (SM g) A l yX11_isSide cX11_isSide 1 (some .boolean) 1 22 [.int p0] h (some (.int (b2i (f_X11_isSide p0)))) h := by
  refine pq_met hA l (own := RX11) 1 22 _ [(0, .int p0)] h _ h (by decide +kernel) rfl (Nat.le_of_ble_eq_true rfl) rfl (fun X hXl hXA hB hK hR => ?_)
  refine V.cast (F' := some (f_X11_isSide p0)) (res' := (f_X11_isSide p0)) (fun _ => rfl) ?_
  unfold f_X11_isSide
  refine v_iload_n hB 0 dX11_isSide_0 rfl rfl ?_
  refine v_iconst hB 1 dX11_isSide_1 (by decide) ?_
  refine v_bipush hB 7 dX11_isSide_2 (by decide) ?_
  refine v_bT (v_callS hB hK hR.rm [.int p0, .int 1, .int 7] [] lb_X11_isIn lv_X11_98 (c_X11_isIn g hK.A X.1.2.1 p0 1 7 h) dX11_isSide_4 rfl rfl (Nat.le_of_ble_eq_true rfl) (by decide) (by decide)) ?_
  exact v_retRz (x := f_X11_isIn p0 1 7) hB hK hR dX11_isSide_7

def f_X11_isSort (p0 : Int32) : Bool :=
  f_X11_isIn p0 0 1
set_option maxRecDepth 100000 in
set_option maxHeartbeats 4000000 in
theorem c_X11_isSort (g : pq_g) {A : Nat → Prop} (hA : pq_A (SM g) A) (l : Launch) (p0 : Int32) (h : pq_H) : pq_M (SM g) A l yX11_isSort cX11_isSort 1 (some .boolean) 1 22 [.int p0] h (some (.int (b2i (f_X11_isSort p0)))) h := by
  refine pq_met hA l (own := RX11) 1 22 _ [(0, .int p0)] h _ h (by decide +kernel) rfl (Nat.le_of_ble_eq_true rfl) rfl (fun X hXl hXA hB hK hR => ?_)
  refine V.cast (F' := some (f_X11_isSort p0)) (res' := (f_X11_isSort p0)) (fun _ => rfl) ?_
  unfold f_X11_isSort
  refine v_iload_n hB 0 dX11_isSort_0 rfl rfl ?_
  refine v_iconst hB 0 dX11_isSort_1 (by decide) ?_
  refine v_iconst hB 1 dX11_isSort_2 (by decide) ?_
  refine v_bT (v_callS hB hK hR.rm [.int p0, .int 0, .int 1] [] lb_X11_isIn lv_X11_98 (c_X11_isIn g hK.A X.1.2.1 p0 0 1 h) dX11_isSort_3 rfl rfl (Nat.le_of_ble_eq_true rfl) (by decide) (by decide)) ?_
  exact v_retRz (x := f_X11_isIn p0 0 1) hB hK hR dX11_isSort_6

def f_X11_isTerm (p1 : Int32) (p2 : Int32) (h : pq_H) : Option Bool :=
  gd (inb p1 6) (some (f_X11_isIn p2 0 ((f_X11_termsOf (rI h 5 p1.toNatClampNeg)) - 1)))
set_option maxRecDepth 100000 in
set_option maxHeartbeats 4000000 in
theorem c_X11_isTerm (g : pq_g) {A : Nat → Prop} (hA : pq_A (SM g) A) (l : Launch) (p1 : Int32) (p2 : Int32) (h : pq_H) {rr : Bool} (e : f_X11_isTerm p1 p2 h = some rr) : pq_M (SM g) A l yX11_isTerm cX11_isTerm 3 (some .boolean) 1 22 [.ref ((SM g).1.2.1 0), .int p1, .int p2] h (some (.int (b2i rr))) h := by
  refine pq_met hA l (own := RX11) 1 22 _ [(0, .ref ((SM g).1.2.1 0)), (1, .int p1), (2, .int p2)] h _ h (by decide +kernel) rfl (Nat.le_of_ble_eq_true rfl) rfl (fun X hXl hXA hB hK hR => ?_)
  refine V.cast (F' := f_X11_isTerm p1 p2 h) (res' := rr) (fun _ => e) ?_
  unfold f_X11_isTerm
  refine v_iload_n hB 2 dX11_isTerm_0 rfl rfl ?_
  refine v_iconst hB 0 dX11_isTerm_1 (by decide) ?_
  refine v_aload_n hB 0 dX11_isTerm_2 rfl rfl ?_
  refine v_getA hB hK (fl_X11_36 g) (cMA_0_4 g) dX11_isTerm_3 ?_
  refine v_iload_n hB 1 dX11_isTerm_6 rfl rfl ?_
  refine v_iald hB hK (aMI_5 g) dX11_isTerm_7 ?_
  refine v_bT (v_callS hB hK hR.rm [.int (rI h 5 p1.toNatClampNeg)] [.int 0, .int p2] lb_X11_termsOf lv_X11_102 (c_X11_termsOf g hK.A X.1.2.1 (rI h 5 p1.toNatClampNeg) h) dX11_isTerm_8 rfl rfl (Nat.le_of_ble_eq_true rfl) (by decide) (by decide)) ?_
  refine v_iconst hB 1 dX11_isTerm_11 (by decide) ?_
  refine v_isub hB dX11_isTerm_12 ?_
  refine v_bT (v_callS hB hK hR.rm [.int p2, .int 0, .int ((f_X11_termsOf (rI h 5 p1.toNatClampNeg)) - 1)] [] lb_X11_isIn lv_X11_98 (c_X11_isIn g hK.A X.1.2.1 p2 0 ((f_X11_termsOf (rI h 5 p1.toNatClampNeg)) - 1) h) dX11_isTerm_13 rfl rfl (Nat.le_of_ble_eq_true rfl) (by decide) (by decide)) ?_
  exact v_retRz (x := f_X11_isIn p2 0 ((f_X11_termsOf (rI h 5 p1.toNatClampNeg)) - 1)) hB hK hR dX11_isTerm_16

def f_X11_toldAt (p1 : Int32) (p2 : Int32) (p3 : Int32) (h : pq_H) : Option Int32 :=
  gd (inb p1 6) (gd (inb ((28 * p1) + (f_X11_termOf (rI h 5 p1.toNatClampNeg) p2 p3)) 168) (some (rI h 2 ((28 * p1) + (f_X11_termOf (rI h 5 p1.toNatClampNeg) p2 p3)).toNatClampNeg)))
set_option maxRecDepth 100000 in
set_option maxHeartbeats 4000000 in
theorem c_X11_toldAt (g : pq_g) {A : Nat → Prop} (hA : pq_A (SM g) A) (l : Launch) (p1 : Int32) (p2 : Int32) (p3 : Int32) (h : pq_H) {rr : Int32} (e : f_X11_toldAt p1 p2 p3 h = some rr) : pq_M (SM g) A l yX11_toldAt cX11_toldAt 4 (some .int) 1 22 [.ref ((SM g).1.2.1 0), .int p1, .int p2, .int p3] h (some (.int rr)) h := by
  refine pq_met hA l (own := RX11) 1 22 _ [(0, .ref ((SM g).1.2.1 0)), (1, .int p1), (2, .int p2), (3, .int p3)] h _ h (by decide +kernel) rfl (Nat.le_of_ble_eq_true rfl) rfl (fun X hXl hXA hB hK hR => ?_)
  refine V.cast (F' := f_X11_toldAt p1 p2 p3 h) (res' := rr) (fun _ => e) ?_
  unfold f_X11_toldAt
  refine v_aload_n hB 0 dX11_toldAt_0 rfl rfl ?_
  refine v_getA hB hK (fl_X11_27 g) (cMA_0_1 g) dX11_toldAt_1 ?_
  refine v_bipush hB 28 dX11_toldAt_4 (by decide) ?_
  refine v_iload_n hB 1 dX11_toldAt_6 rfl rfl ?_
  refine v_imul hB dX11_toldAt_7 ?_
  refine v_aload_n hB 0 dX11_toldAt_8 rfl rfl ?_
  refine v_getA hB hK (fl_X11_36 g) (cMA_0_4 g) dX11_toldAt_9 ?_
  refine v_iload_n hB 1 dX11_toldAt_12 rfl rfl ?_
  refine v_iald hB hK (aMI_5 g) dX11_toldAt_13 ?_
  refine v_iload_n hB 2 dX11_toldAt_14 rfl rfl ?_
  refine v_iload_n hB 3 dX11_toldAt_15 rfl rfl ?_
  refine v_bT (v_callS hB hK hR.rm [.int (rI h 5 p1.toNatClampNeg), .int p2, .int p3] [.int (28 * p1), .ref ((SM g).1.2.1 2)] lb_X11_termOf lv_X11_105 (c_X11_termOf g hK.A X.1.2.1 (rI h 5 p1.toNatClampNeg) p2 p3 h) dX11_toldAt_16 rfl rfl (Nat.le_of_ble_eq_true rfl) (by decide) (by decide)) ?_
  refine v_iadd hB dX11_toldAt_19 ?_
  refine v_iald hB hK (aMI_2 g) dX11_toldAt_20 ?_
  exact v_retRi (x := rI h 2 ((28 * p1) + (f_X11_termOf (rI h 5 p1.toNatClampNeg) p2 p3)).toNatClampNeg) hB hK hR dX11_toldAt_21

def f_X11_coefficientOf (p1 : Int32) (p2 : Int32) (h : pq_H) : Option Int32 :=
  gd (inb p1 6) ((f_X11_powerIn (rI h 5 p1.toNatClampNeg) p2 0).bind fun r10 => (f_X11_powerIn (rI h 5 p1.toNatClampNeg) p2 1).bind fun r18 => (f_X11_powerIn (rI h 5 p1.toNatClampNeg) p2 2).bind fun r26 => gd (inb p1 6) (if (rI h 3 p1.toNatClampNeg) = 1 then ((f_X11_toldAt p1 r18 r10 h).bind fun r78 => some r78) else (if (rI h 3 p1.toNatClampNeg) = 2 then (if (r10 - r10 / 2 * 2) = 1 then (some 0) else ((f_X11_toldAt p1 r10 r26 h).bind fun r100 => some r100)) else (if (rI h 3 p1.toNatClampNeg) = 3 then ((f_X11_toldAt p1 r10 r26 h).bind fun r110 => gd (inb p1 6) (some (r110 - (rI h 4 p1.toNatClampNeg)))) else (if (rI h 3 p1.toNatClampNeg) = 4 then ((f_X11_toldAt p1 r26 r18 h).bind fun r127 => some r127) else (if (rI h 3 p1.toNatClampNeg) = 5 then (if (r10 - r10 / 2 * 2) = 1 then (some 0) else (if r26 = 0 then ((f_X11_toldAt p1 r10 r26 h).bind fun r154 => some r154) else (some 0))) else ((f_X11_toldAt p1 r10 r26 h).bind fun r164 => some r164)))))))
set_option maxRecDepth 100000 in
set_option maxHeartbeats 4000000 in
theorem c_X11_coefficientOf (g : pq_g) {A : Nat → Prop} (hA : pq_A (SM g) A) (l : Launch) (p1 : Int32) (p2 : Int32) (h : pq_H) {rr : Int32} (e : f_X11_coefficientOf p1 p2 h = some rr) : pq_M (SM g) A l yX11_coefficientOf cX11_coefficientOf 7 (some .int) 2 45 [.ref ((SM g).1.2.1 0), .int p1, .int p2] h (some (.int rr)) h := by
  refine pq_met hA l (own := RX11) 2 45 _ [(0, .ref ((SM g).1.2.1 0)), (1, .int p1), (2, .int p2)] h _ h (by decide +kernel) rfl (Nat.le_of_ble_eq_true rfl) rfl (fun X hXl hXA hB hK hR => ?_)
  refine V.cast (F' := f_X11_coefficientOf p1 p2 h) (res' := rr) (fun _ => e) ?_
  unfold f_X11_coefficientOf
  refine v_aload_n hB 0 dX11_coefficientOf_0 rfl rfl ?_
  refine v_getA hB hK (fl_X11_36 g) (cMA_0_4 g) dX11_coefficientOf_1 ?_
  refine v_iload_n hB 1 dX11_coefficientOf_4 rfl rfl ?_
  refine v_iald hB hK (aMI_5 g) dX11_coefficientOf_5 ?_
  refine v_istore_n hB [(0, .ref ((SM g).1.2.1 0)), (1, .int p1), (2, .int p2), (3, .int (rI h 5 p1.toNatClampNeg))] [1, 2, 3, 0] dX11_coefficientOf_6 rfl (by decide) rfl ?_
  refine v_iload_n hB 3 dX11_coefficientOf_7 rfl rfl ?_
  refine v_iload_n hB 2 dX11_coefficientOf_8 rfl rfl ?_
  refine v_iconst hB 0 dX11_coefficientOf_9 (by decide) ?_
  refine v_bRi (fun r10 e10 => v_callS hB hK hR.rm [.int (rI h 5 p1.toNatClampNeg), .int p2, .int 0] [] lb_X11_powerIn lv_X11_17 (c_X11_powerIn g hK.A X.1.2.1 (rI h 5 p1.toNatClampNeg) p2 0 h e10) dX11_coefficientOf_10 rfl rfl (Nat.le_of_ble_eq_true rfl) (by decide) (by decide)) (fun r10 => ?_)
  refine v_istore hB [(0, .ref ((SM g).1.2.1 0)), (1, .int p1), (2, .int p2), (3, .int (rI h 5 p1.toNatClampNeg)), (4, .int r10)] [1, 2, 3, 4, 0] dX11_coefficientOf_13 (by decide) rfl ?_
  refine v_iload_n hB 3 dX11_coefficientOf_15 rfl rfl ?_
  refine v_iload_n hB 2 dX11_coefficientOf_16 rfl rfl ?_
  refine v_iconst hB 1 dX11_coefficientOf_17 (by decide) ?_
  refine v_bRi (fun r18 e18 => v_callS hB hK hR.rm [.int (rI h 5 p1.toNatClampNeg), .int p2, .int 1] [] lb_X11_powerIn lv_X11_17 (c_X11_powerIn g hK.A X.1.2.1 (rI h 5 p1.toNatClampNeg) p2 1 h e18) dX11_coefficientOf_18 rfl rfl (Nat.le_of_ble_eq_true rfl) (by decide) (by decide)) (fun r18 => ?_)
  refine v_istore hB [(0, .ref ((SM g).1.2.1 0)), (1, .int p1), (2, .int p2), (3, .int (rI h 5 p1.toNatClampNeg)), (4, .int r10), (5, .int r18)] [1, 2, 3, 4, 5, 0] dX11_coefficientOf_21 (by decide) rfl ?_
  refine v_iload_n hB 3 dX11_coefficientOf_23 rfl rfl ?_
  refine v_iload_n hB 2 dX11_coefficientOf_24 rfl rfl ?_
  refine v_iconst hB 2 dX11_coefficientOf_25 (by decide) ?_
  refine v_bRi (fun r26 e26 => v_callS hB hK hR.rm [.int (rI h 5 p1.toNatClampNeg), .int p2, .int 2] [] lb_X11_powerIn lv_X11_17 (c_X11_powerIn g hK.A X.1.2.1 (rI h 5 p1.toNatClampNeg) p2 2 h e26) dX11_coefficientOf_26 rfl rfl (Nat.le_of_ble_eq_true rfl) (by decide) (by decide)) (fun r26 => ?_)
  refine v_istore hB [(0, .ref ((SM g).1.2.1 0)), (1, .int p1), (2, .int p2), (3, .int (rI h 5 p1.toNatClampNeg)), (4, .int r10), (5, .int r18), (6, .int r26)] [1, 2, 3, 4, 5, 6, 0] dX11_coefficientOf_29 (by decide) rfl ?_
  refine v_aload_n hB 0 dX11_coefficientOf_31 rfl rfl ?_
  refine v_getA hB hK (fl_X11_30 g) (cMA_0_2 g) dX11_coefficientOf_32 ?_
  refine v_iload_n hB 1 dX11_coefficientOf_35 rfl rfl ?_
  refine v_iald hB hK (aMI_3 g) dX11_coefficientOf_36 ?_
  refine v_tcase (tgt := 72) hB 1 dX11_coefficientOf_37 (by decide) (by decide) rfl rfl ?_ (fun n37_1 => ?_)
  · refine v_aload_n hB 0 dX11_coefficientOf_72 rfl rfl ?_
    refine v_iload_n hB 1 dX11_coefficientOf_73 rfl rfl ?_
    refine v_iload hB 5 dX11_coefficientOf_74 rfl ?_
    refine v_iload hB 4 dX11_coefficientOf_76 rfl ?_
    refine v_bRi (fun r78 e78 => v_callV hB hK hR.rm [.int p1, .int r18, .int r10] [] (oM_0 g) lb_X11_toldAt lv_X11_108 (c_X11_toldAt g hK.A X.1.2.1 p1 r18 r10 h e78) dX11_coefficientOf_78 rfl rfl (Nat.le_of_ble_eq_true rfl) (by decide) (by decide)) (fun r78 => ?_)
    exact v_retRi (x := r78) hB hK hR dX11_coefficientOf_81
  · refine v_tcase (tgt := 82) hB 2 dX11_coefficientOf_37 (by decide) (by decide) rfl rfl ?_ (fun n37_2 => ?_)
    · refine v_iload hB 4 dX11_coefficientOf_82 rfl ?_
      refine v_iconst hB 2 dX11_coefficientOf_84 (by decide) ?_
      refine v_irem hB dX11_coefficientOf_85 (by decide) ?_
      refine v_iconst hB 1 dX11_coefficientOf_86 (by decide) ?_
      refine v_icmp_ne (tgt := 94) hB dX11_coefficientOf_87 rfl ?_ ?_
      · refine v_aload_n hB 0 dX11_coefficientOf_94 rfl rfl ?_
        refine v_iload_n hB 1 dX11_coefficientOf_95 rfl rfl ?_
        refine v_iload hB 4 dX11_coefficientOf_96 rfl ?_
        refine v_iload hB 6 dX11_coefficientOf_98 rfl ?_
        refine v_bRi (fun r100 e100 => v_callV hB hK hR.rm [.int p1, .int r10, .int r26] [] (oM_0 g) lb_X11_toldAt lv_X11_108 (c_X11_toldAt g hK.A X.1.2.1 p1 r10 r26 h e100) dX11_coefficientOf_100 rfl rfl (Nat.le_of_ble_eq_true rfl) (by decide) (by decide)) (fun r100 => ?_)
        exact v_retRi (x := r100) hB hK hR dX11_coefficientOf_103
      · refine v_iconst hB 0 dX11_coefficientOf_90 (by decide) ?_
        refine v_goto (tgt := 103) hB dX11_coefficientOf_91 rfl ?_
        exact v_retRi (x := 0) hB hK hR dX11_coefficientOf_103
    · refine v_tcase (tgt := 104) hB 3 dX11_coefficientOf_37 (by decide) (by decide) rfl rfl ?_ (fun n37_3 => ?_)
      · refine v_aload_n hB 0 dX11_coefficientOf_104 rfl rfl ?_
        refine v_iload_n hB 1 dX11_coefficientOf_105 rfl rfl ?_
        refine v_iload hB 4 dX11_coefficientOf_106 rfl ?_
        refine v_iload hB 6 dX11_coefficientOf_108 rfl ?_
        refine v_bRi (fun r110 e110 => v_callV hB hK hR.rm [.int p1, .int r10, .int r26] [] (oM_0 g) lb_X11_toldAt lv_X11_108 (c_X11_toldAt g hK.A X.1.2.1 p1 r10 r26 h e110) dX11_coefficientOf_110 rfl rfl (Nat.le_of_ble_eq_true rfl) (by decide) (by decide)) (fun r110 => ?_)
        refine v_aload_n hB 0 dX11_coefficientOf_113 rfl rfl ?_
        refine v_getA hB hK (fl_X11_33 g) (cMA_0_3 g) dX11_coefficientOf_114 ?_
        refine v_iload_n hB 1 dX11_coefficientOf_117 rfl rfl ?_
        refine v_iald hB hK (aMI_4 g) dX11_coefficientOf_118 ?_
        refine v_isub hB dX11_coefficientOf_119 ?_
        exact v_retRi (x := r110 - (rI h 4 p1.toNatClampNeg)) hB hK hR dX11_coefficientOf_120
      · refine v_tcase (tgt := 121) hB 4 dX11_coefficientOf_37 (by decide) (by decide) rfl rfl ?_ (fun n37_4 => ?_)
        · refine v_aload_n hB 0 dX11_coefficientOf_121 rfl rfl ?_
          refine v_iload_n hB 1 dX11_coefficientOf_122 rfl rfl ?_
          refine v_iload hB 6 dX11_coefficientOf_123 rfl ?_
          refine v_iload hB 5 dX11_coefficientOf_125 rfl ?_
          refine v_bRi (fun r127 e127 => v_callV hB hK hR.rm [.int p1, .int r26, .int r18] [] (oM_0 g) lb_X11_toldAt lv_X11_108 (c_X11_toldAt g hK.A X.1.2.1 p1 r26 r18 h e127) dX11_coefficientOf_127 rfl rfl (Nat.le_of_ble_eq_true rfl) (by decide) (by decide)) (fun r127 => ?_)
          exact v_retRi (x := r127) hB hK hR dX11_coefficientOf_130
        · refine v_tcase (tgt := 131) hB 5 dX11_coefficientOf_37 (by decide) (by decide) rfl rfl ?_ (fun n37_5 => ?_)
          · refine v_iload hB 4 dX11_coefficientOf_131 rfl ?_
            refine v_iconst hB 2 dX11_coefficientOf_133 (by decide) ?_
            refine v_irem hB dX11_coefficientOf_134 (by decide) ?_
            refine v_iconst hB 1 dX11_coefficientOf_135 (by decide) ?_
            refine v_icmp_eq (tgt := 144) hB dX11_coefficientOf_136 rfl ?_ ?_
            · refine v_iconst hB 0 dX11_coefficientOf_144 (by decide) ?_
              refine v_goto (tgt := 157) hB dX11_coefficientOf_145 rfl ?_
              exact v_retRi (x := 0) hB hK hR dX11_coefficientOf_157
            · refine v_iload hB 6 dX11_coefficientOf_139 rfl ?_
              refine v_if_eq (tgt := 148) hB dX11_coefficientOf_141 rfl ?_ ?_
              · refine v_aload_n hB 0 dX11_coefficientOf_148 rfl rfl ?_
                refine v_iload_n hB 1 dX11_coefficientOf_149 rfl rfl ?_
                refine v_iload hB 4 dX11_coefficientOf_150 rfl ?_
                refine v_iload hB 6 dX11_coefficientOf_152 rfl ?_
                refine v_bRi (fun r154 e154 => v_callV hB hK hR.rm [.int p1, .int r10, .int r26] [] (oM_0 g) lb_X11_toldAt lv_X11_108 (c_X11_toldAt g hK.A X.1.2.1 p1 r10 r26 h e154) dX11_coefficientOf_154 rfl rfl (Nat.le_of_ble_eq_true rfl) (by decide) (by decide)) (fun r154 => ?_)
                exact v_retRi (x := r154) hB hK hR dX11_coefficientOf_157
              · refine v_iconst hB 0 dX11_coefficientOf_144 (by decide) ?_
                refine v_goto (tgt := 157) hB dX11_coefficientOf_145 rfl ?_
                exact v_retRi (x := 0) hB hK hR dX11_coefficientOf_157
          · refine v_tdef (tgt := 158) hB dX11_coefficientOf_37 (by have z1 := lv_neT n37_1 (a := 1) (by decide); have z2 := lv_neT n37_2 (a := 2) (by decide); have z3 := lv_neT n37_3 (a := 3) (by decide); have z4 := lv_neT n37_4 (a := 4) (by decide); have z5 := lv_neT n37_5 (a := 5) (by decide); omega) rfl ?_
            refine v_aload_n hB 0 dX11_coefficientOf_158 rfl rfl ?_
            refine v_iload_n hB 1 dX11_coefficientOf_159 rfl rfl ?_
            refine v_iload hB 4 dX11_coefficientOf_160 rfl ?_
            refine v_iload hB 6 dX11_coefficientOf_162 rfl ?_
            refine v_bRi (fun r164 e164 => v_callV hB hK hR.rm [.int p1, .int r10, .int r26] [] (oM_0 g) lb_X11_toldAt lv_X11_108 (c_X11_toldAt g hK.A X.1.2.1 p1 r10 r26 h e164) dX11_coefficientOf_164 rfl rfl (Nat.le_of_ble_eq_true rfl) (by decide) (by decide)) (fun r164 => ?_)
            exact v_retRi (x := r164) hB hK hR dX11_coefficientOf_167

def f_X11_many_j32 (w5 : Int32 → Int32 → Option Int32) (v4 : Int32) (s0 : Int32) (s1 : Int32) : Option Int32 :=
  w5 (s0 + s1) (v4 + 1)
def f_X11_many_l5 (p1 : Int32) (p2 : Int32) (h : pq_H) (w5 : Int32 → Int32 → Option Int32) (v3 : Int32) (v4 : Int32) : Option Int32 :=
  (f_X11_isTerm p1 v4 h).bind fun r9 => if r9 = true then ((f_X11_coefficientOf p1 v4 h).bind fun r20 => if p2 ≤ r20 then (f_X11_many_j32 w5 v4 v3 0) else (f_X11_many_j32 w5 v4 v3 1)) else (some v3)
def f_X11_many (p1 : Int32) (p2 : Int32) (h : pq_H) : Option Int32 :=
  lp (fun _ _ => none) (f_X11_many_l5 p1 p2 h) 1000 0 0
set_option maxRecDepth 100000 in
set_option maxHeartbeats 4000000 in
theorem c_X11_many (g : pq_g) {A : Nat → Prop} (hA : pq_A (SM g) A) (l : Launch) (p1 : Int32) (p2 : Int32) (h : pq_H) {rr : Int32} (e : f_X11_many p1 p2 h = some rr) : pq_M (SM g) A l yX11_many cX11_many 5 (some .int) 3 71 [.ref ((SM g).1.2.1 0), .int p1, .int p2] h (some (.int rr)) h := by
  refine pq_met hA l (own := RX11) 3 71 _ [(0, .ref ((SM g).1.2.1 0)), (1, .int p1), (2, .int p2)] h _ h (by decide +kernel) rfl (Nat.le_of_ble_eq_true rfl) rfl (fun X hXl hXA hB hK hR => ?_)
  refine V.cast (F' := f_X11_many p1 p2 h) (res' := rr) (fun _ => e) ?_
  have hn5 : ∀ (n : Nat), ∀ (v3 : Int32) (v4 : Int32), V X (SM g) rr 5 5 [(0, .ref ((SM g).1.2.1 0)), (1, .int p1), (2, .int p2), (3, .int v3), (4, .int v4)] [] h (lp (fun _ _ => none) (f_X11_many_l5 p1 p2 h) n v3 v4) := by
    refine lp_ind (fun (w5 : Int32 → Int32 → Option Int32) => ∀ (v3 : Int32) (v4 : Int32), V X (SM g) rr 5 5 [(0, .ref ((SM g).1.2.1 0)), (1, .int p1), (2, .int p2), (3, .int v3), (4, .int v4)] [] h (w5 v3 v4)) (fun _ _ => V.none _ _ _ _) (fun w5 ih5 => ?_)
    have hn32 : ∀ (v4 : Int32) (s0 : Int32) (s1 : Int32), V X (SM g) rr 5 32 [(0, .ref ((SM g).1.2.1 0)), (1, .int p1), (2, .int p2), (4, .int v4)] [.int s1, .int s0] h (f_X11_many_j32 w5 v4 s0 s1) := by
      intro v4 s0 s1
      unfold f_X11_many_j32
      refine v_iadd hB dX11_many_32 ?_
      refine v_istore_n hB [(0, .ref ((SM g).1.2.1 0)), (1, .int p1), (2, .int p2), (3, .int (s0 + s1)), (4, .int v4)] [1, 2, 3, 0, 4] dX11_many_33 rfl (by decide) rfl ?_
      refine v_iinc hB (v4 + 1) [(0, .ref ((SM g).1.2.1 0)), (1, .int p1), (2, .int p2), (3, .int (s0 + s1)), (4, .int (v4 + 1))] 4 [1, 2, 3, 4, 0] dX11_many_34 rfl rfl (by decide) rfl ?_
      refine v_goto (tgt := 5) hB dX11_many_37 rfl ?_
      exact V.sub [0, 1, 2, 3, 4] rfl (ih5 (s0 + s1) (v4 + 1))
    intro v3 v4
    unfold f_X11_many_l5
    refine v_aload_n hB 0 dX11_many_5 rfl rfl ?_
    refine v_iload_n hB 1 dX11_many_6 rfl rfl ?_
    refine v_iload hB 4 dX11_many_7 rfl ?_
    refine v_bRz (fun r9 e9 => v_callV hB hK hR.rm [.int p1, .int v4] [] (oM_0 g) lb_X11_isTerm lv_X11_111 (c_X11_isTerm g hK.A X.1.2.1 p1 v4 h e9) dX11_many_9 rfl rfl (Nat.le_of_ble_eq_true rfl) (by decide) (by decide)) (fun r9 => ?_)
    refine v_ifz_eq (r := r9) (tgt := 40) hB dX11_many_12 rfl ?_ ?_
    · refine v_iload_n hB 3 dX11_many_40 rfl rfl ?_
      exact v_retRi (x := v3) hB hK hR dX11_many_41
    · refine v_iload_n hB 3 dX11_many_15 rfl rfl ?_
      refine v_aload_n hB 0 dX11_many_16 rfl rfl ?_
      refine v_iload_n hB 1 dX11_many_17 rfl rfl ?_
      refine v_iload hB 4 dX11_many_18 rfl ?_
      refine v_bRi (fun r20 e20 => v_callV hB hK hR.rm [.int p1, .int v4] [.int v3] (oM_0 g) lb_X11_coefficientOf lv_X11_115 (c_X11_coefficientOf g hK.A X.1.2.1 p1 v4 h e20) dX11_many_20 rfl rfl (Nat.le_of_ble_eq_true rfl) (by decide) (by decide)) (fun r20 => ?_)
      refine v_iload_n hB 2 dX11_many_23 rfl rfl ?_
      refine v_icmp_ge (tgt := 31) hB dX11_many_24 rfl ?_ ?_
      · refine v_iconst hB 0 dX11_many_31 (by decide) ?_
        exact V.sub [0, 1, 2, 4] rfl (hn32 v4 v3 0)
      · refine v_iconst hB 1 dX11_many_27 (by decide) ?_
        refine v_goto (tgt := 32) hB dX11_many_28 rfl ?_
        exact V.sub [0, 1, 2, 4] rfl (hn32 v4 v3 1)
  unfold f_X11_many
  refine v_iconst hB 0 dX11_many_0 (by decide) ?_
  refine v_istore_n hB [(0, .ref ((SM g).1.2.1 0)), (1, .int p1), (2, .int p2), (3, .int 0)] [1, 2, 3, 0] dX11_many_1 rfl (by decide) rfl ?_
  refine v_iconst hB 0 dX11_many_2 (by decide) ?_
  refine v_istore hB [(0, .ref ((SM g).1.2.1 0)), (1, .int p1), (2, .int p2), (3, .int 0), (4, .int 0)] [1, 2, 3, 4, 0] dX11_many_3 (by decide) rfl ?_
  exact V.sub [0, 1, 2, 3, 4] rfl (hn5 1000 0 0)

def f_X11_notes_j61 (p1 : Int32) (p2 : Int32) (h : pq_H) : Option pq_H :=
  gd (inb (rI h 0 8) 16) (hl (wI h 6 (rI h 0 8).toNatClampNeg p1) fun h70 => gd (inb (rI h70 0 8) 16) (hl (wI h70 7 (rI h70 0 8).toNatClampNeg p2) fun h80 => some (wI h80 0 8 ((rI h80 0 8) + 1))))
def f_X11_notes_j51 (p1 : Int32) (p2 : Int32) (h : pq_H) : Option pq_H :=
  f_X11_notes_j61 p1 p2 (wI h 0 8 ((rI h 0 8) - 1))
def f_X11_notes_l11 (p1 : Int32) (p2 : Int32) (w11 : Int32 → pq_H → Option pq_H) (v3 : Int32) (h : pq_H) : Option pq_H :=
  if 16 ≤ v3 then (f_X11_notes_j51 p1 p2 h) else (gd (inb v3 16) (gd (inb (v3 - 1) 16) (hl (wI h 6 (v3 - 1).toNatClampNeg (rI h 6 v3.toNatClampNeg)) fun h30 => gd (inb v3 16) (gd (inb (v3 - 1) 16) (w11 (v3 + 1) (wI h30 7 (v3 - 1).toNatClampNeg (rI h30 7 v3.toNatClampNeg)))))))
def f_X11_notes (p1 : Int32) (p2 : Int32) (h : pq_H) : Option pq_H :=
  if (rI h 0 8) = 16 then (lp (fun _ _ => none) (f_X11_notes_l11 p1 p2) 1000 1 h) else (f_X11_notes_j61 p1 p2 h)
set_option maxRecDepth 100000 in
set_option maxHeartbeats 4000000 in
theorem c_X11_notes (g : pq_g) {A : Nat → Prop} (hA : pq_A (SM g) A) (l : Launch) (p1 : Int32) (p2 : Int32) (h : pq_H) {hh : pq_H} (e : f_X11_notes p1 p2 h = some hh) : pq_M (SM g) A l yX11_notes cX11_notes 4 none 0 0 [.ref ((SM g).1.2.1 0), .int p1, .int p2] h none hh := by
  refine pq_met hA l (own := RX11) 0 0 _ [(0, .ref ((SM g).1.2.1 0)), (1, .int p1), (2, .int p2)] h _ hh (by decide +kernel) rfl (Nat.le_of_ble_eq_true rfl) rfl (fun X hXl hXA hB hK hR => ?_)
  refine V.cast (F' := f_X11_notes p1 p2 h) (res' := hh) (fun _ => e) ?_
  have hn61 : ∀ (h : pq_H), V X (SM g) hh 4 61 [(0, .ref ((SM g).1.2.1 0)), (1, .int p1), (2, .int p2)] [] h (f_X11_notes_j61 p1 p2 h) := by
    intro h
    unfold f_X11_notes_j61
    refine v_aload_n hB 0 dX11_notes_61 rfl rfl ?_
    refine v_getA hB hK (fl_X11_39 g) (cMA_0_6 g) dX11_notes_62 ?_
    refine v_aload_n hB 0 dX11_notes_65 rfl rfl ?_
    refine v_getI hB hK (fl_X11_119 g) (cMI_0_8 g) dX11_notes_66 ?_
    refine v_iload_n hB 1 dX11_notes_69 rfl rfl ?_
    refine v_iast hB hK (aMI_6 g) dX11_notes_70 ?_
    refine v_hl (fun h70 => ?_)
    refine v_aload_n hB 0 dX11_notes_71 rfl rfl ?_
    refine v_getA hB hK (fl_X11_42 g) (cMA_0_7 g) dX11_notes_72 ?_
    refine v_aload_n hB 0 dX11_notes_75 rfl rfl ?_
    refine v_getI hB hK (fl_X11_119 g) (cMI_0_8 g) dX11_notes_76 ?_
    refine v_iload_n hB 2 dX11_notes_79 rfl rfl ?_
    refine v_iast hB hK (aMI_7 g) dX11_notes_80 ?_
    refine v_hl (fun h80 => ?_)
    refine v_aload_n hB 0 dX11_notes_81 rfl rfl ?_
    refine v_dup hB dX11_notes_82 rfl ?_
    refine v_getI hB hK (fl_X11_119 g) (cMI_0_8 g) dX11_notes_83 ?_
    refine v_iconst hB 1 dX11_notes_86 (by decide) ?_
    refine v_iadd hB dX11_notes_87 ?_
    refine v_putI hB hK (fl_X11_119 g) (fin_X11_8 g) (cMI_0_8 g) dX11_notes_88 ?_
    exact v_retWv hB hK hR dX11_notes_91
  have hn51 : ∀ (h : pq_H), V X (SM g) hh 4 51 [(0, .ref ((SM g).1.2.1 0)), (1, .int p1), (2, .int p2)] [] h (f_X11_notes_j51 p1 p2 h) := by
    intro h
    unfold f_X11_notes_j51
    refine v_aload_n hB 0 dX11_notes_51 rfl rfl ?_
    refine v_dup hB dX11_notes_52 rfl ?_
    refine v_getI hB hK (fl_X11_119 g) (cMI_0_8 g) dX11_notes_53 ?_
    refine v_iconst hB 1 dX11_notes_56 (by decide) ?_
    refine v_isub hB dX11_notes_57 ?_
    refine v_putI hB hK (fl_X11_119 g) (fin_X11_8 g) (cMI_0_8 g) dX11_notes_58 ?_
    exact V.sub [0, 1, 2] rfl (hn61 (wI h 0 8 ((rI h 0 8) - 1)))
  have hn11 : ∀ (n : Nat), ∀ (v3 : Int32) (h : pq_H), V X (SM g) hh 4 11 [(0, .ref ((SM g).1.2.1 0)), (1, .int p1), (2, .int p2), (3, .int v3)] [] h (lp (fun _ _ => none) (f_X11_notes_l11 p1 p2) n v3 h) := by
    refine lp_ind (fun (w11 : Int32 → pq_H → Option pq_H) => ∀ (v3 : Int32) (h : pq_H), V X (SM g) hh 4 11 [(0, .ref ((SM g).1.2.1 0)), (1, .int p1), (2, .int p2), (3, .int v3)] [] h (w11 v3 h)) (fun _ _ => V.none _ _ _ _) (fun w11 ih11 => ?_)
    intro v3 h
    unfold f_X11_notes_l11
    refine v_iload_n hB 3 dX11_notes_11 rfl rfl ?_
    refine v_bipush hB 16 dX11_notes_12 (by decide) ?_
    refine v_icmp_ge (tgt := 51) hB dX11_notes_14 rfl ?_ ?_
    · exact V.sub [0, 1, 2] rfl (hn51 h)
    · refine v_aload_n hB 0 dX11_notes_17 rfl rfl ?_
      refine v_getA hB hK (fl_X11_39 g) (cMA_0_6 g) dX11_notes_18 ?_
      refine v_iload_n hB 3 dX11_notes_21 rfl rfl ?_
      refine v_iconst hB 1 dX11_notes_22 (by decide) ?_
      refine v_isub hB dX11_notes_23 ?_
      refine v_aload_n hB 0 dX11_notes_24 rfl rfl ?_
      refine v_getA hB hK (fl_X11_39 g) (cMA_0_6 g) dX11_notes_25 ?_
      refine v_iload_n hB 3 dX11_notes_28 rfl rfl ?_
      refine v_iald hB hK (aMI_6 g) dX11_notes_29 ?_
      refine v_iast hB hK (aMI_6 g) dX11_notes_30 ?_
      refine v_hl (fun h30 => ?_)
      refine v_aload_n hB 0 dX11_notes_31 rfl rfl ?_
      refine v_getA hB hK (fl_X11_42 g) (cMA_0_7 g) dX11_notes_32 ?_
      refine v_iload_n hB 3 dX11_notes_35 rfl rfl ?_
      refine v_iconst hB 1 dX11_notes_36 (by decide) ?_
      refine v_isub hB dX11_notes_37 ?_
      refine v_aload_n hB 0 dX11_notes_38 rfl rfl ?_
      refine v_getA hB hK (fl_X11_42 g) (cMA_0_7 g) dX11_notes_39 ?_
      refine v_iload_n hB 3 dX11_notes_42 rfl rfl ?_
      refine v_iald hB hK (aMI_7 g) dX11_notes_43 ?_
      refine v_iast hB hK (aMI_7 g) dX11_notes_44 ?_
      refine v_iinc hB (v3 + 1) [(0, .ref ((SM g).1.2.1 0)), (1, .int p1), (2, .int p2), (3, .int (v3 + 1))] 3 [1, 2, 3, 0] dX11_notes_45 rfl rfl (by decide) rfl ?_
      refine v_goto (tgt := 11) hB dX11_notes_48 rfl ?_
      exact V.sub [0, 1, 2, 3] rfl (ih11 (v3 + 1) (wI h30 7 (v3 - 1).toNatClampNeg (rI h30 7 v3.toNatClampNeg)))
  unfold f_X11_notes
  refine v_aload_n hB 0 dX11_notes_0 rfl rfl ?_
  refine v_getI hB hK (fl_X11_119 g) (cMI_0_8 g) dX11_notes_1 ?_
  refine v_bipush hB 16 dX11_notes_4 (by decide) ?_
  refine v_icmp_ne (tgt := 61) hB dX11_notes_6 rfl ?_ ?_
  · exact V.sub [0, 1, 2] rfl (hn61 h)
  · refine v_iconst hB 1 dX11_notes_9 (by decide) ?_
    refine v_istore_n hB [(0, .ref ((SM g).1.2.1 0)), (1, .int p1), (2, .int p2), (3, .int 1)] [1, 2, 3, 0] dX11_notes_10 rfl (by decide) rfl ?_
    exact V.sub [0, 1, 2, 3] rfl (hn11 1000 1 h)

def f_X11_undo_j96 (h : pq_H) : Option (Int32 × pq_H) :=
  some (rI h 0 8, h)
def f_X11_undo (h : pq_H) : Option (Int32 × pq_H) :=
  if (rI h 0 8) = 0 then (bd2 (f_X11_no (-3) h) fun r10 h10 => some (r10, h10)) else (hl (wI h 0 8 ((rI h 0 8) - 1)) fun h21 => gd (inb (rI h21 0 8) 16) (if 0 ≤ (rI h21 6 (rI h21 0 8).toNatClampNeg) then (gd (inb (rI h21 0 8) 16) (gd (inb (rI h21 6 (rI h21 0 8).toNatClampNeg) 168) (f_X11_undo_j96 (wI h21 2 (rI h21 6 (rI h21 0 8).toNatClampNeg).toNatClampNeg (rI h21 7 (rI h21 0 8).toNatClampNeg))))) else (gd (inb (rI h21 0 8) 16) (gd (inb ((-1) - (rI h21 6 (rI h21 0 8).toNatClampNeg)) 6) (hl (wI h21 3 ((-1) - (rI h21 6 (rI h21 0 8).toNatClampNeg)).toNatClampNeg ((rI h21 7 (rI h21 0 8).toNatClampNeg) / 10)) fun h57 => gd (inb (rI h57 0 8) 16) (gd (inb ((-1) - (rI h21 6 (rI h21 0 8).toNatClampNeg)) 6) (f_X11_undo_j96 (wI h57 4 ((-1) - (rI h21 6 (rI h21 0 8).toNatClampNeg)).toNatClampNeg ((rI h57 7 (rI h57 0 8).toNatClampNeg) - (rI h57 7 (rI h57 0 8).toNatClampNeg) / 10 * 10)))))))))
set_option maxRecDepth 100000 in
set_option maxHeartbeats 4000000 in
theorem c_X11_undo (g : pq_g) {A : Nat → Prop} (hA : pq_A (SM g) A) (l : Launch) (h : pq_H) {rr : Int32} {hh : pq_H} (e : f_X11_undo h = some (rr, hh)) : pq_M (SM g) A l yX11_undo cX11_undo 2 (some .int) 1 21 [.ref ((SM g).1.2.1 0)] h (some (.int rr)) hh := by
  refine pq_met hA l (own := RX11) 1 21 _ [(0, .ref ((SM g).1.2.1 0))] h _ hh (by decide +kernel) rfl (Nat.le_of_ble_eq_true rfl) rfl (fun X hXl hXA hB hK hR => ?_)
  refine V.cast (F' := f_X11_undo h) (res' := (rr, hh)) (fun _ => e) ?_
  have hn96 : ∀ (h : pq_H), V X (SM g) (rr, hh) 2 96 [(0, .ref ((SM g).1.2.1 0))] [] h (f_X11_undo_j96 h) := by
    intro h
    unfold f_X11_undo_j96
    refine v_aload_n hB 0 dX11_undo_96 rfl rfl ?_
    refine v_getI hB hK (fl_X11_119 g) (cMI_0_8 g) dX11_undo_97 ?_
    exact v_retWi (x := rI h 0 8) hB hK hR dX11_undo_100
  unfold f_X11_undo
  refine v_aload_n hB 0 dX11_undo_0 rfl rfl ?_
  refine v_getI hB hK (fl_X11_119 g) (cMI_0_8 g) dX11_undo_1 ?_
  refine v_if_ne (tgt := 14) hB dX11_undo_4 rfl ?_ ?_
  · refine v_aload_n hB 0 dX11_undo_14 rfl rfl ?_
    refine v_dup hB dX11_undo_15 rfl ?_
    refine v_getI hB hK (fl_X11_119 g) (cMI_0_8 g) dX11_undo_16 ?_
    refine v_iconst hB 1 dX11_undo_19 (by decide) ?_
    refine v_isub hB dX11_undo_20 ?_
    refine v_putI hB hK (fl_X11_119 g) (fin_X11_8 g) (cMI_0_8 g) dX11_undo_21 ?_
    refine v_hl (fun h21 => ?_)
    refine v_aload_n hB 0 dX11_undo_24 rfl rfl ?_
    refine v_getA hB hK (fl_X11_39 g) (cMA_0_6 g) dX11_undo_25 ?_
    refine v_aload_n hB 0 dX11_undo_28 rfl rfl ?_
    refine v_getI hB hK (fl_X11_119 g) (cMI_0_8 g) dX11_undo_29 ?_
    refine v_iald hB hK (aMI_6 g) dX11_undo_32 ?_
    refine v_istore_n hB [(0, .ref ((SM g).1.2.1 0)), (1, .int (rI h21 6 (rI h21 0 8).toNatClampNeg))] [1, 0] dX11_undo_33 rfl (by decide) rfl ?_
    refine v_iload_n hB 1 dX11_undo_34 rfl rfl ?_
    refine v_if_ge (tgt := 81) hB dX11_undo_35 rfl ?_ ?_
    · refine v_aload_n hB 0 dX11_undo_81 rfl rfl ?_
      refine v_getA hB hK (fl_X11_27 g) (cMA_0_1 g) dX11_undo_82 ?_
      refine v_iload_n hB 1 dX11_undo_85 rfl rfl ?_
      refine v_aload_n hB 0 dX11_undo_86 rfl rfl ?_
      refine v_getA hB hK (fl_X11_42 g) (cMA_0_7 g) dX11_undo_87 ?_
      refine v_aload_n hB 0 dX11_undo_90 rfl rfl ?_
      refine v_getI hB hK (fl_X11_119 g) (cMI_0_8 g) dX11_undo_91 ?_
      refine v_iald hB hK (aMI_7 g) dX11_undo_94 ?_
      refine v_iast hB hK (aMI_2 g) dX11_undo_95 ?_
      exact V.sub [0] rfl (hn96 (wI h21 2 (rI h21 6 (rI h21 0 8).toNatClampNeg).toNatClampNeg (rI h21 7 (rI h21 0 8).toNatClampNeg)))
    · refine v_aload_n hB 0 dX11_undo_38 rfl rfl ?_
      refine v_getA hB hK (fl_X11_30 g) (cMA_0_2 g) dX11_undo_39 ?_
      refine v_iconst hB (-1) dX11_undo_42 (by decide) ?_
      refine v_iload_n hB 1 dX11_undo_43 rfl rfl ?_
      refine v_isub hB dX11_undo_44 ?_
      refine v_aload_n hB 0 dX11_undo_45 rfl rfl ?_
      refine v_getA hB hK (fl_X11_42 g) (cMA_0_7 g) dX11_undo_46 ?_
      refine v_aload_n hB 0 dX11_undo_49 rfl rfl ?_
      refine v_getI hB hK (fl_X11_119 g) (cMI_0_8 g) dX11_undo_50 ?_
      refine v_iald hB hK (aMI_7 g) dX11_undo_53 ?_
      refine v_bipush hB 10 dX11_undo_54 (by decide) ?_
      refine v_idiv hB dX11_undo_56 (by decide) ?_
      refine v_iast hB hK (aMI_3 g) dX11_undo_57 ?_
      refine v_hl (fun h57 => ?_)
      refine v_aload_n hB 0 dX11_undo_58 rfl rfl ?_
      refine v_getA hB hK (fl_X11_33 g) (cMA_0_3 g) dX11_undo_59 ?_
      refine v_iconst hB (-1) dX11_undo_62 (by decide) ?_
      refine v_iload_n hB 1 dX11_undo_63 rfl rfl ?_
      refine v_isub hB dX11_undo_64 ?_
      refine v_aload_n hB 0 dX11_undo_65 rfl rfl ?_
      refine v_getA hB hK (fl_X11_42 g) (cMA_0_7 g) dX11_undo_66 ?_
      refine v_aload_n hB 0 dX11_undo_69 rfl rfl ?_
      refine v_getI hB hK (fl_X11_119 g) (cMI_0_8 g) dX11_undo_70 ?_
      refine v_iald hB hK (aMI_7 g) dX11_undo_73 ?_
      refine v_bipush hB 10 dX11_undo_74 (by decide) ?_
      refine v_irem hB dX11_undo_76 (by decide) ?_
      refine v_iast hB hK (aMI_4 g) dX11_undo_77 ?_
      refine v_goto (tgt := 96) hB dX11_undo_78 rfl ?_
      exact V.sub [0] rfl (hn96 (wI h57 4 ((-1) - (rI h21 6 (rI h21 0 8).toNatClampNeg)).toNatClampNeg ((rI h57 7 (rI h57 0 8).toNatClampNeg) - (rI h57 7 (rI h57 0 8).toNatClampNeg) / 10 * 10)))
  · refine v_aload_n hB 0 dX11_undo_7 rfl rfl ?_
    refine v_bipush hB (-3) dX11_undo_8 (by decide) ?_
    refine v_bWi (fun r10 h10 e10 => v_callV hB hK hR.rm [.int (-3)] [] (oM_0 g) lb_X11_no lv_X11_8 (c_X11_no g hK.A X.1.2.1 (-3) h e10) dX11_undo_10 rfl rfl (Nat.le_of_ble_eq_true rfl) (by decide) (by decide)) (fun r10 h10 => ?_)
    exact v_retWi (x := r10) hB hK hR dX11_undo_13

def f_X11_canCome_j66 (w23 : Bool → Int32 → Option Bool) (v3 : Int32) (s0 : Bool) : Option Bool :=
  w23 s0 (v3 + 1)
def f_X11_canCome_j65 (w23 : Bool → Int32 → Option Bool) (v3 : Int32) : Option Bool :=
  f_X11_canCome_j66 w23 v3 false
def f_X11_canCome_l23 (p1 : Int32) (h : pq_H) (w23 : Bool → Int32 → Option Bool) (v2 : Bool) (v3 : Int32) : Option Bool :=
  if v2 = true then (if (f_X11_termsOf p1) ≤ v3 then (some v2) else (gd (inb v3 28) (if (rJ h 8 v3.toNatClampNeg) < (-1000000) then (f_X11_canCome_j65 w23 v3) else (gd (inb v3 28) (if 1000000 < (rJ h 8 v3.toNatClampNeg) then (f_X11_canCome_j65 w23 v3) else (f_X11_canCome_j66 w23 v3 true)))))) else (some v2)
def f_X11_canCome_j20 (p1 : Int32) (h : pq_H) (s0 : Bool) : Option Bool :=
  lp (fun _ _ => none) (f_X11_canCome_l23 p1 h) 1000 s0 0
def f_X11_canCome_j19 (p1 : Int32) (h : pq_H) : Option Bool :=
  f_X11_canCome_j20 p1 h false
def f_X11_canCome (p1 : Int32) (h : pq_H) : Option Bool :=
  if 6 ≤ (rI h 0 5) then (f_X11_canCome_j19 p1 h) else (if 6 < p1 then (f_X11_canCome_j19 p1 h) else (f_X11_canCome_j20 p1 h true))
set_option maxRecDepth 100000 in
set_option maxHeartbeats 4000000 in
theorem c_X11_canCome (g : pq_g) {A : Nat → Prop} (hA : pq_A (SM g) A) (l : Launch) (p1 : Int32) (h : pq_H) {rr : Bool} (e : f_X11_canCome p1 h = some rr) : pq_M (SM g) A l yX11_canCome cX11_canCome 4 (some .boolean) 1 20 [.ref ((SM g).1.2.1 0), .int p1] h (some (.int (b2i rr))) h := by
  refine pq_met hA l (own := RX11) 1 20 _ [(0, .ref ((SM g).1.2.1 0)), (1, .int p1)] h _ h (by decide +kernel) rfl (Nat.le_of_ble_eq_true rfl) rfl (fun X hXl hXA hB hK hR => ?_)
  refine V.cast (F' := f_X11_canCome p1 h) (res' := rr) (fun _ => e) ?_
  have hn23 : ∀ (n : Nat), ∀ (v2 : Bool) (v3 : Int32), V X (SM g) rr 4 23 [(0, .ref ((SM g).1.2.1 0)), (1, .int p1), (2, .int (b2i v2)), (3, .int v3)] [] h (lp (fun _ _ => none) (f_X11_canCome_l23 p1 h) n v2 v3) := by
    refine lp_ind (fun (w23 : Bool → Int32 → Option Bool) => ∀ (v2 : Bool) (v3 : Int32), V X (SM g) rr 4 23 [(0, .ref ((SM g).1.2.1 0)), (1, .int p1), (2, .int (b2i v2)), (3, .int v3)] [] h (w23 v2 v3)) (fun _ _ => V.none _ _ _ _) (fun w23 ih23 => ?_)
    have hn66 : ∀ (v3 : Int32) (s0 : Bool), V X (SM g) rr 4 66 [(0, .ref ((SM g).1.2.1 0)), (1, .int p1), (3, .int v3)] [.int (b2i s0)] h (f_X11_canCome_j66 w23 v3 s0) := by
      intro v3 s0
      unfold f_X11_canCome_j66
      refine v_istore_n hB [(0, .ref ((SM g).1.2.1 0)), (1, .int p1), (2, .int (b2i s0)), (3, .int v3)] [1, 2, 0, 3] dX11_canCome_66 rfl (by decide) rfl ?_
      refine v_iinc hB (v3 + 1) [(0, .ref ((SM g).1.2.1 0)), (1, .int p1), (2, .int (b2i s0)), (3, .int (v3 + 1))] 3 [1, 2, 3, 0] dX11_canCome_67 rfl rfl (by decide) rfl ?_
      refine v_goto (tgt := 23) hB dX11_canCome_70 rfl ?_
      exact V.sub [0, 1, 2, 3] rfl (ih23 s0 (v3 + 1))
    have hn65 : ∀ (v3 : Int32), V X (SM g) rr 4 65 [(0, .ref ((SM g).1.2.1 0)), (1, .int p1), (3, .int v3)] [] h (f_X11_canCome_j65 w23 v3) := by
      intro v3
      unfold f_X11_canCome_j65
      refine v_iconst hB 0 dX11_canCome_65 (by decide) ?_
      exact V.sub [0, 1, 2] rfl (hn66 v3 false)
    intro v2 v3
    unfold f_X11_canCome_l23
    refine v_iload_n hB 2 dX11_canCome_23 rfl rfl ?_
    refine v_ifz_eq (r := v2) (tgt := 73) hB dX11_canCome_24 rfl ?_ ?_
    · refine v_iload_n hB 2 dX11_canCome_73 rfl rfl ?_
      exact v_retRz (x := v2) hB hK hR dX11_canCome_74
    · refine v_iload_n hB 3 dX11_canCome_27 rfl rfl ?_
      refine v_iload_n hB 1 dX11_canCome_28 rfl rfl ?_
      refine v_bT (v_callS hB hK hR.rm [.int p1] [.int v3] lb_X11_termsOf lv_X11_102 (c_X11_termsOf g hK.A X.1.2.1 p1 h) dX11_canCome_29 rfl rfl (Nat.le_of_ble_eq_true rfl) (by decide) (by decide)) ?_
      refine v_icmp_ge (tgt := 73) hB dX11_canCome_32 rfl ?_ ?_
      · refine v_iload_n hB 2 dX11_canCome_73 rfl rfl ?_
        exact v_retRz (x := v2) hB hK hR dX11_canCome_74
      · refine v_aload_n hB 0 dX11_canCome_35 rfl rfl ?_
        refine v_getA hB hK (fl_X11_45 g) (cMA_0_9 g) dX11_canCome_36 ?_
        refine v_iload_n hB 3 dX11_canCome_39 rfl rfl ?_
        refine v_lald hB hK (aMJ_8 g) dX11_canCome_40 ?_
        refine v_ldc2 hB (-1000000) k_X11_122 dX11_canCome_41 ?_
        refine v_lcmp_lt (tgt := 65) hB dX11_canCome_44 dX11_canCome_45 rfl ?_ ?_
        · exact V.sub [0, 1, 3] rfl (hn65 v3)
        · refine v_aload_n hB 0 dX11_canCome_48 rfl rfl ?_
          refine v_getA hB hK (fl_X11_45 g) (cMA_0_9 g) dX11_canCome_49 ?_
          refine v_iload_n hB 3 dX11_canCome_52 rfl rfl ?_
          refine v_lald hB hK (aMJ_8 g) dX11_canCome_53 ?_
          refine v_ldc2 hB 1000000 k_X11_124 dX11_canCome_54 ?_
          refine v_lcmp_gt (tgt := 65) hB dX11_canCome_57 dX11_canCome_58 rfl ?_ ?_
          · exact V.sub [0, 1, 3] rfl (hn65 v3)
          · refine v_iconst hB 1 dX11_canCome_61 (by decide) ?_
            refine v_goto (tgt := 66) hB dX11_canCome_62 rfl ?_
            exact V.sub [0, 1, 3] rfl (hn66 v3 true)
  have hn20 : ∀ (s0 : Bool), V X (SM g) rr 4 20 [(0, .ref ((SM g).1.2.1 0)), (1, .int p1)] [.int (b2i s0)] h (f_X11_canCome_j20 p1 h s0) := by
    intro s0
    unfold f_X11_canCome_j20
    refine v_istore_n hB [(0, .ref ((SM g).1.2.1 0)), (1, .int p1), (2, .int (b2i s0))] [1, 2, 0] dX11_canCome_20 rfl (by decide) rfl ?_
    refine v_iconst hB 0 dX11_canCome_21 (by decide) ?_
    refine v_istore_n hB [(0, .ref ((SM g).1.2.1 0)), (1, .int p1), (2, .int (b2i s0)), (3, .int 0)] [1, 2, 3, 0] dX11_canCome_22 rfl (by decide) rfl ?_
    exact V.sub [0, 1, 2, 3] rfl (hn23 1000 s0 0)
  have hn19 : V X (SM g) rr 4 19 [(0, .ref ((SM g).1.2.1 0)), (1, .int p1)] [] h (f_X11_canCome_j19 p1 h) := by
    unfold f_X11_canCome_j19
    refine v_iconst hB 0 dX11_canCome_19 (by decide) ?_
    exact V.sub [0, 1] rfl (hn20 false)
  unfold f_X11_canCome
  refine v_aload_n hB 0 dX11_canCome_0 rfl rfl ?_
  refine v_getI hB hK (fl_X11_95 g) (cMI_0_5 g) dX11_canCome_1 ?_
  refine v_bipush hB 6 dX11_canCome_4 (by decide) ?_
  refine v_icmp_ge (tgt := 19) hB dX11_canCome_6 rfl ?_ ?_
  · exact V.sub [0, 1] rfl (hn19)
  · refine v_iload_n hB 1 dX11_canCome_9 rfl rfl ?_
    refine v_bipush hB 6 dX11_canCome_10 (by decide) ?_
    refine v_icmp_gt (tgt := 19) hB dX11_canCome_12 rfl ?_ ?_
    · exact V.sub [0, 1] rfl (hn19)
    · refine v_iconst hB 1 dX11_canCome_15 (by decide) ?_
      refine v_goto (tgt := 20) hB dX11_canCome_16 rfl ?_
      exact V.sub [0, 1] rfl (hn20 true)

def f_X11_comes_j47 (p1 : Int32) (h : pq_H) : Option (Int32 × pq_H) :=
  gd (inb (rI h 0 5) 6) (hl (wI h 3 (rI h 0 5).toNatClampNeg 0) fun h56 => gd (inb (rI h56 0 5) 6) (hl (wI h56 4 (rI h56 0 5).toNatClampNeg 0) fun h66 => gd (inb (rI h66 0 5) 6) (hl (wI h66 5 (rI h66 0 5).toNatClampNeg p1) fun h76 => hl (wI h76 0 5 ((rI h76 0 5) + 1)) fun h84 => some ((rI h84 0 5) - 1, h84))))
def f_X11_comes_j40 (w2 : Int32 → pq_H → Option (Int32 × pq_H)) (v2 : Int32) (s1 : Int32) (s2 : Int32) (h : pq_H) : Option (Int32 × pq_H) :=
  gd (inb s1 168) (w2 (v2 + 1) (wI h 2 s1.toNatClampNeg s2))
def f_X11_comes_l2 (p1 : Int32) (w2 : Int32 → pq_H → Option (Int32 × pq_H)) (v2 : Int32) (h : pq_H) : Option (Int32 × pq_H) :=
  if 28 ≤ v2 then (f_X11_comes_j47 p1 h) else (if (f_X11_termsOf p1) ≤ v2 then (f_X11_comes_j40 w2 v2 ((28 * (rI h 0 5)) + v2) 0 h) else (gd (inb v2 28) (f_X11_comes_j40 w2 v2 ((28 * (rI h 0 5)) + v2) ((rJ h 8 v2.toNatClampNeg).toInt32) h)))
def f_X11_comes (p1 : Int32) (h : pq_H) : Option (Int32 × pq_H) :=
  lp (fun _ _ => none) (f_X11_comes_l2 p1) 1000 0 h
set_option maxRecDepth 100000 in
set_option maxHeartbeats 4000000 in
theorem c_X11_comes (g : pq_g) {A : Nat → Prop} (hA : pq_A (SM g) A) (l : Launch) (p1 : Int32) (h : pq_H) {rr : Int32} {hh : pq_H} (e : f_X11_comes p1 h = some (rr, hh)) : pq_M (SM g) A l yX11_comes cX11_comes 3 (some .int) 1 20 [.ref ((SM g).1.2.1 0), .int p1] h (some (.int rr)) hh := by
  refine pq_met hA l (own := RX11) 1 20 _ [(0, .ref ((SM g).1.2.1 0)), (1, .int p1)] h _ hh (by decide +kernel) rfl (Nat.le_of_ble_eq_true rfl) rfl (fun X hXl hXA hB hK hR => ?_)
  refine V.cast (F' := f_X11_comes p1 h) (res' := (rr, hh)) (fun _ => e) ?_
  have hn47 : ∀ (h : pq_H), V X (SM g) (rr, hh) 3 47 [(0, .ref ((SM g).1.2.1 0)), (1, .int p1)] [] h (f_X11_comes_j47 p1 h) := by
    intro h
    unfold f_X11_comes_j47
    refine v_aload_n hB 0 dX11_comes_47 rfl rfl ?_
    refine v_getA hB hK (fl_X11_30 g) (cMA_0_2 g) dX11_comes_48 ?_
    refine v_aload_n hB 0 dX11_comes_51 rfl rfl ?_
    refine v_getI hB hK (fl_X11_95 g) (cMI_0_5 g) dX11_comes_52 ?_
    refine v_iconst hB 0 dX11_comes_55 (by decide) ?_
    refine v_iast hB hK (aMI_3 g) dX11_comes_56 ?_
    refine v_hl (fun h56 => ?_)
    refine v_aload_n hB 0 dX11_comes_57 rfl rfl ?_
    refine v_getA hB hK (fl_X11_33 g) (cMA_0_3 g) dX11_comes_58 ?_
    refine v_aload_n hB 0 dX11_comes_61 rfl rfl ?_
    refine v_getI hB hK (fl_X11_95 g) (cMI_0_5 g) dX11_comes_62 ?_
    refine v_iconst hB 0 dX11_comes_65 (by decide) ?_
    refine v_iast hB hK (aMI_4 g) dX11_comes_66 ?_
    refine v_hl (fun h66 => ?_)
    refine v_aload_n hB 0 dX11_comes_67 rfl rfl ?_
    refine v_getA hB hK (fl_X11_36 g) (cMA_0_4 g) dX11_comes_68 ?_
    refine v_aload_n hB 0 dX11_comes_71 rfl rfl ?_
    refine v_getI hB hK (fl_X11_95 g) (cMI_0_5 g) dX11_comes_72 ?_
    refine v_iload_n hB 1 dX11_comes_75 rfl rfl ?_
    refine v_iast hB hK (aMI_5 g) dX11_comes_76 ?_
    refine v_hl (fun h76 => ?_)
    refine v_aload_n hB 0 dX11_comes_77 rfl rfl ?_
    refine v_dup hB dX11_comes_78 rfl ?_
    refine v_getI hB hK (fl_X11_95 g) (cMI_0_5 g) dX11_comes_79 ?_
    refine v_iconst hB 1 dX11_comes_82 (by decide) ?_
    refine v_iadd hB dX11_comes_83 ?_
    refine v_putI hB hK (fl_X11_95 g) (fin_X11_5 g) (cMI_0_5 g) dX11_comes_84 ?_
    refine v_hl (fun h84 => ?_)
    refine v_aload_n hB 0 dX11_comes_87 rfl rfl ?_
    refine v_getI hB hK (fl_X11_95 g) (cMI_0_5 g) dX11_comes_88 ?_
    refine v_iconst hB 1 dX11_comes_91 (by decide) ?_
    refine v_isub hB dX11_comes_92 ?_
    exact v_retWi (x := (rI h84 0 5) - 1) hB hK hR dX11_comes_93
  have hn2 : ∀ (n : Nat), ∀ (v2 : Int32) (h : pq_H), V X (SM g) (rr, hh) 3 2 [(0, .ref ((SM g).1.2.1 0)), (1, .int p1), (2, .int v2)] [] h (lp (fun _ _ => none) (f_X11_comes_l2 p1) n v2 h) := by
    refine lp_ind (fun (w2 : Int32 → pq_H → Option (Int32 × pq_H)) => ∀ (v2 : Int32) (h : pq_H), V X (SM g) (rr, hh) 3 2 [(0, .ref ((SM g).1.2.1 0)), (1, .int p1), (2, .int v2)] [] h (w2 v2 h)) (fun _ _ => V.none _ _ _ _) (fun w2 ih2 => ?_)
    have hn40 : ∀ (v2 : Int32) (s1 : Int32) (s2 : Int32) (h : pq_H), V X (SM g) (rr, hh) 3 40 [(0, .ref ((SM g).1.2.1 0)), (1, .int p1), (2, .int v2)] [.int s2, .int s1, .ref ((SM g).1.2.1 2)] h (f_X11_comes_j40 w2 v2 s1 s2 h) := by
      intro v2 s1 s2 h
      unfold f_X11_comes_j40
      refine v_iast hB hK (aMI_2 g) dX11_comes_40 ?_
      refine v_iinc hB (v2 + 1) [(0, .ref ((SM g).1.2.1 0)), (1, .int p1), (2, .int (v2 + 1))] 2 [1, 2, 0] dX11_comes_41 rfl rfl (by decide) rfl ?_
      refine v_goto (tgt := 2) hB dX11_comes_44 rfl ?_
      exact V.sub [0, 1, 2] rfl (ih2 (v2 + 1) (wI h 2 s1.toNatClampNeg s2))
    intro v2 h
    unfold f_X11_comes_l2
    refine v_iload_n hB 2 dX11_comes_2 rfl rfl ?_
    refine v_bipush hB 28 dX11_comes_3 (by decide) ?_
    refine v_icmp_ge (tgt := 47) hB dX11_comes_5 rfl ?_ ?_
    · exact V.sub [0, 1] rfl (hn47 h)
    · refine v_aload_n hB 0 dX11_comes_8 rfl rfl ?_
      refine v_getA hB hK (fl_X11_27 g) (cMA_0_1 g) dX11_comes_9 ?_
      refine v_bipush hB 28 dX11_comes_12 (by decide) ?_
      refine v_aload_n hB 0 dX11_comes_14 rfl rfl ?_
      refine v_getI hB hK (fl_X11_95 g) (cMI_0_5 g) dX11_comes_15 ?_
      refine v_imul hB dX11_comes_18 ?_
      refine v_iload_n hB 2 dX11_comes_19 rfl rfl ?_
      refine v_iadd hB dX11_comes_20 ?_
      refine v_iload_n hB 2 dX11_comes_21 rfl rfl ?_
      refine v_iload_n hB 1 dX11_comes_22 rfl rfl ?_
      refine v_bT (v_callS hB hK hR.rm [.int p1] [.int v2, .int ((28 * (rI h 0 5)) + v2), .ref ((SM g).1.2.1 2)] lb_X11_termsOf lv_X11_102 (c_X11_termsOf g hK.A X.1.2.1 p1 h) dX11_comes_23 rfl rfl (Nat.le_of_ble_eq_true rfl) (by decide) (by decide)) ?_
      refine v_icmp_ge (tgt := 39) hB dX11_comes_26 rfl ?_ ?_
      · refine v_iconst hB 0 dX11_comes_39 (by decide) ?_
        exact V.sub [0, 1, 2] rfl (hn40 v2 ((28 * (rI h 0 5)) + v2) 0 h)
      · refine v_aload_n hB 0 dX11_comes_29 rfl rfl ?_
        refine v_getA hB hK (fl_X11_45 g) (cMA_0_9 g) dX11_comes_30 ?_
        refine v_iload_n hB 2 dX11_comes_33 rfl rfl ?_
        refine v_lald hB hK (aMJ_8 g) dX11_comes_34 ?_
        refine v_l2i hB dX11_comes_35 ?_
        refine v_goto (tgt := 40) hB dX11_comes_36 rfl ?_
        exact V.sub [0, 1, 2] rfl (hn40 v2 ((28 * (rI h 0 5)) + v2) ((rJ h 8 v2.toNatClampNeg).toInt32) h)
  unfold f_X11_comes
  refine v_iconst hB 0 dX11_comes_0 (by decide) ?_
  refine v_istore_n hB [(0, .ref ((SM g).1.2.1 0)), (1, .int p1), (2, .int 0)] [1, 2, 0] dX11_comes_1 rfl (by decide) rfl ?_
  exact V.sub [0, 1, 2] rfl (hn2 1000 0 h)

def f_X11_comesIf (p1 : Int32) (h : pq_H) : Option (Int32 × pq_H) :=
  (f_X11_canCome p1 h).bind fun r2 => if r2 = true then (bd2 (f_X11_comes p1 h) fun r10 h10 => some (r10, h10)) else (some ((-6), h))
set_option maxRecDepth 100000 in
set_option maxHeartbeats 4000000 in
theorem c_X11_comesIf (g : pq_g) {A : Nat → Prop} (hA : pq_A (SM g) A) (l : Launch) (p1 : Int32) (h : pq_H) {rr : Int32} {hh : pq_H} (e : f_X11_comesIf p1 h = some (rr, hh)) : pq_M (SM g) A l yX11_comesIf cX11_comesIf 2 (some .int) 2 43 [.ref ((SM g).1.2.1 0), .int p1] h (some (.int rr)) hh := by
  refine pq_met hA l (own := RX11) 2 43 _ [(0, .ref ((SM g).1.2.1 0)), (1, .int p1)] h _ hh (by decide +kernel) rfl (Nat.le_of_ble_eq_true rfl) rfl (fun X hXl hXA hB hK hR => ?_)
  refine V.cast (F' := f_X11_comesIf p1 h) (res' := (rr, hh)) (fun _ => e) ?_
  unfold f_X11_comesIf
  refine v_aload_n hB 0 dX11_comesIf_0 rfl rfl ?_
  refine v_iload_n hB 1 dX11_comesIf_1 rfl rfl ?_
  refine v_bRz (fun r2 e2 => v_callV hB hK hR.rm [.int p1] [] (oM_0 g) lb_X11_canCome lv_X11_126 (c_X11_canCome g hK.A X.1.2.1 p1 h e2) dX11_comesIf_2 rfl rfl (Nat.le_of_ble_eq_true rfl) (by decide) (by decide)) (fun r2 => ?_)
  refine v_ifz_eq (r := r2) (tgt := 16) hB dX11_comesIf_5 rfl ?_ ?_
  · refine v_bipush hB (-6) dX11_comesIf_16 (by decide) ?_
    exact v_retWi (x := (-6)) hB hK hR dX11_comesIf_18
  · refine v_aload_n hB 0 dX11_comesIf_8 rfl rfl ?_
    refine v_iload_n hB 1 dX11_comesIf_9 rfl rfl ?_
    refine v_bWi (fun r10 h10 e10 => v_callV hB hK hR.rm [.int p1] [] (oM_0 g) lb_X11_comes lv_X11_130 (c_X11_comes g hK.A X.1.2.1 p1 h e10) dX11_comesIf_10 rfl rfl (Nat.le_of_ble_eq_true rfl) (by decide) (by decide)) (fun r10 h10 => ?_)
    refine v_goto (tgt := 18) hB dX11_comesIf_13 rfl ?_
    exact v_retWi (x := r10) hB hK hR dX11_comesIf_18

def f_X11_sums_j38 (p1 : Int32) (h : pq_H) : Option (Int32 × pq_H) :=
  gd (inb p1 6) (bd2 (f_X11_comesIf (rI h 5 p1.toNatClampNeg) h) fun r45 h45 => some (r45, h45))
def f_X11_sums_l2 (p1 : Int32) (p2 : Int32) (w2 : Int32 → pq_H → Option (Int32 × pq_H)) (v3 : Int32) (h : pq_H) : Option (Int32 × pq_H) :=
  (f_X11_isTerm p1 v3 h).bind fun r5 => if r5 = true then ((f_X11_coefficientOf p1 v3 h).bind fun r19 => (f_X11_coefficientOf p2 v3 h).bind fun r26 => gd (inb v3 28) (w2 (v3 + 1) (wJ h 8 v3.toNatClampNeg (r19.toInt64 + r26.toInt64)))) else (f_X11_sums_j38 p1 h)
def f_X11_sums (p1 : Int32) (p2 : Int32) (h : pq_H) : Option (Int32 × pq_H) :=
  lp (fun _ _ => none) (f_X11_sums_l2 p1 p2) 1000 0 h
set_option maxRecDepth 100000 in
set_option maxHeartbeats 4000000 in
theorem c_X11_sums (g : pq_g) {A : Nat → Prop} (hA : pq_A (SM g) A) (l : Launch) (p1 : Int32) (p2 : Int32) (h : pq_H) {rr : Int32} {hh : pq_H} (e : f_X11_sums p1 p2 h = some (rr, hh)) : pq_M (SM g) A l yX11_sums cX11_sums 4 (some .int) 3 71 [.ref ((SM g).1.2.1 0), .int p1, .int p2] h (some (.int rr)) hh := by
  refine pq_met hA l (own := RX11) 3 71 _ [(0, .ref ((SM g).1.2.1 0)), (1, .int p1), (2, .int p2)] h _ hh (by decide +kernel) rfl (Nat.le_of_ble_eq_true rfl) rfl (fun X hXl hXA hB hK hR => ?_)
  refine V.cast (F' := f_X11_sums p1 p2 h) (res' := (rr, hh)) (fun _ => e) ?_
  have hn38 : ∀ (h : pq_H), V X (SM g) (rr, hh) 4 38 [(0, .ref ((SM g).1.2.1 0)), (1, .int p1)] [] h (f_X11_sums_j38 p1 h) := by
    intro h
    unfold f_X11_sums_j38
    refine v_aload_n hB 0 dX11_sums_38 rfl rfl ?_
    refine v_aload_n hB 0 dX11_sums_39 rfl rfl ?_
    refine v_getA hB hK (fl_X11_36 g) (cMA_0_4 g) dX11_sums_40 ?_
    refine v_iload_n hB 1 dX11_sums_43 rfl rfl ?_
    refine v_iald hB hK (aMI_5 g) dX11_sums_44 ?_
    refine v_bWi (fun r45 h45 e45 => v_callV hB hK hR.rm [.int (rI h 5 p1.toNatClampNeg)] [] (oM_0 g) lb_X11_comesIf lv_X11_133 (c_X11_comesIf g hK.A X.1.2.1 (rI h 5 p1.toNatClampNeg) h e45) dX11_sums_45 rfl rfl (Nat.le_of_ble_eq_true rfl) (by decide) (by decide)) (fun r45 h45 => ?_)
    exact v_retWi (x := r45) hB hK hR dX11_sums_48
  have hn2 : ∀ (n : Nat), ∀ (v3 : Int32) (h : pq_H), V X (SM g) (rr, hh) 4 2 [(0, .ref ((SM g).1.2.1 0)), (1, .int p1), (2, .int p2), (3, .int v3)] [] h (lp (fun _ _ => none) (f_X11_sums_l2 p1 p2) n v3 h) := by
    refine lp_ind (fun (w2 : Int32 → pq_H → Option (Int32 × pq_H)) => ∀ (v3 : Int32) (h : pq_H), V X (SM g) (rr, hh) 4 2 [(0, .ref ((SM g).1.2.1 0)), (1, .int p1), (2, .int p2), (3, .int v3)] [] h (w2 v3 h)) (fun _ _ => V.none _ _ _ _) (fun w2 ih2 => ?_)
    intro v3 h
    unfold f_X11_sums_l2
    refine v_aload_n hB 0 dX11_sums_2 rfl rfl ?_
    refine v_iload_n hB 1 dX11_sums_3 rfl rfl ?_
    refine v_iload_n hB 3 dX11_sums_4 rfl rfl ?_
    refine v_bRz (fun r5 e5 => v_callV hB hK hR.rm [.int p1, .int v3] [] (oM_0 g) lb_X11_isTerm lv_X11_111 (c_X11_isTerm g hK.A X.1.2.1 p1 v3 h e5) dX11_sums_5 rfl rfl (Nat.le_of_ble_eq_true rfl) (by decide) (by decide)) (fun r5 => ?_)
    refine v_ifz_eq (r := r5) (tgt := 38) hB dX11_sums_8 rfl ?_ ?_
    · exact V.sub [0, 1] rfl (hn38 h)
    · refine v_aload_n hB 0 dX11_sums_11 rfl rfl ?_
      refine v_getA hB hK (fl_X11_45 g) (cMA_0_9 g) dX11_sums_12 ?_
      refine v_iload_n hB 3 dX11_sums_15 rfl rfl ?_
      refine v_aload_n hB 0 dX11_sums_16 rfl rfl ?_
      refine v_iload_n hB 1 dX11_sums_17 rfl rfl ?_
      refine v_iload_n hB 3 dX11_sums_18 rfl rfl ?_
      refine v_bRi (fun r19 e19 => v_callV hB hK hR.rm [.int p1, .int v3] [.int v3, .ref ((SM g).1.2.1 8)] (oM_0 g) lb_X11_coefficientOf lv_X11_115 (c_X11_coefficientOf g hK.A X.1.2.1 p1 v3 h e19) dX11_sums_19 rfl rfl (Nat.le_of_ble_eq_true rfl) (by decide) (by decide)) (fun r19 => ?_)
      refine v_i2l hB dX11_sums_22 ?_
      refine v_aload_n hB 0 dX11_sums_23 rfl rfl ?_
      refine v_iload_n hB 2 dX11_sums_24 rfl rfl ?_
      refine v_iload_n hB 3 dX11_sums_25 rfl rfl ?_
      refine v_bRi (fun r26 e26 => v_callV hB hK hR.rm [.int p2, .int v3] [.long r19.toInt64, .int v3, .ref ((SM g).1.2.1 8)] (oM_0 g) lb_X11_coefficientOf lv_X11_115 (c_X11_coefficientOf g hK.A X.1.2.1 p2 v3 h e26) dX11_sums_26 rfl rfl (Nat.le_of_ble_eq_true rfl) (by decide) (by decide)) (fun r26 => ?_)
      refine v_i2l hB dX11_sums_29 ?_
      refine v_ladd hB dX11_sums_30 ?_
      refine v_last hB hK (aMJ_8 g) dX11_sums_31 ?_
      refine v_iinc hB (v3 + 1) [(0, .ref ((SM g).1.2.1 0)), (1, .int p1), (2, .int p2), (3, .int (v3 + 1))] 3 [1, 2, 3, 0] dX11_sums_32 rfl rfl (by decide) rfl ?_
      refine v_goto (tgt := 2) hB dX11_sums_35 rfl ?_
      exact V.sub [0, 1, 2, 3] rfl (ih2 (v3 + 1) (wJ h 8 v3.toNatClampNeg (r19.toInt64 + r26.toInt64)))
  unfold f_X11_sums
  refine v_iconst hB 0 dX11_sums_0 (by decide) ?_
  refine v_istore_n hB [(0, .ref ((SM g).1.2.1 0)), (1, .int p1), (2, .int p2), (3, .int 0)] [1, 2, 3, 0] dX11_sums_1 rfl (by decide) rfl ?_
  exact V.sub [0, 1, 2, 3] rfl (hn2 1000 0 h)

def f_X11_multiplies_j164 (v3 : Int32) (h : pq_H) : Option (Int32 × pq_H) :=
  bd2 (f_X11_comesIf v3 h) fun r166 h166 => some (r166, h166)
def f_X11_multiplies_j158 (w50 : Int32 → pq_H → Option (Int32 × pq_H)) (v4 : Int32) (h : pq_H) : Option (Int32 × pq_H) :=
  w50 (v4 + 1) h
def f_X11_multiplies_l63 (p1 : Int32) (p2 : Int32) (v3 : Int32) (w50 : Int32 → pq_H → Option (Int32 × pq_H)) (v4 : Int32) (w63 : Int32 → pq_H → Option (Int32 × pq_H)) (v5 : Int32) (h : pq_H) : Option (Int32 × pq_H) :=
  (f_X11_isTerm p2 v5 h).bind fun r67 => if r67 = true then (gd (inb p1 6) ((f_X11_powerIn (rI h 5 p1.toNatClampNeg) v4 0).bind fun r87 => gd (inb p2 6) ((f_X11_powerIn (rI h 5 p2.toNatClampNeg) v5 0).bind fun r99 => gd (inb p1 6) ((f_X11_powerIn (rI h 5 p1.toNatClampNeg) v4 2).bind fun r112 => gd (inb p2 6) ((f_X11_powerIn (rI h 5 p2.toNatClampNeg) v5 2).bind fun r124 => gd (inb (f_X11_termOf v3 (r87 + r99) (r112 + r124)) 28) ((f_X11_coefficientOf p1 v4 h).bind fun r137 => (f_X11_coefficientOf p2 v5 h).bind fun r145 => gd (inb (f_X11_termOf v3 (r87 + r99) (r112 + r124)) 28) (w63 (v5 + 1) (wJ h 8 (f_X11_termOf v3 (r87 + r99) (r112 + r124)).toNatClampNeg ((rJ h 8 (f_X11_termOf v3 (r87 + r99) (r112 + r124)).toNatClampNeg) + (r137.toInt64 * r145.toInt64)))))))))) else (f_X11_multiplies_j158 w50 v4 h)
def f_X11_multiplies_l50 (p1 : Int32) (p2 : Int32) (v3 : Int32) (w50 : Int32 → pq_H → Option (Int32 × pq_H)) (v4 : Int32) (h : pq_H) : Option (Int32 × pq_H) :=
  (f_X11_isTerm p1 v4 h).bind fun r54 => if r54 = true then (lp (fun _ _ => none) (f_X11_multiplies_l63 p1 p2 v3 w50 v4) 1000 0 h) else (f_X11_multiplies_j164 v3 h)
def f_X11_multiplies_j47 (p1 : Int32) (p2 : Int32) (v3 : Int32) (h : pq_H) : Option (Int32 × pq_H) :=
  lp (fun _ _ => none) (f_X11_multiplies_l50 p1 p2 v3) 1000 0 h
def f_X11_multiplies_l26 (p1 : Int32) (p2 : Int32) (v3 : Int32) (w26 : Int32 → pq_H → Option (Int32 × pq_H)) (v4 : Int32) (h : pq_H) : Option (Int32 × pq_H) :=
  if 28 ≤ v4 then (f_X11_multiplies_j47 p1 p2 v3 h) else (gd (inb v4 28) (w26 (v4 + 1) (wJ h 8 v4.toNatClampNeg 0)))
def f_X11_multiplies (p1 : Int32) (p2 : Int32) (h : pq_H) : Option (Int32 × pq_H) :=
  gd (inb p1 6) (gd (inb p2 6) (if ((rI h 5 p1.toNatClampNeg) + (rI h 5 p2.toNatClampNeg)) ≤ 6 then (lp (fun _ _ => none) (f_X11_multiplies_l26 p1 p2 ((rI h 5 p1.toNatClampNeg) + (rI h 5 p2.toNatClampNeg))) 1000 0 h) else (some ((-6), h))))
set_option maxRecDepth 100000 in
set_option maxHeartbeats 4000000 in
theorem c_X11_multiplies (g : pq_g) {A : Nat → Prop} (hA : pq_A (SM g) A) (l : Launch) (p1 : Int32) (p2 : Int32) (h : pq_H) {rr : Int32} {hh : pq_H} (e : f_X11_multiplies p1 p2 h = some (rr, hh)) : pq_M (SM g) A l yX11_multiplies cX11_multiplies 6 (some .int) 3 71 [.ref ((SM g).1.2.1 0), .int p1, .int p2] h (some (.int rr)) hh := by
  refine pq_met hA l (own := RX11) 3 71 _ [(0, .ref ((SM g).1.2.1 0)), (1, .int p1), (2, .int p2)] h _ hh (by decide +kernel) rfl (Nat.le_of_ble_eq_true rfl) rfl (fun X hXl hXA hB hK hR => ?_)
  refine V.cast (F' := f_X11_multiplies p1 p2 h) (res' := (rr, hh)) (fun _ => e) ?_
  have hn164 : ∀ (v3 : Int32) (h : pq_H), V X (SM g) (rr, hh) 6 164 [(0, .ref ((SM g).1.2.1 0)), (3, .int v3)] [] h (f_X11_multiplies_j164 v3 h) := by
    intro v3 h
    unfold f_X11_multiplies_j164
    refine v_aload_n hB 0 dX11_multiplies_164 rfl rfl ?_
    refine v_iload_n hB 1 dX11_multiplies_165 rfl rfl ?_
    refine v_bWi (fun r166 h166 e166 => v_callV hB hK hR.rm [.int v3] [] (oM_0 g) lb_X11_comesIf lv_X11_133 (c_X11_comesIf g hK.A X.1.2.1 v3 h e166) dX11_multiplies_166 rfl rfl (Nat.le_of_ble_eq_true rfl) (by decide) (by decide)) (fun r166 h166 => ?_)
    exact v_retWi (x := r166) hB hK hR dX11_multiplies_169
  have hn50 : ∀ (v3 : Int32) (n : Nat), ∀ (v4 : Int32) (h : pq_H), V X (SM g) (rr, hh) 6 50 [(0, .ref ((SM g).1.2.1 0)), (1, .int p1), (2, .int p2), (3, .int v3), (4, .int v4)] [] h (lp (fun _ _ => none) (f_X11_multiplies_l50 p1 p2 v3) n v4 h) := by
    intro v3
    refine lp_ind (fun (w50 : Int32 → pq_H → Option (Int32 × pq_H)) => ∀ (v4 : Int32) (h : pq_H), V X (SM g) (rr, hh) 6 50 [(0, .ref ((SM g).1.2.1 0)), (1, .int p1), (2, .int p2), (3, .int v3), (4, .int v4)] [] h (w50 v4 h)) (fun _ _ => V.none _ _ _ _) (fun w50 ih50 => ?_)
    have hn158 : ∀ (v4 : Int32) (h : pq_H), V X (SM g) (rr, hh) 6 158 [(0, .ref ((SM g).1.2.1 0)), (1, .int p1), (2, .int p2), (3, .int v3), (4, .int v4)] [] h (f_X11_multiplies_j158 w50 v4 h) := by
      intro v4 h
      unfold f_X11_multiplies_j158
      refine v_iinc hB (v4 + 1) [(0, .ref ((SM g).1.2.1 0)), (1, .int p1), (2, .int p2), (3, .int v3), (4, .int (v4 + 1))] 4 [1, 2, 3, 4, 0] dX11_multiplies_158 rfl rfl (by decide) rfl ?_
      refine v_goto (tgt := 50) hB dX11_multiplies_161 rfl ?_
      exact V.sub [0, 1, 2, 3, 4] rfl (ih50 (v4 + 1) h)
    have hn63 : ∀ (v4 : Int32) (n : Nat), ∀ (v5 : Int32) (h : pq_H), V X (SM g) (rr, hh) 6 63 [(0, .ref ((SM g).1.2.1 0)), (1, .int p1), (2, .int p2), (3, .int v3), (4, .int v4), (5, .int v5)] [] h (lp (fun _ _ => none) (f_X11_multiplies_l63 p1 p2 v3 w50 v4) n v5 h) := by
      intro v4
      refine lp_ind (fun (w63 : Int32 → pq_H → Option (Int32 × pq_H)) => ∀ (v5 : Int32) (h : pq_H), V X (SM g) (rr, hh) 6 63 [(0, .ref ((SM g).1.2.1 0)), (1, .int p1), (2, .int p2), (3, .int v3), (4, .int v4), (5, .int v5)] [] h (w63 v5 h)) (fun _ _ => V.none _ _ _ _) (fun w63 ih63 => ?_)
      intro v5 h
      unfold f_X11_multiplies_l63
      refine v_aload_n hB 0 dX11_multiplies_63 rfl rfl ?_
      refine v_iload_n hB 2 dX11_multiplies_64 rfl rfl ?_
      refine v_iload hB 5 dX11_multiplies_65 rfl ?_
      refine v_bRz (fun r67 e67 => v_callV hB hK hR.rm [.int p2, .int v5] [] (oM_0 g) lb_X11_isTerm lv_X11_111 (c_X11_isTerm g hK.A X.1.2.1 p2 v5 h e67) dX11_multiplies_67 rfl rfl (Nat.le_of_ble_eq_true rfl) (by decide) (by decide)) (fun r67 => ?_)
      refine v_ifz_eq (r := r67) (tgt := 158) hB dX11_multiplies_70 rfl ?_ ?_
      · exact V.sub [0, 1, 2, 3, 4] rfl (hn158 v4 h)
      · refine v_aload_n hB 0 dX11_multiplies_73 rfl rfl ?_
        refine v_getA hB hK (fl_X11_45 g) (cMA_0_9 g) dX11_multiplies_74 ?_
        refine v_iload_n hB 3 dX11_multiplies_77 rfl rfl ?_
        refine v_aload_n hB 0 dX11_multiplies_78 rfl rfl ?_
        refine v_getA hB hK (fl_X11_36 g) (cMA_0_4 g) dX11_multiplies_79 ?_
        refine v_iload_n hB 1 dX11_multiplies_82 rfl rfl ?_
        refine v_iald hB hK (aMI_5 g) dX11_multiplies_83 ?_
        refine v_iload hB 4 dX11_multiplies_84 rfl ?_
        refine v_iconst hB 0 dX11_multiplies_86 (by decide) ?_
        refine v_bRi (fun r87 e87 => v_callS hB hK hR.rm [.int (rI h 5 p1.toNatClampNeg), .int v4, .int 0] [.int v3, .ref ((SM g).1.2.1 8)] lb_X11_powerIn lv_X11_17 (c_X11_powerIn g hK.A X.1.2.1 (rI h 5 p1.toNatClampNeg) v4 0 h e87) dX11_multiplies_87 rfl rfl (Nat.le_of_ble_eq_true rfl) (by decide) (by decide)) (fun r87 => ?_)
        refine v_aload_n hB 0 dX11_multiplies_90 rfl rfl ?_
        refine v_getA hB hK (fl_X11_36 g) (cMA_0_4 g) dX11_multiplies_91 ?_
        refine v_iload_n hB 2 dX11_multiplies_94 rfl rfl ?_
        refine v_iald hB hK (aMI_5 g) dX11_multiplies_95 ?_
        refine v_iload hB 5 dX11_multiplies_96 rfl ?_
        refine v_iconst hB 0 dX11_multiplies_98 (by decide) ?_
        refine v_bRi (fun r99 e99 => v_callS hB hK hR.rm [.int (rI h 5 p2.toNatClampNeg), .int v5, .int 0] [.int r87, .int v3, .ref ((SM g).1.2.1 8)] lb_X11_powerIn lv_X11_17 (c_X11_powerIn g hK.A X.1.2.1 (rI h 5 p2.toNatClampNeg) v5 0 h e99) dX11_multiplies_99 rfl rfl (Nat.le_of_ble_eq_true rfl) (by decide) (by decide)) (fun r99 => ?_)
        refine v_iadd hB dX11_multiplies_102 ?_
        refine v_aload_n hB 0 dX11_multiplies_103 rfl rfl ?_
        refine v_getA hB hK (fl_X11_36 g) (cMA_0_4 g) dX11_multiplies_104 ?_
        refine v_iload_n hB 1 dX11_multiplies_107 rfl rfl ?_
        refine v_iald hB hK (aMI_5 g) dX11_multiplies_108 ?_
        refine v_iload hB 4 dX11_multiplies_109 rfl ?_
        refine v_iconst hB 2 dX11_multiplies_111 (by decide) ?_
        refine v_bRi (fun r112 e112 => v_callS hB hK hR.rm [.int (rI h 5 p1.toNatClampNeg), .int v4, .int 2] [.int (r87 + r99), .int v3, .ref ((SM g).1.2.1 8)] lb_X11_powerIn lv_X11_17 (c_X11_powerIn g hK.A X.1.2.1 (rI h 5 p1.toNatClampNeg) v4 2 h e112) dX11_multiplies_112 rfl rfl (Nat.le_of_ble_eq_true rfl) (by decide) (by decide)) (fun r112 => ?_)
        refine v_aload_n hB 0 dX11_multiplies_115 rfl rfl ?_
        refine v_getA hB hK (fl_X11_36 g) (cMA_0_4 g) dX11_multiplies_116 ?_
        refine v_iload_n hB 2 dX11_multiplies_119 rfl rfl ?_
        refine v_iald hB hK (aMI_5 g) dX11_multiplies_120 ?_
        refine v_iload hB 5 dX11_multiplies_121 rfl ?_
        refine v_iconst hB 2 dX11_multiplies_123 (by decide) ?_
        refine v_bRi (fun r124 e124 => v_callS hB hK hR.rm [.int (rI h 5 p2.toNatClampNeg), .int v5, .int 2] [.int r112, .int (r87 + r99), .int v3, .ref ((SM g).1.2.1 8)] lb_X11_powerIn lv_X11_17 (c_X11_powerIn g hK.A X.1.2.1 (rI h 5 p2.toNatClampNeg) v5 2 h e124) dX11_multiplies_124 rfl rfl (Nat.le_of_ble_eq_true rfl) (by decide) (by decide)) (fun r124 => ?_)
        refine v_iadd hB dX11_multiplies_127 ?_
        refine v_bT (v_callS hB hK hR.rm [.int v3, .int (r87 + r99), .int (r112 + r124)] [.ref ((SM g).1.2.1 8)] lb_X11_termOf lv_X11_105 (c_X11_termOf g hK.A X.1.2.1 v3 (r87 + r99) (r112 + r124) h) dX11_multiplies_128 rfl rfl (Nat.le_of_ble_eq_true rfl) (by decide) (by decide)) ?_
        refine v_dup2 hB dX11_multiplies_131 rfl rfl ?_
        refine v_lald hB hK (aMJ_8 g) dX11_multiplies_132 ?_
        refine v_aload_n hB 0 dX11_multiplies_133 rfl rfl ?_
        refine v_iload_n hB 1 dX11_multiplies_134 rfl rfl ?_
        refine v_iload hB 4 dX11_multiplies_135 rfl ?_
        refine v_bRi (fun r137 e137 => v_callV hB hK hR.rm [.int p1, .int v4] [.long (rJ h 8 (f_X11_termOf v3 (r87 + r99) (r112 + r124)).toNatClampNeg), .int (f_X11_termOf v3 (r87 + r99) (r112 + r124)), .ref ((SM g).1.2.1 8)] (oM_0 g) lb_X11_coefficientOf lv_X11_115 (c_X11_coefficientOf g hK.A X.1.2.1 p1 v4 h e137) dX11_multiplies_137 rfl rfl (Nat.le_of_ble_eq_true rfl) (by decide) (by decide)) (fun r137 => ?_)
        refine v_i2l hB dX11_multiplies_140 ?_
        refine v_aload_n hB 0 dX11_multiplies_141 rfl rfl ?_
        refine v_iload_n hB 2 dX11_multiplies_142 rfl rfl ?_
        refine v_iload hB 5 dX11_multiplies_143 rfl ?_
        refine v_bRi (fun r145 e145 => v_callV hB hK hR.rm [.int p2, .int v5] [.long r137.toInt64, .long (rJ h 8 (f_X11_termOf v3 (r87 + r99) (r112 + r124)).toNatClampNeg), .int (f_X11_termOf v3 (r87 + r99) (r112 + r124)), .ref ((SM g).1.2.1 8)] (oM_0 g) lb_X11_coefficientOf lv_X11_115 (c_X11_coefficientOf g hK.A X.1.2.1 p2 v5 h e145) dX11_multiplies_145 rfl rfl (Nat.le_of_ble_eq_true rfl) (by decide) (by decide)) (fun r145 => ?_)
        refine v_i2l hB dX11_multiplies_148 ?_
        refine v_lmul hB dX11_multiplies_149 ?_
        refine v_ladd hB dX11_multiplies_150 ?_
        refine v_last hB hK (aMJ_8 g) dX11_multiplies_151 ?_
        refine v_iinc hB (v5 + 1) [(0, .ref ((SM g).1.2.1 0)), (1, .int p1), (2, .int p2), (3, .int v3), (4, .int v4), (5, .int (v5 + 1))] 5 [1, 2, 3, 4, 5, 0] dX11_multiplies_152 rfl rfl (by decide) rfl ?_
        refine v_goto (tgt := 63) hB dX11_multiplies_155 rfl ?_
        exact V.sub [0, 1, 2, 3, 4, 5] rfl (ih63 (v5 + 1) (wJ h 8 (f_X11_termOf v3 (r87 + r99) (r112 + r124)).toNatClampNeg ((rJ h 8 (f_X11_termOf v3 (r87 + r99) (r112 + r124)).toNatClampNeg) + (r137.toInt64 * r145.toInt64))))
    intro v4 h
    unfold f_X11_multiplies_l50
    refine v_aload_n hB 0 dX11_multiplies_50 rfl rfl ?_
    refine v_iload_n hB 1 dX11_multiplies_51 rfl rfl ?_
    refine v_iload hB 4 dX11_multiplies_52 rfl ?_
    refine v_bRz (fun r54 e54 => v_callV hB hK hR.rm [.int p1, .int v4] [] (oM_0 g) lb_X11_isTerm lv_X11_111 (c_X11_isTerm g hK.A X.1.2.1 p1 v4 h e54) dX11_multiplies_54 rfl rfl (Nat.le_of_ble_eq_true rfl) (by decide) (by decide)) (fun r54 => ?_)
    refine v_ifz_eq (r := r54) (tgt := 164) hB dX11_multiplies_57 rfl ?_ ?_
    · exact V.sub [0, 3] rfl (hn164 v3 h)
    · refine v_iconst hB 0 dX11_multiplies_60 (by decide) ?_
      refine v_istore hB [(0, .ref ((SM g).1.2.1 0)), (1, .int p1), (2, .int p2), (3, .int v3), (4, .int v4), (5, .int 0)] [1, 2, 3, 4, 5, 0] dX11_multiplies_61 (by decide) rfl ?_
      exact V.sub [0, 1, 2, 3, 4, 5] rfl (hn63 v4 1000 0 h)
  have hn47 : ∀ (v3 : Int32) (h : pq_H), V X (SM g) (rr, hh) 6 47 [(0, .ref ((SM g).1.2.1 0)), (1, .int p1), (2, .int p2), (3, .int v3)] [] h (f_X11_multiplies_j47 p1 p2 v3 h) := by
    intro v3 h
    unfold f_X11_multiplies_j47
    refine v_iconst hB 0 dX11_multiplies_47 (by decide) ?_
    refine v_istore hB [(0, .ref ((SM g).1.2.1 0)), (1, .int p1), (2, .int p2), (3, .int v3), (4, .int 0)] [1, 2, 3, 4, 0] dX11_multiplies_48 (by decide) rfl ?_
    exact V.sub [0, 1, 2, 3, 4] rfl (hn50 v3 1000 0 h)
  have hn26 : ∀ (v3 : Int32) (n : Nat), ∀ (v4 : Int32) (h : pq_H), V X (SM g) (rr, hh) 6 26 [(0, .ref ((SM g).1.2.1 0)), (1, .int p1), (2, .int p2), (3, .int v3), (4, .int v4)] [] h (lp (fun _ _ => none) (f_X11_multiplies_l26 p1 p2 v3) n v4 h) := by
    intro v3
    refine lp_ind (fun (w26 : Int32 → pq_H → Option (Int32 × pq_H)) => ∀ (v4 : Int32) (h : pq_H), V X (SM g) (rr, hh) 6 26 [(0, .ref ((SM g).1.2.1 0)), (1, .int p1), (2, .int p2), (3, .int v3), (4, .int v4)] [] h (w26 v4 h)) (fun _ _ => V.none _ _ _ _) (fun w26 ih26 => ?_)
    intro v4 h
    unfold f_X11_multiplies_l26
    refine v_iload hB 4 dX11_multiplies_26 rfl ?_
    refine v_bipush hB 28 dX11_multiplies_28 (by decide) ?_
    refine v_icmp_ge (tgt := 47) hB dX11_multiplies_30 rfl ?_ ?_
    · exact V.sub [0, 1, 2, 3] rfl (hn47 v3 h)
    · refine v_aload_n hB 0 dX11_multiplies_33 rfl rfl ?_
      refine v_getA hB hK (fl_X11_45 g) (cMA_0_9 g) dX11_multiplies_34 ?_
      refine v_iload hB 4 dX11_multiplies_37 rfl ?_
      refine v_lconst hB 0 dX11_multiplies_39 (by decide) ?_
      refine v_last hB hK (aMJ_8 g) dX11_multiplies_40 ?_
      refine v_iinc hB (v4 + 1) [(0, .ref ((SM g).1.2.1 0)), (1, .int p1), (2, .int p2), (3, .int v3), (4, .int (v4 + 1))] 4 [1, 2, 3, 4, 0] dX11_multiplies_41 rfl rfl (by decide) rfl ?_
      refine v_goto (tgt := 26) hB dX11_multiplies_44 rfl ?_
      exact V.sub [0, 1, 2, 3, 4] rfl (ih26 (v4 + 1) (wJ h 8 v4.toNatClampNeg 0))
  unfold f_X11_multiplies
  refine v_aload_n hB 0 dX11_multiplies_0 rfl rfl ?_
  refine v_getA hB hK (fl_X11_36 g) (cMA_0_4 g) dX11_multiplies_1 ?_
  refine v_iload_n hB 1 dX11_multiplies_4 rfl rfl ?_
  refine v_iald hB hK (aMI_5 g) dX11_multiplies_5 ?_
  refine v_aload_n hB 0 dX11_multiplies_6 rfl rfl ?_
  refine v_getA hB hK (fl_X11_36 g) (cMA_0_4 g) dX11_multiplies_7 ?_
  refine v_iload_n hB 2 dX11_multiplies_10 rfl rfl ?_
  refine v_iald hB hK (aMI_5 g) dX11_multiplies_11 ?_
  refine v_iadd hB dX11_multiplies_12 ?_
  refine v_istore_n hB [(0, .ref ((SM g).1.2.1 0)), (1, .int p1), (2, .int p2), (3, .int ((rI h 5 p1.toNatClampNeg) + (rI h 5 p2.toNatClampNeg)))] [1, 2, 3, 0] dX11_multiplies_13 rfl (by decide) rfl ?_
  refine v_iload_n hB 3 dX11_multiplies_14 rfl rfl ?_
  refine v_bipush hB 6 dX11_multiplies_15 (by decide) ?_
  refine v_icmp_le (tgt := 23) hB dX11_multiplies_17 rfl ?_ ?_
  · refine v_iconst hB 0 dX11_multiplies_23 (by decide) ?_
    refine v_istore hB [(0, .ref ((SM g).1.2.1 0)), (1, .int p1), (2, .int p2), (3, .int ((rI h 5 p1.toNatClampNeg) + (rI h 5 p2.toNatClampNeg))), (4, .int 0)] [1, 2, 3, 4, 0] dX11_multiplies_24 (by decide) rfl ?_
    exact V.sub [0, 1, 2, 3, 4] rfl (hn26 ((rI h 5 p1.toNatClampNeg) + (rI h 5 p2.toNatClampNeg)) 1000 0 h)
  · refine v_bipush hB (-6) dX11_multiplies_20 (by decide) ?_
    exact v_retWi (x := (-6)) hB hK hR dX11_multiplies_22

def f_X11_rises_j199 (h : pq_H) : Option pq_H :=
  some (wI h 0 21 ((rI h 0 21) + 1))
def f_X11_rises_j193 (w61 : Int32 → pq_H → Option pq_H) (v2 : Int32) (h : pq_H) : Option pq_H :=
  w61 (v2 + 1) h
def f_X11_rises_j159 (p1 : Int32) (w61 : Int32 → pq_H → Option pq_H) (v2 : Int32) (v3 : Int32) (v4 : Int32) (h : pq_H) : Option pq_H :=
  if (p1 &&& 4) = 0 then (f_X11_rises_j193 w61 v2 h) else (gd (inb (f_X11_termOf ((rI h 0 21) + 1) v3 (v4 + 1)) 190) (gd (inb v2 190) (gd (inb (f_X11_termOf ((rI h 0 21) + 1) v3 (v4 + 1)) 190) (f_X11_rises_j193 w61 v2 (wJ h 15 (f_X11_termOf ((rI h 0 21) + 1) v3 (v4 + 1)).toNatClampNeg ((rJ h 15 (f_X11_termOf ((rI h 0 21) + 1) v3 (v4 + 1)).toNatClampNeg) + (rJ h 16 v2.toNatClampNeg)))))))
def f_X11_rises_j127 (p1 : Int32) (w61 : Int32 → pq_H → Option pq_H) (v2 : Int32) (v3 : Int32) (v4 : Int32) (h : pq_H) : Option pq_H :=
  if (p1 &&& 2) = 0 then (f_X11_rises_j159 p1 w61 v2 v3 v4 h) else (gd (inb (f_X11_termOf ((rI h 0 21) + 1) v3 v4) 190) (gd (inb v2 190) (gd (inb (f_X11_termOf ((rI h 0 21) + 1) v3 v4) 190) (f_X11_rises_j159 p1 w61 v2 v3 v4 (wJ h 15 (f_X11_termOf ((rI h 0 21) + 1) v3 v4).toNatClampNeg ((rJ h 15 (f_X11_termOf ((rI h 0 21) + 1) v3 v4).toNatClampNeg) + (rJ h 16 v2.toNatClampNeg)))))))
def f_X11_rises_l61 (p1 : Int32) (w61 : Int32 → pq_H → Option pq_H) (v2 : Int32) (h : pq_H) : Option pq_H :=
  if (f_X11_termsOf (rI h 0 21)) ≤ v2 then (f_X11_rises_j199 h) else ((f_X11_powerIn (rI h 0 21) v2 0).bind fun r78 => (f_X11_powerIn (rI h 0 21) v2 2).bind fun r88 => if (p1 &&& 1) = 0 then (f_X11_rises_j127 p1 w61 v2 r78 r88 h) else (gd (inb (f_X11_termOf ((rI h 0 21) + 1) (r78 + 1) r88) 190) (gd (inb v2 190) (gd (inb (f_X11_termOf ((rI h 0 21) + 1) (r78 + 1) r88) 190) (f_X11_rises_j127 p1 w61 v2 r78 r88 (wJ h 15 (f_X11_termOf ((rI h 0 21) + 1) (r78 + 1) r88).toNatClampNeg ((rJ h 15 (f_X11_termOf ((rI h 0 21) + 1) (r78 + 1) r88).toNatClampNeg) + (rJ h 16 v2.toNatClampNeg))))))))
def f_X11_rises_j59 (p1 : Int32) (h : pq_H) : Option pq_H :=
  lp (fun _ _ => none) (f_X11_rises_l61 p1) 1000 0 h
def f_X11_rises_l33 (p1 : Int32) (w33 : Int32 → pq_H → Option pq_H) (v2 : Int32) (h : pq_H) : Option pq_H :=
  if (f_X11_termsOf ((rI h 0 21) + 1)) ≤ v2 then (f_X11_rises_j59 p1 h) else (gd (inb v2 190) (w33 (v2 + 1) (wJ h 15 v2.toNatClampNeg 0)))
def f_X11_rises_j31 (p1 : Int32) (h : pq_H) : Option pq_H :=
  lp (fun _ _ => none) (f_X11_rises_l33 p1) 1000 0 h
def f_X11_rises_l2 (p1 : Int32) (w2 : Int32 → pq_H → Option pq_H) (v2 : Int32) (h : pq_H) : Option pq_H :=
  if (f_X11_termsOf (rI h 0 21)) ≤ v2 then (f_X11_rises_j31 p1 h) else (gd (inb v2 190) (gd (inb v2 190) (w2 (v2 + 1) (wJ h 16 v2.toNatClampNeg (rJ h 15 v2.toNatClampNeg)))))
def f_X11_rises (p1 : Int32) (h : pq_H) : Option pq_H :=
  lp (fun _ _ => none) (f_X11_rises_l2 p1) 1000 0 h
set_option maxRecDepth 100000 in
set_option maxHeartbeats 4000000 in
theorem c_X11_rises (g : pq_g) {A : Nat → Prop} (hA : pq_A (SM g) A) (l : Launch) (p1 : Int32) (h : pq_H) {hh : pq_H} (e : f_X11_rises p1 h = some hh) : pq_M (SM g) A l yX11_rises cX11_rises 5 none 2 45 [.ref ((SM g).1.2.1 0), .int p1] h none hh := by
  refine pq_met hA l (own := RX11) 2 45 _ [(0, .ref ((SM g).1.2.1 0)), (1, .int p1)] h _ hh (by decide +kernel) rfl (Nat.le_of_ble_eq_true rfl) rfl (fun X hXl hXA hB hK hR => ?_)
  refine V.cast (F' := f_X11_rises p1 h) (res' := hh) (fun _ => e) ?_
  have hn199 : ∀ (h : pq_H), V X (SM g) hh 5 199 [(0, .ref ((SM g).1.2.1 0))] [] h (f_X11_rises_j199 h) := by
    intro h
    unfold f_X11_rises_j199
    refine v_aload_n hB 0 dX11_rises_199 rfl rfl ?_
    refine v_dup hB dX11_rises_200 rfl ?_
    refine v_getI hB hK (fl_X11_239 g) (cMI_0_21 g) dX11_rises_201 ?_
    refine v_iconst hB 1 dX11_rises_204 (by decide) ?_
    refine v_iadd hB dX11_rises_205 ?_
    refine v_putI hB hK (fl_X11_239 g) (fin_X11_21 g) (cMI_0_21 g) dX11_rises_206 ?_
    exact v_retWv hB hK hR dX11_rises_209
  have hn61 : ∀ (n : Nat), ∀ (v2 : Int32) (h : pq_H), V X (SM g) hh 5 61 [(0, .ref ((SM g).1.2.1 0)), (1, .int p1), (2, .int v2)] [] h (lp (fun _ _ => none) (f_X11_rises_l61 p1) n v2 h) := by
    refine lp_ind (fun (w61 : Int32 → pq_H → Option pq_H) => ∀ (v2 : Int32) (h : pq_H), V X (SM g) hh 5 61 [(0, .ref ((SM g).1.2.1 0)), (1, .int p1), (2, .int v2)] [] h (w61 v2 h)) (fun _ _ => V.none _ _ _ _) (fun w61 ih61 => ?_)
    have hn193 : ∀ (v2 : Int32) (h : pq_H), V X (SM g) hh 5 193 [(0, .ref ((SM g).1.2.1 0)), (1, .int p1), (2, .int v2)] [] h (f_X11_rises_j193 w61 v2 h) := by
      intro v2 h
      unfold f_X11_rises_j193
      refine v_iinc hB (v2 + 1) [(0, .ref ((SM g).1.2.1 0)), (1, .int p1), (2, .int (v2 + 1))] 2 [1, 2, 0] dX11_rises_193 rfl rfl (by decide) rfl ?_
      refine v_goto (tgt := 61) hB dX11_rises_196 rfl ?_
      exact V.sub [0, 1, 2] rfl (ih61 (v2 + 1) h)
    have hn159 : ∀ (v2 : Int32) (v3 : Int32) (v4 : Int32) (h : pq_H), V X (SM g) hh 5 159 [(0, .ref ((SM g).1.2.1 0)), (1, .int p1), (2, .int v2), (3, .int v3), (4, .int v4)] [] h (f_X11_rises_j159 p1 w61 v2 v3 v4 h) := by
      intro v2 v3 v4 h
      unfold f_X11_rises_j159
      refine v_iload_n hB 1 dX11_rises_159 rfl rfl ?_
      refine v_iconst hB 4 dX11_rises_160 (by decide) ?_
      refine v_iand hB dX11_rises_161 ?_
      refine v_if_eq (tgt := 193) hB dX11_rises_162 rfl ?_ ?_
      · exact V.sub [0, 1, 2] rfl (hn193 v2 h)
      · refine v_aload_n hB 0 dX11_rises_165 rfl rfl ?_
        refine v_getA hB hK (fl_X11_67 g) (cMA_0_19 g) dX11_rises_166 ?_
        refine v_aload_n hB 0 dX11_rises_169 rfl rfl ?_
        refine v_getI hB hK (fl_X11_239 g) (cMI_0_21 g) dX11_rises_170 ?_
        refine v_iconst hB 1 dX11_rises_173 (by decide) ?_
        refine v_iadd hB dX11_rises_174 ?_
        refine v_iload_n hB 3 dX11_rises_175 rfl rfl ?_
        refine v_iload hB 4 dX11_rises_176 rfl ?_
        refine v_iconst hB 1 dX11_rises_178 (by decide) ?_
        refine v_iadd hB dX11_rises_179 ?_
        refine v_bT (v_callS hB hK hR.rm [.int ((rI h 0 21) + 1), .int v3, .int (v4 + 1)] [.ref ((SM g).1.2.1 15)] lb_X11_termOf lv_X11_105 (c_X11_termOf g hK.A X.1.2.1 ((rI h 0 21) + 1) v3 (v4 + 1) h) dX11_rises_180 rfl rfl (Nat.le_of_ble_eq_true rfl) (by decide) (by decide)) ?_
        refine v_dup2 hB dX11_rises_183 rfl rfl ?_
        refine v_lald hB hK (aMJ_15 g) dX11_rises_184 ?_
        refine v_aload_n hB 0 dX11_rises_185 rfl rfl ?_
        refine v_getA hB hK (fl_X11_70 g) (cMA_0_20 g) dX11_rises_186 ?_
        refine v_iload_n hB 2 dX11_rises_189 rfl rfl ?_
        refine v_lald hB hK (aMJ_16 g) dX11_rises_190 ?_
        refine v_ladd hB dX11_rises_191 ?_
        refine v_last hB hK (aMJ_15 g) dX11_rises_192 ?_
        exact V.sub [0, 1, 2] rfl (hn193 v2 (wJ h 15 (f_X11_termOf ((rI h 0 21) + 1) v3 (v4 + 1)).toNatClampNeg ((rJ h 15 (f_X11_termOf ((rI h 0 21) + 1) v3 (v4 + 1)).toNatClampNeg) + (rJ h 16 v2.toNatClampNeg))))
    have hn127 : ∀ (v2 : Int32) (v3 : Int32) (v4 : Int32) (h : pq_H), V X (SM g) hh 5 127 [(0, .ref ((SM g).1.2.1 0)), (1, .int p1), (2, .int v2), (3, .int v3), (4, .int v4)] [] h (f_X11_rises_j127 p1 w61 v2 v3 v4 h) := by
      intro v2 v3 v4 h
      unfold f_X11_rises_j127
      refine v_iload_n hB 1 dX11_rises_127 rfl rfl ?_
      refine v_iconst hB 2 dX11_rises_128 (by decide) ?_
      refine v_iand hB dX11_rises_129 ?_
      refine v_if_eq (tgt := 159) hB dX11_rises_130 rfl ?_ ?_
      · exact V.sub [0, 1, 2, 3, 4] rfl (hn159 v2 v3 v4 h)
      · refine v_aload_n hB 0 dX11_rises_133 rfl rfl ?_
        refine v_getA hB hK (fl_X11_67 g) (cMA_0_19 g) dX11_rises_134 ?_
        refine v_aload_n hB 0 dX11_rises_137 rfl rfl ?_
        refine v_getI hB hK (fl_X11_239 g) (cMI_0_21 g) dX11_rises_138 ?_
        refine v_iconst hB 1 dX11_rises_141 (by decide) ?_
        refine v_iadd hB dX11_rises_142 ?_
        refine v_iload_n hB 3 dX11_rises_143 rfl rfl ?_
        refine v_iload hB 4 dX11_rises_144 rfl ?_
        refine v_bT (v_callS hB hK hR.rm [.int ((rI h 0 21) + 1), .int v3, .int v4] [.ref ((SM g).1.2.1 15)] lb_X11_termOf lv_X11_105 (c_X11_termOf g hK.A X.1.2.1 ((rI h 0 21) + 1) v3 v4 h) dX11_rises_146 rfl rfl (Nat.le_of_ble_eq_true rfl) (by decide) (by decide)) ?_
        refine v_dup2 hB dX11_rises_149 rfl rfl ?_
        refine v_lald hB hK (aMJ_15 g) dX11_rises_150 ?_
        refine v_aload_n hB 0 dX11_rises_151 rfl rfl ?_
        refine v_getA hB hK (fl_X11_70 g) (cMA_0_20 g) dX11_rises_152 ?_
        refine v_iload_n hB 2 dX11_rises_155 rfl rfl ?_
        refine v_lald hB hK (aMJ_16 g) dX11_rises_156 ?_
        refine v_ladd hB dX11_rises_157 ?_
        refine v_last hB hK (aMJ_15 g) dX11_rises_158 ?_
        exact V.sub [0, 1, 2, 3, 4] rfl (hn159 v2 v3 v4 (wJ h 15 (f_X11_termOf ((rI h 0 21) + 1) v3 v4).toNatClampNeg ((rJ h 15 (f_X11_termOf ((rI h 0 21) + 1) v3 v4).toNatClampNeg) + (rJ h 16 v2.toNatClampNeg))))
    intro v2 h
    unfold f_X11_rises_l61
    refine v_iload_n hB 2 dX11_rises_61 rfl rfl ?_
    refine v_aload_n hB 0 dX11_rises_62 rfl rfl ?_
    refine v_getI hB hK (fl_X11_239 g) (cMI_0_21 g) dX11_rises_63 ?_
    refine v_bT (v_callS hB hK hR.rm [.int (rI h 0 21)] [.int v2] lb_X11_termsOf lv_X11_102 (c_X11_termsOf g hK.A X.1.2.1 (rI h 0 21) h) dX11_rises_66 rfl rfl (Nat.le_of_ble_eq_true rfl) (by decide) (by decide)) ?_
    refine v_icmp_ge (tgt := 199) hB dX11_rises_69 rfl ?_ ?_
    · exact V.sub [0] rfl (hn199 h)
    · refine v_aload_n hB 0 dX11_rises_72 rfl rfl ?_
      refine v_getI hB hK (fl_X11_239 g) (cMI_0_21 g) dX11_rises_73 ?_
      refine v_iload_n hB 2 dX11_rises_76 rfl rfl ?_
      refine v_iconst hB 0 dX11_rises_77 (by decide) ?_
      refine v_bRi (fun r78 e78 => v_callS hB hK hR.rm [.int (rI h 0 21), .int v2, .int 0] [] lb_X11_powerIn lv_X11_17 (c_X11_powerIn g hK.A X.1.2.1 (rI h 0 21) v2 0 h e78) dX11_rises_78 rfl rfl (Nat.le_of_ble_eq_true rfl) (by decide) (by decide)) (fun r78 => ?_)
      refine v_istore_n hB [(0, .ref ((SM g).1.2.1 0)), (1, .int p1), (2, .int v2), (3, .int r78)] [1, 2, 3, 0] dX11_rises_81 rfl (by decide) rfl ?_
      refine v_aload_n hB 0 dX11_rises_82 rfl rfl ?_
      refine v_getI hB hK (fl_X11_239 g) (cMI_0_21 g) dX11_rises_83 ?_
      refine v_iload_n hB 2 dX11_rises_86 rfl rfl ?_
      refine v_iconst hB 2 dX11_rises_87 (by decide) ?_
      refine v_bRi (fun r88 e88 => v_callS hB hK hR.rm [.int (rI h 0 21), .int v2, .int 2] [] lb_X11_powerIn lv_X11_17 (c_X11_powerIn g hK.A X.1.2.1 (rI h 0 21) v2 2 h e88) dX11_rises_88 rfl rfl (Nat.le_of_ble_eq_true rfl) (by decide) (by decide)) (fun r88 => ?_)
      refine v_istore hB [(0, .ref ((SM g).1.2.1 0)), (1, .int p1), (2, .int v2), (3, .int r78), (4, .int r88)] [1, 2, 3, 4, 0] dX11_rises_91 (by decide) rfl ?_
      refine v_iload_n hB 1 dX11_rises_93 rfl rfl ?_
      refine v_iconst hB 1 dX11_rises_94 (by decide) ?_
      refine v_iand hB dX11_rises_95 ?_
      refine v_if_eq (tgt := 127) hB dX11_rises_96 rfl ?_ ?_
      · exact V.sub [0, 1, 2, 3, 4] rfl (hn127 v2 r78 r88 h)
      · refine v_aload_n hB 0 dX11_rises_99 rfl rfl ?_
        refine v_getA hB hK (fl_X11_67 g) (cMA_0_19 g) dX11_rises_100 ?_
        refine v_aload_n hB 0 dX11_rises_103 rfl rfl ?_
        refine v_getI hB hK (fl_X11_239 g) (cMI_0_21 g) dX11_rises_104 ?_
        refine v_iconst hB 1 dX11_rises_107 (by decide) ?_
        refine v_iadd hB dX11_rises_108 ?_
        refine v_iload_n hB 3 dX11_rises_109 rfl rfl ?_
        refine v_iconst hB 1 dX11_rises_110 (by decide) ?_
        refine v_iadd hB dX11_rises_111 ?_
        refine v_iload hB 4 dX11_rises_112 rfl ?_
        refine v_bT (v_callS hB hK hR.rm [.int ((rI h 0 21) + 1), .int (r78 + 1), .int r88] [.ref ((SM g).1.2.1 15)] lb_X11_termOf lv_X11_105 (c_X11_termOf g hK.A X.1.2.1 ((rI h 0 21) + 1) (r78 + 1) r88 h) dX11_rises_114 rfl rfl (Nat.le_of_ble_eq_true rfl) (by decide) (by decide)) ?_
        refine v_dup2 hB dX11_rises_117 rfl rfl ?_
        refine v_lald hB hK (aMJ_15 g) dX11_rises_118 ?_
        refine v_aload_n hB 0 dX11_rises_119 rfl rfl ?_
        refine v_getA hB hK (fl_X11_70 g) (cMA_0_20 g) dX11_rises_120 ?_
        refine v_iload_n hB 2 dX11_rises_123 rfl rfl ?_
        refine v_lald hB hK (aMJ_16 g) dX11_rises_124 ?_
        refine v_ladd hB dX11_rises_125 ?_
        refine v_last hB hK (aMJ_15 g) dX11_rises_126 ?_
        exact V.sub [0, 1, 2, 3, 4] rfl (hn127 v2 r78 r88 (wJ h 15 (f_X11_termOf ((rI h 0 21) + 1) (r78 + 1) r88).toNatClampNeg ((rJ h 15 (f_X11_termOf ((rI h 0 21) + 1) (r78 + 1) r88).toNatClampNeg) + (rJ h 16 v2.toNatClampNeg))))
  have hn59 : ∀ (h : pq_H), V X (SM g) hh 5 59 [(0, .ref ((SM g).1.2.1 0)), (1, .int p1)] [] h (f_X11_rises_j59 p1 h) := by
    intro h
    unfold f_X11_rises_j59
    refine v_iconst hB 0 dX11_rises_59 (by decide) ?_
    refine v_istore_n hB [(0, .ref ((SM g).1.2.1 0)), (1, .int p1), (2, .int 0)] [1, 2, 0] dX11_rises_60 rfl (by decide) rfl ?_
    exact V.sub [0, 1, 2] rfl (hn61 1000 0 h)
  have hn33 : ∀ (n : Nat), ∀ (v2 : Int32) (h : pq_H), V X (SM g) hh 5 33 [(0, .ref ((SM g).1.2.1 0)), (1, .int p1), (2, .int v2)] [] h (lp (fun _ _ => none) (f_X11_rises_l33 p1) n v2 h) := by
    refine lp_ind (fun (w33 : Int32 → pq_H → Option pq_H) => ∀ (v2 : Int32) (h : pq_H), V X (SM g) hh 5 33 [(0, .ref ((SM g).1.2.1 0)), (1, .int p1), (2, .int v2)] [] h (w33 v2 h)) (fun _ _ => V.none _ _ _ _) (fun w33 ih33 => ?_)
    intro v2 h
    unfold f_X11_rises_l33
    refine v_iload_n hB 2 dX11_rises_33 rfl rfl ?_
    refine v_aload_n hB 0 dX11_rises_34 rfl rfl ?_
    refine v_getI hB hK (fl_X11_239 g) (cMI_0_21 g) dX11_rises_35 ?_
    refine v_iconst hB 1 dX11_rises_38 (by decide) ?_
    refine v_iadd hB dX11_rises_39 ?_
    refine v_bT (v_callS hB hK hR.rm [.int ((rI h 0 21) + 1)] [.int v2] lb_X11_termsOf lv_X11_102 (c_X11_termsOf g hK.A X.1.2.1 ((rI h 0 21) + 1) h) dX11_rises_40 rfl rfl (Nat.le_of_ble_eq_true rfl) (by decide) (by decide)) ?_
    refine v_icmp_ge (tgt := 59) hB dX11_rises_43 rfl ?_ ?_
    · exact V.sub [0, 1] rfl (hn59 h)
    · refine v_aload_n hB 0 dX11_rises_46 rfl rfl ?_
      refine v_getA hB hK (fl_X11_67 g) (cMA_0_19 g) dX11_rises_47 ?_
      refine v_iload_n hB 2 dX11_rises_50 rfl rfl ?_
      refine v_lconst hB 0 dX11_rises_51 (by decide) ?_
      refine v_last hB hK (aMJ_15 g) dX11_rises_52 ?_
      refine v_iinc hB (v2 + 1) [(0, .ref ((SM g).1.2.1 0)), (1, .int p1), (2, .int (v2 + 1))] 2 [1, 2, 0] dX11_rises_53 rfl rfl (by decide) rfl ?_
      refine v_goto (tgt := 33) hB dX11_rises_56 rfl ?_
      exact V.sub [0, 1, 2] rfl (ih33 (v2 + 1) (wJ h 15 v2.toNatClampNeg 0))
  have hn31 : ∀ (h : pq_H), V X (SM g) hh 5 31 [(0, .ref ((SM g).1.2.1 0)), (1, .int p1)] [] h (f_X11_rises_j31 p1 h) := by
    intro h
    unfold f_X11_rises_j31
    refine v_iconst hB 0 dX11_rises_31 (by decide) ?_
    refine v_istore_n hB [(0, .ref ((SM g).1.2.1 0)), (1, .int p1), (2, .int 0)] [1, 2, 0] dX11_rises_32 rfl (by decide) rfl ?_
    exact V.sub [0, 1, 2] rfl (hn33 1000 0 h)
  have hn2 : ∀ (n : Nat), ∀ (v2 : Int32) (h : pq_H), V X (SM g) hh 5 2 [(0, .ref ((SM g).1.2.1 0)), (1, .int p1), (2, .int v2)] [] h (lp (fun _ _ => none) (f_X11_rises_l2 p1) n v2 h) := by
    refine lp_ind (fun (w2 : Int32 → pq_H → Option pq_H) => ∀ (v2 : Int32) (h : pq_H), V X (SM g) hh 5 2 [(0, .ref ((SM g).1.2.1 0)), (1, .int p1), (2, .int v2)] [] h (w2 v2 h)) (fun _ _ => V.none _ _ _ _) (fun w2 ih2 => ?_)
    intro v2 h
    unfold f_X11_rises_l2
    refine v_iload_n hB 2 dX11_rises_2 rfl rfl ?_
    refine v_aload_n hB 0 dX11_rises_3 rfl rfl ?_
    refine v_getI hB hK (fl_X11_239 g) (cMI_0_21 g) dX11_rises_4 ?_
    refine v_bT (v_callS hB hK hR.rm [.int (rI h 0 21)] [.int v2] lb_X11_termsOf lv_X11_102 (c_X11_termsOf g hK.A X.1.2.1 (rI h 0 21) h) dX11_rises_7 rfl rfl (Nat.le_of_ble_eq_true rfl) (by decide) (by decide)) ?_
    refine v_icmp_ge (tgt := 31) hB dX11_rises_10 rfl ?_ ?_
    · exact V.sub [0, 1] rfl (hn31 h)
    · refine v_aload_n hB 0 dX11_rises_13 rfl rfl ?_
      refine v_getA hB hK (fl_X11_70 g) (cMA_0_20 g) dX11_rises_14 ?_
      refine v_iload_n hB 2 dX11_rises_17 rfl rfl ?_
      refine v_aload_n hB 0 dX11_rises_18 rfl rfl ?_
      refine v_getA hB hK (fl_X11_67 g) (cMA_0_19 g) dX11_rises_19 ?_
      refine v_iload_n hB 2 dX11_rises_22 rfl rfl ?_
      refine v_lald hB hK (aMJ_15 g) dX11_rises_23 ?_
      refine v_last hB hK (aMJ_16 g) dX11_rises_24 ?_
      refine v_iinc hB (v2 + 1) [(0, .ref ((SM g).1.2.1 0)), (1, .int p1), (2, .int (v2 + 1))] 2 [1, 2, 0] dX11_rises_25 rfl rfl (by decide) rfl ?_
      refine v_goto (tgt := 2) hB dX11_rises_28 rfl ?_
      exact V.sub [0, 1, 2] rfl (ih2 (v2 + 1) (wJ h 16 v2.toNatClampNeg (rJ h 15 v2.toNatClampNeg)))
  unfold f_X11_rises
  refine v_iconst hB 0 dX11_rises_0 (by decide) ?_
  refine v_istore_n hB [(0, .ref ((SM g).1.2.1 0)), (1, .int p1), (2, .int 0)] [1, 2, 0] dX11_rises_1 rfl (by decide) rfl ?_
  exact V.sub [0, 1, 2] rfl (hn2 1000 0 h)

