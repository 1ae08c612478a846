def f_L_law_j465 (sc0 : Nat × (Nat → Int32)) (v3 : Int32) (h : pq_H) : Option (Bool × pq_H) :=
  (f_L_cell sc0 40).bind fun r468 => bd2 (f_X10_of 0 3 h) fun r474 h474 => (f_L_pick r468 r474).bind fun r477 => bd2 (f_X10_coefficient 0 r477 h474) fun r486 h486 => (f_L_cell sc0 41).bind fun r498 => (f_L_pick r498 2000001).bind fun r503 => bd2 (f_X10_change 0 r477 (r503 - 1000000) h486) fun r509 h509 => if r509 < (-1000000) then (some (false, h509)) else ((f_L_cell sc0 42).bind fun r522 => (f_L_pick r522 6).bind fun r527 => (f_L_cell sc0 42).bind fun r533 => (f_L_pick (r533 >>> (4 &&& 31)) 10).bind fun r540 => bd2 (f_X10_turn 0 r527 r540 h509) fun r543 h543 => if r543 < 0 then (some (false, h543)) else (bd2 (f_X10_undo h543) fun r550 h550 => if r550 = 1 then (bd2 (f_X10_undo h550) fun r558 h558 => if r558 = 0 then (bd2 (f_X10_coefficient 0 r477 h558) fun r568 h568 => if r568 = r486 then (bd2 (f_X10_back h568) fun r579 h579 => if r579 = 2 then ((f_X10_count 0 h579).bind fun r588 => if r588 = 2 then (bd2 (f_X10_coefficient 0 r477 h579) fun r599 h599 => if r599 = r486 then (bd2 (f_X10_undo h599) fun r608 h608 => if r608 = (-3) then (bd2 (f_L_lifts 0 v3 h608) fun r619 h619 => if r619 = true then (some (true, h619)) else (some (false, h619))) else (some (false, h608))) else (some (false, h599))) else (some (false, h579))) else (some (false, h579))) else (some (false, h568))) else (some (false, h558))) else (some (false, h550))))
def f_L_law_j459 (w396 : Int32 → pq_H → Option (Bool × pq_H)) (v6 : Int32) (h : pq_H) : Option (Bool × pq_H) :=
  w396 (v6 + 1) h
def f_L_law_j453 (w396 : Int32 → pq_H → Option (Bool × pq_H)) (w405 : Int32 → pq_H → Option (Bool × pq_H)) (v7 : Int32) (h : pq_H) : Option (Bool × pq_H) :=
  w405 (v7 + 1) h
def f_L_law_l405 (w396 : Int32 → pq_H → Option (Bool × pq_H)) (v6 : Int32) (w405 : Int32 → pq_H → Option (Bool × pq_H)) (v7 : Int32) (h : pq_H) : Option (Bool × pq_H) :=
  if 6 ≤ v7 then (f_L_law_j459 w396 v6 h) else (bd2 (f_X10_of 5 3 h) fun r417 h417 => if r417 ≤ v7 then (f_L_law_j453 w396 w405 v7 h417) else (bd2 (f_X10_lifted 0 7 (v6 + 1) v7 h417) fun r433 h433 => bd2 (f_X10_lifted 5 7 v6 v7 h433) fun r444 h444 => if r433 = r444 then (f_L_law_j453 w396 w405 v7 h444) else (some (false, h444))))
def f_L_law_l396 (sc0 : Nat × (Nat → Int32)) (v3 : Int32) (w396 : Int32 → pq_H → Option (Bool × pq_H)) (v6 : Int32) (h : pq_H) : Option (Bool × pq_H) :=
  if 4 ≤ v6 then (f_L_law_j465 sc0 v3 h) else (lp (fun _ _ => none) (f_L_law_l405 w396 v6) 1000 0 h)
def f_L_law_j393 (sc0 : Nat × (Nat → Int32)) (v3 : Int32) (h : pq_H) : Option (Bool × pq_H) :=
  lp (fun _ _ => none) (f_L_law_l396 sc0 v3) 1000 0 h
def f_L_law_j374 (sc0 : Nat × (Nat → Int32)) (v3 : Int32) (v4 : Int32) (v5 : Int32) (h : pq_H) : Option (Bool × pq_H) :=
  if 0 ≤ v4 then (f_L_law_j393 sc0 v3 h) else (if v5 < 0 then (f_L_law_j393 sc0 v3 h) else (if v5 = 12 then (f_L_law_j393 sc0 v3 h) else (some (false, h))))
def f_L_law_j336 (sc0 : Nat × (Nat → Int32)) (v3 : Int32) (h : pq_H) : Option (Bool × pq_H) :=
  bd2 (f_X10_least 0 7 0 h) fun r341 h341 => bd2 (f_X10_least 5 7 0 h341) fun r351 h351 => if r341 < 0 then (f_L_law_j374 sc0 v3 r341 r351 h351) else (if r351 = (if 0 < (r341 - 1) then (r341 - 1) else 0) then (f_L_law_j374 sc0 v3 r341 r351 h351) else (some (false, h351)))
def f_L_law_l165 (sc0 : Nat × (Nat → Int32)) (v3 : Int32) (w165 : Int32 → pq_H → Option (Bool × pq_H)) (v4 : Int32) (h : pq_H) : Option (Bool × pq_H) :=
  if 5 ≤ v4 then (f_L_law_j336 sc0 v3 h) else ((f_L_cell sc0 (31 + v4)).bind fun r177 => (f_L_pick r177 13).bind fun r186 => (f_L_pick (r177 >>> (4 &&& 31)) 13).bind fun r197 => (f_L_pick (r177 >>> (8 &&& 31)) 13).bind fun r209 => bd2 (f_X10_value 0 r186 r197 r209 h) fun r222 h222 => bd2 (f_X10_value 1 r186 r197 r209 h222) fun r235 h235 => bd2 (f_X10_value 2 r186 r197 r209 h235) fun r248 h248 => if r248 = (r222 + r235) then (bd2 (f_X10_value 3 r186 r197 r209 h248) fun r268 h268 => if r268 = (r222 * r235) then (bd2 (f_X10_value 4 r186 r197 r209 h268) fun r288 h288 => if r288 = ((-r222) - r235) then (bd2 (f_X10_value 5 r186 r197 r209 h288) fun r309 h309 => if r309 = (r222 * (((r186 + r197) + r209).toInt64)) then (w165 (v4 + 1) h309) else (some (false, h309))) else (some (false, h288))) else (some (false, h268))) else (some (false, h248)))
def f_L_law (sc0 : Nat × (Nat → Int32)) (h : pq_H) : Option (Bool × pq_H) :=
  (f_L_cell sc0 0).bind fun r10 => (f_L_pick r10 4).bind fun r14 => bd2 (f_L_comes sc0 1 r14 h) fun r22 h22 => if r22 = true then (bd2 (f_L_comes sc0 12 r14 h22) fun r33 h33 => if r33 = true then ((f_L_cell sc0 30).bind fun r45 => (f_L_pick r45 7).bind fun r50 => bd2 (f_L_lifts 0 (1 + r50) h33) fun r58 h58 => if r58 = true then (bd2 (f_L_lifts 1 7 h58) fun r68 h68 => if r68 = true then (bd2 (f_L_reads 0 2 h68) fun r77 h77 => if r77 = true then (bd2 (f_L_reads 1 2 h77) fun r86 h86 => if r86 = true then (bd2 (f_L_walls sc0 h86) fun r94 h94 => if r94 = true then (bd2 (f_X10_image h94) fun r103 h103 => if r103 = 2 then (bd2 (f_X10_sum 0 1 h103) fun r113 h113 => if r113 = 2 then (bd2 (f_X10_product 0 1 h113) fun r123 h123 => if r123 = 3 then (bd2 (f_X10_negative 2 h123) fun r132 h132 => if r132 = 4 then (bd2 (f_X10_lift 0 1 h132) fun r142 h142 => if r142 = 5 then (bd2 (f_X10_on 0 (1 + r50) h142) fun r152 h152 => if r152 = (-6) then (lp (fun _ _ => none) (f_L_law_l165 sc0 (1 + r50)) 1000 0 h152) else (some (false, h152))) else (some (false, h142))) else (some (false, h132))) else (some (false, h123))) else (some (false, h113))) else (some (false, h103))) else (some (false, h94))) else (some (false, h86))) else (some (false, h77))) else (some (false, h68))) else (some (false, h58))) else (some (false, h33))) else (some (false, h22))
set_option maxRecDepth 100000 in
set_option maxHeartbeats 4000000 in
theorem c_L_law {X : pq_X} {g : pq_g} (hB : pq_B X cL_law 13 RL) (hK : pq_K X (SC g)) (hR : pq_RL X 8 184) (h : pq_H) {hh : pq_H} (e : f_L_law g.2.2.2.2 h = some (true, hh)) : V X (SC g) (true, hh) 13 8 [(0, .ref g.2.2.2.1), (1, .ref ((SC g).1.2.1 55))] [] h (f_L_law g.2.2.2.2 h) := by
  refine V.cast (F' := f_L_law g.2.2.2.2 h) (res' := (true, hh)) (fun _ => e) ?_
  have hn465 : ∀ (v3 : Int32) (h : pq_H), V X (SC g) (true, hh) 13 465 [(0, .ref g.2.2.2.1), (1, .ref ((SC g).1.2.1 55)), (3, .int v3)] [] h (f_L_law_j465 g.2.2.2.2 v3 h) := by
    intro v3 h
    unfold f_L_law_j465
    refine v_aload_n hB 0 dL_law_465 rfl rfl ?_
    refine v_bipush hB 40 dL_law_466 (by decide) ?_
    refine v_bRi (fun r468 e468 => v_callS hB hK hR.rm [.ref g.2.2.2.1, .int 40] [] lb_L_cell lv_L_27 (c_L_cell g hK.A X.1.2.1 40 h e468) dL_law_468 rfl rfl (Nat.le_of_ble_eq_true rfl) (by decide) (by decide)) (fun r468 => ?_)
    refine v_aload_n hB 1 dL_law_471 rfl rfl ?_
    refine v_iconst hB 0 dL_law_472 (by decide) ?_
    refine v_iconst hB 3 dL_law_473 (by decide) ?_
    refine v_bWi (fun r474 h474 e474 => v_callV hB hK hR.rm [.int 0, .int 3] [.int r468] (oC_55 g) lb_X10_of lv_L_24 (c_X10_of g hK.A X.1.2.1 0 3 h e474) dL_law_474 rfl rfl (Nat.le_of_ble_eq_true rfl) (by decide) (by decide)) (fun r474 h474 => ?_)
    refine v_bRi (fun r477 e477 => v_callS hB hK hR.rm [.int r468, .int r474] [] lb_L_pick lv_L_33 (c_L_pick g hK.A X.1.2.1 r468 r474 h474 e477) dL_law_477 rfl rfl (Nat.le_of_ble_eq_true rfl) (by decide) (by decide)) (fun r477 => ?_)
    refine v_istore hB [(0, .ref g.2.2.2.1), (1, .ref ((SC g).1.2.1 55)), (3, .int v3), (6, .int r477)] [1, 2, 3, 0] dL_law_480 (by decide) rfl ?_
    refine v_aload_n hB 1 dL_law_482 rfl rfl ?_
    refine v_iconst hB 0 dL_law_483 (by decide) ?_
    refine v_iload hB 3 dL_law_484 rfl ?_
    refine v_bWi (fun r486 h486 e486 => v_callV hB hK hR.rm [.int 0, .int r477] [] (oC_55 g) lb_X10_coefficient lv_L_63 (c_X10_coefficient g hK.A X.1.2.1 0 r477 h474 e486) dL_law_486 rfl rfl (Nat.le_of_ble_eq_true rfl) (by decide) (by decide)) (fun r486 h486 => ?_)
    refine v_istore hB [(0, .ref g.2.2.2.1), (1, .ref ((SC g).1.2.1 55)), (3, .int v3), (6, .int r477), (7, .int r486)] [1, 2, 3, 4, 0] dL_law_489 (by decide) rfl ?_
    refine v_aload_n hB 1 dL_law_491 rfl rfl ?_
    refine v_iconst hB 0 dL_law_492 (by decide) ?_
    refine v_iload hB 3 dL_law_493 rfl ?_
    refine v_aload_n hB 0 dL_law_495 rfl rfl ?_
    refine v_bipush hB 41 dL_law_496 (by decide) ?_
    refine v_bRi (fun r498 e498 => v_callS hB hK hR.rm [.ref g.2.2.2.1, .int 41] [.int r477, .int 0, .ref ((SC g).1.2.1 55)] lb_L_cell lv_L_27 (c_L_cell g hK.A X.1.2.1 41 h486 e498) dL_law_498 rfl rfl (Nat.le_of_ble_eq_true rfl) (by decide) (by decide)) (fun r498 => ?_)
    refine v_ldc hB 2000001 k_L_125 dL_law_501 ?_
    refine v_bRi (fun r503 e503 => v_callS hB hK hR.rm [.int r498, .int 2000001] [.int r477, .int 0, .ref ((SC g).1.2.1 55)] lb_L_pick lv_L_33 (c_L_pick g hK.A X.1.2.1 r498 2000001 h486 e503) dL_law_503 rfl rfl (Nat.le_of_ble_eq_true rfl) (by decide) (by decide)) (fun r503 => ?_)
    refine v_ldc hB 1000000 k_L_126 dL_law_506 ?_
    refine v_isub hB dL_law_508 ?_
    refine v_bWi (fun r509 h509 e509 => v_callV hB hK hR.rm [.int 0, .int r477, .int (r503 - 1000000)] [] (oC_55 g) lb_X10_change lv_L_36 (c_X10_change g hK.A X.1.2.1 0 r477 (r503 - 1000000) h486 e509) dL_law_509 rfl rfl (Nat.le_of_ble_eq_true rfl) (by decide) (by decide)) (fun r509 h509 => ?_)
    refine v_ldc hB (-1000000) k_L_127 dL_law_512 ?_
    refine v_icmp_lt (tgt := 576) hB dL_law_514 rfl ?_ ?_
    · refine v_iconst hB 0 dL_law_576 (by decide) ?_
      exact v_retL (x := false) hB hK hR dL_law_577
    · refine v_aload_n hB 1 dL_law_517 rfl rfl ?_
      refine v_iconst hB 0 dL_law_518 (by decide) ?_
      refine v_aload_n hB 0 dL_law_519 rfl rfl ?_
      refine v_bipush hB 42 dL_law_520 (by decide) ?_
      refine v_bRi (fun r522 e522 => v_callS hB hK hR.rm [.ref g.2.2.2.1, .int 42] [.int 0, .ref ((SC g).1.2.1 55)] lb_L_cell lv_L_27 (c_L_cell g hK.A X.1.2.1 42 h509 e522) dL_law_522 rfl rfl (Nat.le_of_ble_eq_true rfl) (by decide) (by decide)) (fun r522 => ?_)
      refine v_bipush hB 6 dL_law_525 (by decide) ?_
      refine v_bRi (fun r527 e527 => v_callS hB hK hR.rm [.int r522, .int 6] [.int 0, .ref ((SC g).1.2.1 55)] lb_L_pick lv_L_33 (c_L_pick g hK.A X.1.2.1 r522 6 h509 e527) dL_law_527 rfl rfl (Nat.le_of_ble_eq_true rfl) (by decide) (by decide)) (fun r527 => ?_)
      refine v_aload_n hB 0 dL_law_530 rfl rfl ?_
      refine v_bipush hB 42 dL_law_531 (by decide) ?_
      refine v_bRi (fun r533 e533 => v_callS hB hK hR.rm [.ref g.2.2.2.1, .int 42] [.int r527, .int 0, .ref ((SC g).1.2.1 55)] lb_L_cell lv_L_27 (c_L_cell g hK.A X.1.2.1 42 h509 e533) dL_law_533 rfl rfl (Nat.le_of_ble_eq_true rfl) (by decide) (by decide)) (fun r533 => ?_)
      refine v_iconst hB 4 dL_law_536 (by decide) ?_
      refine v_ishr hB dL_law_537 ?_
      refine v_bipush hB 10 dL_law_538 (by decide) ?_
      refine v_bRi (fun r540 e540 => v_callS hB hK hR.rm [.int (r533 >>> (4 &&& 31)), .int 10] [.int r527, .int 0, .ref ((SC g).1.2.1 55)] lb_L_pick lv_L_33 (c_L_pick g hK.A X.1.2.1 (r533 >>> (4 &&& 31)) 10 h509 e540) dL_law_540 rfl rfl (Nat.le_of_ble_eq_true rfl) (by decide) (by decide)) (fun r540 => ?_)
      refine v_bWi (fun r543 h543 e543 => v_callV hB hK hR.rm [.int 0, .int r527, .int r540] [] (oC_55 g) lb_X10_turn lv_L_40 (c_X10_turn g hK.A X.1.2.1 0 r527 r540 h509 e543) dL_law_543 rfl rfl (Nat.le_of_ble_eq_true rfl) (by decide) (by decide)) (fun r543 h543 => ?_)
      refine v_if_lt (tgt := 576) hB dL_law_546 rfl ?_ ?_
      · refine v_iconst hB 0 dL_law_576 (by decide) ?_
        exact v_retL (x := false) hB hK hR dL_law_577
      · refine v_aload_n hB 1 dL_law_549 rfl rfl ?_
        refine v_bWi (fun r550 h550 e550 => v_callV hB hK hR.rm [] [] (oC_55 g) lb_X10_undo lv_L_128 (c_X10_undo g hK.A X.1.2.1 h543 e550) dL_law_550 rfl rfl (Nat.le_of_ble_eq_true rfl) (by decide) (by decide)) (fun r550 h550 => ?_)
        refine v_iconst hB 1 dL_law_553 (by decide) ?_
        refine v_icmp_ne (tgt := 576) hB dL_law_554 rfl ?_ ?_
        · refine v_iconst hB 0 dL_law_576 (by decide) ?_
          exact v_retL (x := false) hB hK hR dL_law_577
        · refine v_aload_n hB 1 dL_law_557 rfl rfl ?_
          refine v_bWi (fun r558 h558 e558 => v_callV hB hK hR.rm [] [] (oC_55 g) lb_X10_undo lv_L_128 (c_X10_undo g hK.A X.1.2.1 h550 e558) dL_law_558 rfl rfl (Nat.le_of_ble_eq_true rfl) (by decide) (by decide)) (fun r558 h558 => ?_)
          refine v_if_ne (tgt := 576) hB dL_law_561 rfl ?_ ?_
          · refine v_iconst hB 0 dL_law_576 (by decide) ?_
            exact v_retL (x := false) hB hK hR dL_law_577
          · refine v_aload_n hB 1 dL_law_564 rfl rfl ?_
            refine v_iconst hB 0 dL_law_565 (by decide) ?_
            refine v_iload hB 3 dL_law_566 rfl ?_
            refine v_bWi (fun r568 h568 e568 => v_callV hB hK hR.rm [.int 0, .int r477] [] (oC_55 g) lb_X10_coefficient lv_L_63 (c_X10_coefficient g hK.A X.1.2.1 0 r477 h558 e568) dL_law_568 rfl rfl (Nat.le_of_ble_eq_true rfl) (by decide) (by decide)) (fun r568 h568 => ?_)
            refine v_iload hB 4 dL_law_571 rfl ?_
            refine v_icmp_eq (tgt := 578) hB dL_law_573 rfl ?_ ?_
            · refine v_aload_n hB 1 dL_law_578 rfl rfl ?_
              refine v_bWi (fun r579 h579 e579 => v_callV hB hK hR.rm [] [] (oC_55 g) lb_X10_back lv_L_131 (c_X10_back g hK.A X.1.2.1 h568 e579) dL_law_579 rfl rfl (Nat.le_of_ble_eq_true rfl) (by decide) (by decide)) (fun r579 h579 => ?_)
              refine v_iconst hB 2 dL_law_582 (by decide) ?_
              refine v_icmp_ne (tgt := 629) hB dL_law_583 rfl ?_ ?_
              · refine v_iconst hB 0 dL_law_629 (by decide) ?_
                exact v_retL (x := false) hB hK hR dL_law_630
              · refine v_aload_n hB 1 dL_law_586 rfl rfl ?_
                refine v_iconst hB 0 dL_law_587 (by decide) ?_
                refine v_bRi (fun r588 e588 => v_callV hB hK hR.rm [.int 0] [] (oC_55 g) lb_X10_count lv_L_134 (c_X10_count g hK.A X.1.2.1 0 h579 e588) dL_law_588 rfl rfl (Nat.le_of_ble_eq_true rfl) (by decide) (by decide)) (fun r588 => ?_)
                refine v_iconst hB 2 dL_law_591 (by decide) ?_
                refine v_icmp_ne (tgt := 629) hB dL_law_592 rfl ?_ ?_
                · refine v_iconst hB 0 dL_law_629 (by decide) ?_
                  exact v_retL (x := false) hB hK hR dL_law_630
                · refine v_aload_n hB 1 dL_law_595 rfl rfl ?_
                  refine v_iconst hB 0 dL_law_596 (by decide) ?_
                  refine v_iload hB 3 dL_law_597 rfl ?_
                  refine v_bWi (fun r599 h599 e599 => v_callV hB hK hR.rm [.int 0, .int r477] [] (oC_55 g) lb_X10_coefficient lv_L_63 (c_X10_coefficient g hK.A X.1.2.1 0 r477 h579 e599) dL_law_599 rfl rfl (Nat.le_of_ble_eq_true rfl) (by decide) (by decide)) (fun r599 h599 => ?_)
                  refine v_iload hB 4 dL_law_602 rfl ?_
                  refine v_icmp_ne (tgt := 629) hB dL_law_604 rfl ?_ ?_
                  · refine v_iconst hB 0 dL_law_629 (by decide) ?_
                    exact v_retL (x := false) hB hK hR dL_law_630
                  · refine v_aload_n hB 1 dL_law_607 rfl rfl ?_
                    refine v_bWi (fun r608 h608 e608 => v_callV hB hK hR.rm [] [] (oC_55 g) lb_X10_undo lv_L_128 (c_X10_undo g hK.A X.1.2.1 h599 e608) dL_law_608 rfl rfl (Nat.le_of_ble_eq_true rfl) (by decide) (by decide)) (fun r608 h608 => ?_)
                    refine v_bipush hB (-3) dL_law_611 (by decide) ?_
                    refine v_icmp_ne (tgt := 629) hB dL_law_613 rfl ?_ ?_
                    · refine v_iconst hB 0 dL_law_629 (by decide) ?_
                      exact v_retL (x := false) hB hK hR dL_law_630
                    · refine v_aload_n hB 1 dL_law_616 rfl rfl ?_
                      refine v_iconst hB 0 dL_law_617 (by decide) ?_
                      refine v_iload_n hB 2 dL_law_618 rfl rfl ?_
                      refine v_bWz (fun r619 h619 e619 => v_callS hB hK hR.rm [.ref ((SC g).1.2.1 55), .int 0, .int v3] [] lb_L_lifts lv_L_91 (c_L_lifts g hK.A X.1.2.1 0 v3 h608 e619) dL_law_619 rfl rfl (Nat.le_of_ble_eq_true rfl) (by decide) (by decide)) (fun r619 h619 => ?_)
                      refine v_ifz_eq (r := r619) (tgt := 629) hB dL_law_622 rfl ?_ ?_
                      · refine v_iconst hB 0 dL_law_629 (by decide) ?_
                        exact v_retL (x := false) hB hK hR dL_law_630
                      · refine v_iconst hB 1 dL_law_625 (by decide) ?_
                        refine v_goto (tgt := 630) hB dL_law_626 rfl ?_
                        exact v_retL (x := true) hB hK hR dL_law_630
            · refine v_iconst hB 0 dL_law_576 (by decide) ?_
              exact v_retL (x := false) hB hK hR dL_law_577
  have hn396 : ∀ (v3 : Int32) (n : Nat), ∀ (v6 : Int32) (h : pq_H), V X (SC g) (true, hh) 13 396 [(0, .ref g.2.2.2.1), (1, .ref ((SC g).1.2.1 55)), (3, .int v3), (6, .int v6)] [] h (lp (fun _ _ => none) (f_L_law_l396 g.2.2.2.2 v3) n v6 h) := by
    intro v3
    refine lp_ind (fun (w396 : Int32 → pq_H → Option (Bool × pq_H)) => ∀ (v6 : Int32) (h : pq_H), V X (SC g) (true, hh) 13 396 [(0, .ref g.2.2.2.1), (1, .ref ((SC g).1.2.1 55)), (3, .int v3), (6, .int v6)] [] h (w396 v6 h)) (fun _ _ => V.none _ _ _ _) (fun w396 ih396 => ?_)
    have hn459 : ∀ (v6 : Int32) (h : pq_H), V X (SC g) (true, hh) 13 459 [(0, .ref g.2.2.2.1), (1, .ref ((SC g).1.2.1 55)), (3, .int v3), (6, .int v6)] [] h (f_L_law_j459 w396 v6 h) := by
      intro v6 h
      unfold f_L_law_j459
      refine v_iinc hB (v6 + 1) [(0, .ref g.2.2.2.1), (1, .ref ((SC g).1.2.1 55)), (3, .int v3), (6, .int (v6 + 1))] 3 [1, 2, 3, 0] dL_law_459 rfl rfl (by decide) rfl ?_
      refine v_goto (tgt := 396) hB dL_law_462 rfl ?_
      exact V.sub [0, 1, 2, 3] rfl (ih396 (v6 + 1) h)
    have hn405 : ∀ (v6 : Int32) (n : Nat), ∀ (v7 : Int32) (h : pq_H), V X (SC g) (true, hh) 13 405 [(0, .ref g.2.2.2.1), (1, .ref ((SC g).1.2.1 55)), (3, .int v3), (6, .int v6), (7, .int v7)] [] h (lp (fun _ _ => none) (f_L_law_l405 w396 v6) n v7 h) := by
      intro v6
      refine lp_ind (fun (w405 : Int32 → pq_H → Option (Bool × pq_H)) => ∀ (v7 : Int32) (h : pq_H), V X (SC g) (true, hh) 13 405 [(0, .ref g.2.2.2.1), (1, .ref ((SC g).1.2.1 55)), (3, .int v3), (6, .int v6), (7, .int v7)] [] h (w405 v7 h)) (fun _ _ => V.none _ _ _ _) (fun w405 ih405 => ?_)
      have hn453 : ∀ (v7 : Int32) (h : pq_H), V X (SC g) (true, hh) 13 453 [(0, .ref g.2.2.2.1), (1, .ref ((SC g).1.2.1 55)), (3, .int v3), (6, .int v6), (7, .int v7)] [] h (f_L_law_j453 w396 w405 v7 h) := by
        intro v7 h
        unfold f_L_law_j453
        refine v_iinc hB (v7 + 1) [(0, .ref g.2.2.2.1), (1, .ref ((SC g).1.2.1 55)), (3, .int v3), (6, .int v6), (7, .int (v7 + 1))] 4 [1, 2, 3, 4, 0] dL_law_453 rfl rfl (by decide) rfl ?_
        refine v_goto (tgt := 405) hB dL_law_456 rfl ?_
        exact V.sub [0, 1, 2, 3, 4] rfl (ih405 (v7 + 1) h)
      intro v7 h
      unfold f_L_law_l405
      refine v_iload hB 4 dL_law_405 rfl ?_
      refine v_bipush hB 6 dL_law_407 (by decide) ?_
      refine v_icmp_ge (tgt := 459) hB dL_law_409 rfl ?_ ?_
      · exact V.sub [0, 1, 2, 3] rfl (hn459 v6 h)
      · refine v_iload hB 4 dL_law_412 rfl ?_
        refine v_aload_n hB 1 dL_law_414 rfl rfl ?_
        refine v_iconst hB 5 dL_law_415 (by decide) ?_
        refine v_iconst hB 3 dL_law_416 (by decide) ?_
        refine v_bWi (fun r417 h417 e417 => v_callV hB hK hR.rm [.int 5, .int 3] [.int v7] (oC_55 g) lb_X10_of lv_L_24 (c_X10_of g hK.A X.1.2.1 5 3 h e417) dL_law_417 rfl rfl (Nat.le_of_ble_eq_true rfl) (by decide) (by decide)) (fun r417 h417 => ?_)
        refine v_icmp_ge (tgt := 453) hB dL_law_420 rfl ?_ ?_
        · exact V.sub [0, 1, 2, 3, 4] rfl (hn453 v7 h417)
        · refine v_aload_n hB 1 dL_law_423 rfl rfl ?_
          refine v_iconst hB 0 dL_law_424 (by decide) ?_
          refine v_bipush hB 7 dL_law_425 (by decide) ?_
          refine v_iload hB 3 dL_law_427 rfl ?_
          refine v_iconst hB 1 dL_law_429 (by decide) ?_
          refine v_iadd hB dL_law_430 ?_
          refine v_iload hB 4 dL_law_431 rfl ?_
          refine v_bWj (fun r433 h433 e433 => v_callV hB hK hR.rm [.int 0, .int 7, .int (v6 + 1), .int v7] [] (oC_55 g) lb_X10_lifted lv_L_122 (c_X10_lifted g hK.A X.1.2.1 0 7 (v6 + 1) v7 h417 e433) dL_law_433 rfl rfl (Nat.le_of_ble_eq_true rfl) (by decide) (by decide)) (fun r433 h433 => ?_)
          refine v_aload_n hB 1 dL_law_436 rfl rfl ?_
          refine v_iconst hB 5 dL_law_437 (by decide) ?_
          refine v_bipush hB 7 dL_law_438 (by decide) ?_
          refine v_iload hB 3 dL_law_440 rfl ?_
          refine v_iload hB 4 dL_law_442 rfl ?_
          refine v_bWj (fun r444 h444 e444 => v_callV hB hK hR.rm [.int 5, .int 7, .int v6, .int v7] [.long r433] (oC_55 g) lb_X10_lifted lv_L_122 (c_X10_lifted g hK.A X.1.2.1 5 7 v6 v7 h433 e444) dL_law_444 rfl rfl (Nat.le_of_ble_eq_true rfl) (by decide) (by decide)) (fun r444 h444 => ?_)
          refine v_lcmp_eq (tgt := 453) hB dL_law_447 dL_law_448 rfl ?_ ?_
          · exact V.sub [0, 1, 2, 3, 4] rfl (hn453 v7 h444)
          · refine v_iconst hB 0 dL_law_451 (by decide) ?_
            exact v_retL (x := false) hB hK hR dL_law_452
    intro v6 h
    unfold f_L_law_l396
    refine v_iload hB 3 dL_law_396 rfl ?_
    refine v_iconst hB 4 dL_law_398 (by decide) ?_
    refine v_icmp_ge (tgt := 465) hB dL_law_399 rfl ?_ ?_
    · exact V.sub [0, 1, 2] rfl (hn465 v3 h)
    · refine v_iconst hB 0 dL_law_402 (by decide) ?_
      refine v_istore hB [(0, .ref g.2.2.2.1), (1, .ref ((SC g).1.2.1 55)), (3, .int v3), (6, .int v6), (7, .int 0)] [1, 2, 3, 4, 0] dL_law_403 (by decide) rfl ?_
      exact V.sub [0, 1, 2, 3, 4] rfl (hn405 v6 1000 0 h)
  have hn393 : ∀ (v3 : Int32) (h : pq_H), V X (SC g) (true, hh) 13 393 [(0, .ref g.2.2.2.1), (1, .ref ((SC g).1.2.1 55)), (3, .int v3)] [] h (f_L_law_j393 g.2.2.2.2 v3 h) := by
    intro v3 h
    unfold f_L_law_j393
    refine v_iconst hB 0 dL_law_393 (by decide) ?_
    refine v_istore hB [(0, .ref g.2.2.2.1), (1, .ref ((SC g).1.2.1 55)), (3, .int v3), (6, .int 0)] [1, 2, 3, 0] dL_law_394 (by decide) rfl ?_
    exact V.sub [0, 1, 2, 3] rfl (hn396 v3 1000 0 h)
  have hn374 : ∀ (v3 : Int32) (v4 : Int32) (v5 : Int32) (h : pq_H), V X (SC g) (true, hh) 13 374 [(0, .ref g.2.2.2.1), (1, .ref ((SC g).1.2.1 55)), (3, .int v3), (4, .int v4), (5, .int v5)] [] h (f_L_law_j374 g.2.2.2.2 v3 v4 v5 h) := by
    intro v3 v4 v5 h
    unfold f_L_law_j374
    refine v_iload hB 3 dL_law_374 rfl ?_
    refine v_if_ge (tgt := 393) hB dL_law_376 rfl ?_ ?_
    · exact V.sub [0, 1, 2] rfl (hn393 v3 h)
    · refine v_iload hB 4 dL_law_379 rfl ?_
      refine v_if_lt (tgt := 393) hB dL_law_381 rfl ?_ ?_
      · exact V.sub [0, 1, 2] rfl (hn393 v3 h)
      · refine v_iload hB 4 dL_law_384 rfl ?_
        refine v_bipush hB 12 dL_law_386 (by decide) ?_
        refine v_icmp_eq (tgt := 393) hB dL_law_388 rfl ?_ ?_
        · exact V.sub [0, 1, 2] rfl (hn393 v3 h)
        · refine v_iconst hB 0 dL_law_391 (by decide) ?_
          exact v_retL (x := false) hB hK hR dL_law_392
  have hn336 : ∀ (v3 : Int32) (h : pq_H), V X (SC g) (true, hh) 13 336 [(0, .ref g.2.2.2.1), (1, .ref ((SC g).1.2.1 55)), (3, .int v3)] [] h (f_L_law_j336 g.2.2.2.2 v3 h) := by
    intro v3 h
    unfold f_L_law_j336
    refine v_aload_n hB 1 dL_law_336 rfl rfl ?_
    refine v_iconst hB 0 dL_law_337 (by decide) ?_
    refine v_bipush hB 7 dL_law_338 (by decide) ?_
    refine v_iconst hB 0 dL_law_340 (by decide) ?_
    refine v_bWi (fun r341 h341 e341 => v_callV hB hK hR.rm [.int 0, .int 7, .int 0] [] (oC_55 g) lb_X10_least lv_L_43 (c_X10_least g hK.A X.1.2.1 0 7 0 h e341) dL_law_341 rfl rfl (Nat.le_of_ble_eq_true rfl) (by decide) (by decide)) (fun r341 h341 => ?_)
    refine v_istore hB [(0, .ref g.2.2.2.1), (1, .ref ((SC g).1.2.1 55)), (3, .int v3), (4, .int r341)] [1, 2, 3, 0] dL_law_344 (by decide) rfl ?_
    refine v_aload_n hB 1 dL_law_346 rfl rfl ?_
    refine v_iconst hB 5 dL_law_347 (by decide) ?_
    refine v_bipush hB 7 dL_law_348 (by decide) ?_
    refine v_iconst hB 0 dL_law_350 (by decide) ?_
    refine v_bWi (fun r351 h351 e351 => v_callV hB hK hR.rm [.int 5, .int 7, .int 0] [] (oC_55 g) lb_X10_least lv_L_43 (c_X10_least g hK.A X.1.2.1 5 7 0 h341 e351) dL_law_351 rfl rfl (Nat.le_of_ble_eq_true rfl) (by decide) (by decide)) (fun r351 h351 => ?_)
    refine v_istore hB [(0, .ref g.2.2.2.1), (1, .ref ((SC g).1.2.1 55)), (3, .int v3), (4, .int r341), (5, .int r351)] [1, 2, 3, 4, 0] dL_law_354 (by decide) rfl ?_
    refine v_iload hB 3 dL_law_356 rfl ?_
    refine v_if_lt (tgt := 374) hB dL_law_358 rfl ?_ ?_
    · exact V.sub [0, 1, 2, 3, 4] rfl (hn374 v3 r341 r351 h351)
    · refine v_iload hB 4 dL_law_361 rfl ?_
      refine v_iconst hB 0 dL_law_363 (by decide) ?_
      refine v_iload hB 3 dL_law_364 rfl ?_
      refine v_iconst hB 1 dL_law_366 (by decide) ?_
      refine v_isub hB dL_law_367 ?_
      refine v_mmax hB hR.rm lk_L_14 (by decide) (Nat.le_of_ble_eq_true rfl) dL_law_368 ?_
      refine v_icmp_ne (tgt := 391) hB dL_law_371 rfl ?_ ?_
      · refine v_iconst hB 0 dL_law_391 (by decide) ?_
        exact v_retL (x := false) hB hK hR dL_law_392
      · exact V.sub [0, 1, 2, 3, 4] rfl (hn374 v3 r341 r351 h351)
  have hn165 : ∀ (v3 : Int32) (n : Nat), ∀ (v4 : Int32) (h : pq_H), V X (SC g) (true, hh) 13 165 [(0, .ref g.2.2.2.1), (1, .ref ((SC g).1.2.1 55)), (3, .int v3), (4, .int v4)] [] h (lp (fun _ _ => none) (f_L_law_l165 g.2.2.2.2 v3) n v4 h) := by
    intro v3
    refine lp_ind (fun (w165 : Int32 → pq_H → Option (Bool × pq_H)) => ∀ (v4 : Int32) (h : pq_H), V X (SC g) (true, hh) 13 165 [(0, .ref g.2.2.2.1), (1, .ref ((SC g).1.2.1 55)), (3, .int v3), (4, .int v4)] [] h (w165 v4 h)) (fun _ _ => V.none _ _ _ _) (fun w165 ih165 => ?_)
    intro v4 h
    unfold f_L_law_l165
    refine v_iload hB 3 dL_law_165 rfl ?_
    refine v_iconst hB 5 dL_law_167 (by decide) ?_
    refine v_icmp_ge (tgt := 336) hB dL_law_168 rfl ?_ ?_
    · exact V.sub [0, 1, 2] rfl (hn336 v3 h)
    · refine v_aload_n hB 0 dL_law_171 rfl rfl ?_
      refine v_bipush hB 31 dL_law_172 (by decide) ?_
      refine v_iload hB 3 dL_law_174 rfl ?_
      refine v_iadd hB dL_law_176 ?_
      refine v_bRi (fun r177 e177 => v_callS hB hK hR.rm [.ref g.2.2.2.1, .int (31 + v4)] [] lb_L_cell lv_L_27 (c_L_cell g hK.A X.1.2.1 (31 + v4) h e177) dL_law_177 rfl rfl (Nat.le_of_ble_eq_true rfl) (by decide) (by decide)) (fun r177 => ?_)
      refine v_istore hB [(0, .ref g.2.2.2.1), (1, .ref ((SC g).1.2.1 55)), (3, .int v3), (4, .int v4), (5, .int r177)] [1, 2, 3, 4, 0] dL_law_180 (by decide) rfl ?_
      refine v_iload hB 4 dL_law_182 rfl ?_
      refine v_bipush hB 13 dL_law_184 (by decide) ?_
      refine v_bRi (fun r186 e186 => v_callS hB hK hR.rm [.int r177, .int 13] [] lb_L_pick lv_L_33 (c_L_pick g hK.A X.1.2.1 r177 13 h e186) dL_law_186 rfl rfl (Nat.le_of_ble_eq_true rfl) (by decide) (by decide)) (fun r186 => ?_)
      refine v_istore hB [(0, .ref g.2.2.2.1), (1, .ref ((SC g).1.2.1 55)), (3, .int v3), (4, .int v4), (5, .int r177), (6, .int r186)] [1, 2, 3, 4, 5, 0] dL_law_189 (by decide) rfl ?_
      refine v_iload hB 4 dL_law_191 rfl ?_
      refine v_iconst hB 4 dL_law_193 (by decide) ?_
      refine v_ishr hB dL_law_194 ?_
      refine v_bipush hB 13 dL_law_195 (by decide) ?_
      refine v_bRi (fun r197 e197 => v_callS hB hK hR.rm [.int (r177 >>> (4 &&& 31)), .int 13] [] lb_L_pick lv_L_33 (c_L_pick g hK.A X.1.2.1 (r177 >>> (4 &&& 31)) 13 h e197) dL_law_197 rfl rfl (Nat.le_of_ble_eq_true rfl) (by decide) (by decide)) (fun r197 => ?_)
      refine v_istore hB [(0, .ref g.2.2.2.1), (1, .ref ((SC g).1.2.1 55)), (3, .int v3), (4, .int v4), (5, .int r177), (6, .int r186), (7, .int r197)] [1, 2, 3, 4, 5, 6, 0] dL_law_200 (by decide) rfl ?_
      refine v_iload hB 4 dL_law_202 rfl ?_
      refine v_bipush hB 8 dL_law_204 (by decide) ?_
      refine v_ishr hB dL_law_206 ?_
      refine v_bipush hB 13 dL_law_207 (by decide) ?_
      refine v_bRi (fun r209 e209 => v_callS hB hK hR.rm [.int (r177 >>> (8 &&& 31)), .int 13] [] lb_L_pick lv_L_33 (c_L_pick g hK.A X.1.2.1 (r177 >>> (8 &&& 31)) 13 h e209) dL_law_209 rfl rfl (Nat.le_of_ble_eq_true rfl) (by decide) (by decide)) (fun r209 => ?_)
      refine v_istore hB [(0, .ref g.2.2.2.1), (1, .ref ((SC g).1.2.1 55)), (3, .int v3), (4, .int v4), (5, .int r177), (6, .int r186), (7, .int r197), (8, .int r209)] [1, 2, 3, 4, 5, 6, 7, 0] dL_law_212 (by decide) rfl ?_
      refine v_aload_n hB 1 dL_law_214 rfl rfl ?_
      refine v_iconst hB 0 dL_law_215 (by decide) ?_
      refine v_iload hB 5 dL_law_216 rfl ?_
      refine v_iload hB 6 dL_law_218 rfl ?_
      refine v_iload hB 7 dL_law_220 rfl ?_
      refine v_bWj (fun r222 h222 e222 => v_callV hB hK hR.rm [.int 0, .int r186, .int r197, .int r209] [] (oC_55 g) lb_X10_value lv_L_119 (c_X10_value g hK.A X.1.2.1 0 r186 r197 r209 h e222) dL_law_222 rfl rfl (Nat.le_of_ble_eq_true rfl) (by decide) (by decide)) (fun r222 h222 => ?_)
      refine v_lstore hB [(0, .ref g.2.2.2.1), (1, .ref ((SC g).1.2.1 55)), (3, .int v3), (4, .int v4), (5, .int r177), (6, .int r186), (7, .int r197), (8, .int r209), (9, .long r222)] [1, 2, 3, 4, 5, 6, 7, 8, 0] dL_law_225 (by decide) rfl ?_
      refine v_aload_n hB 1 dL_law_227 rfl rfl ?_
      refine v_iconst hB 1 dL_law_228 (by decide) ?_
      refine v_iload hB 5 dL_law_229 rfl ?_
      refine v_iload hB 6 dL_law_231 rfl ?_
      refine v_iload hB 7 dL_law_233 rfl ?_
      refine v_bWj (fun r235 h235 e235 => v_callV hB hK hR.rm [.int 1, .int r186, .int r197, .int r209] [] (oC_55 g) lb_X10_value lv_L_119 (c_X10_value g hK.A X.1.2.1 1 r186 r197 r209 h222 e235) dL_law_235 rfl rfl (Nat.le_of_ble_eq_true rfl) (by decide) (by decide)) (fun r235 h235 => ?_)
      refine v_lstore hB [(0, .ref g.2.2.2.1), (1, .ref ((SC g).1.2.1 55)), (3, .int v3), (4, .int v4), (5, .int r177), (6, .int r186), (7, .int r197), (8, .int r209), (9, .long r222), (11, .long r235)] [1, 2, 3, 4, 5, 6, 7, 8, 9, 0] dL_law_238 (by decide) rfl ?_
      refine v_aload_n hB 1 dL_law_240 rfl rfl ?_
      refine v_iconst hB 2 dL_law_241 (by decide) ?_
      refine v_iload hB 5 dL_law_242 rfl ?_
      refine v_iload hB 6 dL_law_244 rfl ?_
      refine v_iload hB 7 dL_law_246 rfl ?_
      refine v_bWj (fun r248 h248 e248 => v_callV hB hK hR.rm [.int 2, .int r186, .int r197, .int r209] [] (oC_55 g) lb_X10_value lv_L_119 (c_X10_value g hK.A X.1.2.1 2 r186 r197 r209 h235 e248) dL_law_248 rfl rfl (Nat.le_of_ble_eq_true rfl) (by decide) (by decide)) (fun r248 h248 => ?_)
      refine v_lload hB 8 dL_law_251 rfl ?_
      refine v_lload hB 9 dL_law_253 rfl ?_
      refine v_ladd hB dL_law_255 ?_
      refine v_lcmp_ne (tgt := 328) hB dL_law_256 dL_law_257 rfl ?_ ?_
      · refine v_iconst hB 0 dL_law_328 (by decide) ?_
        exact v_retL (x := false) hB hK hR dL_law_329
      · refine v_aload_n hB 1 dL_law_260 rfl rfl ?_
        refine v_iconst hB 3 dL_law_261 (by decide) ?_
        refine v_iload hB 5 dL_law_262 rfl ?_
        refine v_iload hB 6 dL_law_264 rfl ?_
        refine v_iload hB 7 dL_law_266 rfl ?_
        refine v_bWj (fun r268 h268 e268 => v_callV hB hK hR.rm [.int 3, .int r186, .int r197, .int r209] [] (oC_55 g) lb_X10_value lv_L_119 (c_X10_value g hK.A X.1.2.1 3 r186 r197 r209 h248 e268) dL_law_268 rfl rfl (Nat.le_of_ble_eq_true rfl) (by decide) (by decide)) (fun r268 h268 => ?_)
        refine v_lload hB 8 dL_law_271 rfl ?_
        refine v_lload hB 9 dL_law_273 rfl ?_
        refine v_lmul hB dL_law_275 ?_
        refine v_lcmp_ne (tgt := 328) hB dL_law_276 dL_law_277 rfl ?_ ?_
        · refine v_iconst hB 0 dL_law_328 (by decide) ?_
          exact v_retL (x := false) hB hK hR dL_law_329
        · refine v_aload_n hB 1 dL_law_280 rfl rfl ?_
          refine v_iconst hB 4 dL_law_281 (by decide) ?_
          refine v_iload hB 5 dL_law_282 rfl ?_
          refine v_iload hB 6 dL_law_284 rfl ?_
          refine v_iload hB 7 dL_law_286 rfl ?_
          refine v_bWj (fun r288 h288 e288 => v_callV hB hK hR.rm [.int 4, .int r186, .int r197, .int r209] [] (oC_55 g) lb_X10_value lv_L_119 (c_X10_value g hK.A X.1.2.1 4 r186 r197 r209 h268 e288) dL_law_288 rfl rfl (Nat.le_of_ble_eq_true rfl) (by decide) (by decide)) (fun r288 h288 => ?_)
          refine v_lload hB 8 dL_law_291 rfl ?_
          refine v_lneg hB dL_law_293 ?_
          refine v_lload hB 9 dL_law_294 rfl ?_
          refine v_lsub hB dL_law_296 ?_
          refine v_lcmp_ne (tgt := 328) hB dL_law_297 dL_law_298 rfl ?_ ?_
          · refine v_iconst hB 0 dL_law_328 (by decide) ?_
            exact v_retL (x := false) hB hK hR dL_law_329
          · refine v_aload_n hB 1 dL_law_301 rfl rfl ?_
            refine v_iconst hB 5 dL_law_302 (by decide) ?_
            refine v_iload hB 5 dL_law_303 rfl ?_
            refine v_iload hB 6 dL_law_305 rfl ?_
            refine v_iload hB 7 dL_law_307 rfl ?_
            refine v_bWj (fun r309 h309 e309 => v_callV hB hK hR.rm [.int 5, .int r186, .int r197, .int r209] [] (oC_55 g) lb_X10_value lv_L_119 (c_X10_value g hK.A X.1.2.1 5 r186 r197 r209 h288 e309) dL_law_309 rfl rfl (Nat.le_of_ble_eq_true rfl) (by decide) (by decide)) (fun r309 h309 => ?_)
            refine v_lload hB 8 dL_law_312 rfl ?_
            refine v_iload hB 5 dL_law_314 rfl ?_
            refine v_iload hB 6 dL_law_316 rfl ?_
            refine v_iadd hB dL_law_318 ?_
            refine v_iload hB 7 dL_law_319 rfl ?_
            refine v_iadd hB dL_law_321 ?_
            refine v_i2l hB dL_law_322 ?_
            refine v_lmul hB dL_law_323 ?_
            refine v_lcmp_eq (tgt := 330) hB dL_law_324 dL_law_325 rfl ?_ ?_
            · refine v_iinc hB (v4 + 1) [(0, .ref g.2.2.2.1), (1, .ref ((SC g).1.2.1 55)), (3, .int v3), (4, .int (v4 + 1)), (5, .int r177), (6, .int r186), (7, .int r197), (8, .int r209), (9, .long r222), (11, .long r235)] 3 [1, 2, 3, 0, 4, 5, 6, 7, 8, 9] dL_law_330 rfl rfl (by decide) rfl ?_
              refine v_goto (tgt := 165) hB dL_law_333 rfl ?_
              exact V.sub [0, 1, 2, 3] rfl (ih165 (v4 + 1) h309)
            · refine v_iconst hB 0 dL_law_328 (by decide) ?_
              exact v_retL (x := false) hB hK hR dL_law_329
  unfold f_L_law
  refine v_aload_n hB 0 dL_law_8 rfl rfl ?_
  refine v_iconst hB 0 dL_law_9 (by decide) ?_
  refine v_bRi (fun r10 e10 => v_callS hB hK hR.rm [.ref g.2.2.2.1, .int 0] [] lb_L_cell lv_L_27 (c_L_cell g hK.A X.1.2.1 0 h e10) dL_law_10 rfl rfl (Nat.le_of_ble_eq_true rfl) (by decide) (by decide)) (fun r10 => ?_)
  refine v_iconst hB 4 dL_law_13 (by decide) ?_
  refine v_bRi (fun r14 e14 => v_callS hB hK hR.rm [.int r10, .int 4] [] lb_L_pick lv_L_33 (c_L_pick g hK.A X.1.2.1 r10 4 h e14) dL_law_14 rfl rfl (Nat.le_of_ble_eq_true rfl) (by decide) (by decide)) (fun r14 => ?_)
  refine v_istore_n hB [(0, .ref g.2.2.2.1), (1, .ref ((SC g).1.2.1 55)), (2, .int r14)] [1, 2, 0] dL_law_17 rfl (by decide) rfl ?_
  refine v_aload_n hB 1 dL_law_18 rfl rfl ?_
  refine v_aload_n hB 0 dL_law_19 rfl rfl ?_
  refine v_iconst hB 1 dL_law_20 (by decide) ?_
  refine v_iload_n hB 2 dL_law_21 rfl rfl ?_
  refine v_bWz (fun r22 h22 e22 => v_callS hB hK hR.rm [.ref ((SC g).1.2.1 55), .ref g.2.2.2.1, .int 1, .int r14] [] lb_L_comes lv_L_87 (c_L_comes g hK.A X.1.2.1 1 r14 h e22) dL_law_22 rfl rfl (Nat.le_of_ble_eq_true rfl) (by decide) (by decide)) (fun r22 h22 => ?_)
  refine v_ifz_eq (r := r22) (tgt := 39) hB dL_law_25 rfl ?_ ?_
  · refine v_iconst hB 0 dL_law_39 (by decide) ?_
    exact v_retL (x := false) hB hK hR dL_law_40
  · refine v_aload_n hB 1 dL_law_28 rfl rfl ?_
    refine v_aload_n hB 0 dL_law_29 rfl rfl ?_
    refine v_bipush hB 12 dL_law_30 (by decide) ?_
    refine v_iload_n hB 2 dL_law_32 rfl rfl ?_
    refine v_bWz (fun r33 h33 e33 => v_callS hB hK hR.rm [.ref ((SC g).1.2.1 55), .ref g.2.2.2.1, .int 12, .int r14] [] lb_L_comes lv_L_87 (c_L_comes g hK.A X.1.2.1 12 r14 h22 e33) dL_law_33 rfl rfl (Nat.le_of_ble_eq_true rfl) (by decide) (by decide)) (fun r33 h33 => ?_)
    refine v_ifz_ne (r := r33) (tgt := 41) hB dL_law_36 rfl ?_ ?_
    · refine v_iconst hB 1 dL_law_41 (by decide) ?_
      refine v_aload_n hB 0 dL_law_42 rfl rfl ?_
      refine v_bipush hB 30 dL_law_43 (by decide) ?_
      refine v_bRi (fun r45 e45 => v_callS hB hK hR.rm [.ref g.2.2.2.1, .int 30] [.int 1] lb_L_cell lv_L_27 (c_L_cell g hK.A X.1.2.1 30 h33 e45) dL_law_45 rfl rfl (Nat.le_of_ble_eq_true rfl) (by decide) (by decide)) (fun r45 => ?_)
      refine v_bipush hB 7 dL_law_48 (by decide) ?_
      refine v_bRi (fun r50 e50 => v_callS hB hK hR.rm [.int r45, .int 7] [.int 1] lb_L_pick lv_L_33 (c_L_pick g hK.A X.1.2.1 r45 7 h33 e50) dL_law_50 rfl rfl (Nat.le_of_ble_eq_true rfl) (by decide) (by decide)) (fun r50 => ?_)
      refine v_iadd hB dL_law_53 ?_
      refine v_istore_n hB [(0, .ref g.2.2.2.1), (1, .ref ((SC g).1.2.1 55)), (2, .int r14), (3, .int (1 + r50))] [1, 2, 3, 0] dL_law_54 rfl (by decide) rfl ?_
      refine v_aload_n hB 1 dL_law_55 rfl rfl ?_
      refine v_iconst hB 0 dL_law_56 (by decide) ?_
      refine v_iload_n hB 3 dL_law_57 rfl rfl ?_
      refine v_bWz (fun r58 h58 e58 => v_callS hB hK hR.rm [.ref ((SC g).1.2.1 55), .int 0, .int (1 + r50)] [] lb_L_lifts lv_L_91 (c_L_lifts g hK.A X.1.2.1 0 (1 + r50) h33 e58) dL_law_58 rfl rfl (Nat.le_of_ble_eq_true rfl) (by decide) (by decide)) (fun r58 h58 => ?_)
      refine v_ifz_eq (r := r58) (tgt := 100) hB dL_law_61 rfl ?_ ?_
      · refine v_iconst hB 0 dL_law_100 (by decide) ?_
        exact v_retL (x := false) hB hK hR dL_law_101
      · refine v_aload_n hB 1 dL_law_64 rfl rfl ?_
        refine v_iconst hB 1 dL_law_65 (by decide) ?_
        refine v_bipush hB 7 dL_law_66 (by decide) ?_
        refine v_bWz (fun r68 h68 e68 => v_callS hB hK hR.rm [.ref ((SC g).1.2.1 55), .int 1, .int 7] [] lb_L_lifts lv_L_91 (c_L_lifts g hK.A X.1.2.1 1 7 h58 e68) dL_law_68 rfl rfl (Nat.le_of_ble_eq_true rfl) (by decide) (by decide)) (fun r68 h68 => ?_)
        refine v_ifz_eq (r := r68) (tgt := 100) hB dL_law_71 rfl ?_ ?_
        · refine v_iconst hB 0 dL_law_100 (by decide) ?_
          exact v_retL (x := false) hB hK hR dL_law_101
        · refine v_aload_n hB 1 dL_law_74 rfl rfl ?_
          refine v_iconst hB 0 dL_law_75 (by decide) ?_
          refine v_iconst hB 2 dL_law_76 (by decide) ?_
          refine v_bWz (fun r77 h77 e77 => v_callS hB hK hR.rm [.ref ((SC g).1.2.1 55), .int 0, .int 2] [] lb_L_reads lv_L_95 (c_L_reads g hK.A X.1.2.1 0 2 h68 e77) dL_law_77 rfl rfl (Nat.le_of_ble_eq_true rfl) (by decide) (by decide)) (fun r77 h77 => ?_)
          refine v_ifz_eq (r := r77) (tgt := 100) hB dL_law_80 rfl ?_ ?_
          · refine v_iconst hB 0 dL_law_100 (by decide) ?_
            exact v_retL (x := false) hB hK hR dL_law_101
          · refine v_aload_n hB 1 dL_law_83 rfl rfl ?_
            refine v_iconst hB 1 dL_law_84 (by decide) ?_
            refine v_iconst hB 2 dL_law_85 (by decide) ?_
            refine v_bWz (fun r86 h86 e86 => v_callS hB hK hR.rm [.ref ((SC g).1.2.1 55), .int 1, .int 2] [] lb_L_reads lv_L_95 (c_L_reads g hK.A X.1.2.1 1 2 h77 e86) dL_law_86 rfl rfl (Nat.le_of_ble_eq_true rfl) (by decide) (by decide)) (fun r86 h86 => ?_)
            refine v_ifz_eq (r := r86) (tgt := 100) hB dL_law_89 rfl ?_ ?_
            · refine v_iconst hB 0 dL_law_100 (by decide) ?_
              exact v_retL (x := false) hB hK hR dL_law_101
            · refine v_aload_n hB 1 dL_law_92 rfl rfl ?_
              refine v_aload_n hB 0 dL_law_93 rfl rfl ?_
              refine v_bWz (fun r94 h94 e94 => v_callS hB hK hR.rm [.ref ((SC g).1.2.1 55), .ref g.2.2.2.1] [] lb_L_walls lv_L_98 (c_L_walls g hK.A X.1.2.1 h86 e94) dL_law_94 rfl rfl (Nat.le_of_ble_eq_true rfl) (by decide) (by decide)) (fun r94 h94 => ?_)
              refine v_ifz_ne (r := r94) (tgt := 102) hB dL_law_97 rfl ?_ ?_
              · refine v_aload_n hB 1 dL_law_102 rfl rfl ?_
                refine v_bWi (fun r103 h103 e103 => v_callV hB hK hR.rm [] [] (oC_55 g) lb_X10_image lv_L_101 (c_X10_image g hK.A X.1.2.1 h94 e103) dL_law_103 rfl rfl (Nat.le_of_ble_eq_true rfl) (by decide) (by decide)) (fun r103 h103 => ?_)
                refine v_iconst hB 2 dL_law_106 (by decide) ?_
                refine v_icmp_ne (tgt := 160) hB dL_law_107 rfl ?_ ?_
                · refine v_iconst hB 0 dL_law_160 (by decide) ?_
                  exact v_retL (x := false) hB hK hR dL_law_161
                · refine v_aload_n hB 1 dL_law_110 rfl rfl ?_
                  refine v_iconst hB 0 dL_law_111 (by decide) ?_
                  refine v_iconst hB 1 dL_law_112 (by decide) ?_
                  refine v_bWi (fun r113 h113 e113 => v_callV hB hK hR.rm [.int 0, .int 1] [] (oC_55 g) lb_X10_sum lv_L_104 (c_X10_sum g hK.A X.1.2.1 0 1 h103 e113) dL_law_113 rfl rfl (Nat.le_of_ble_eq_true rfl) (by decide) (by decide)) (fun r113 h113 => ?_)
                  refine v_iconst hB 2 dL_law_116 (by decide) ?_
                  refine v_icmp_ne (tgt := 160) hB dL_law_117 rfl ?_ ?_
                  · refine v_iconst hB 0 dL_law_160 (by decide) ?_
                    exact v_retL (x := false) hB hK hR dL_law_161
                  · refine v_aload_n hB 1 dL_law_120 rfl rfl ?_
                    refine v_iconst hB 0 dL_law_121 (by decide) ?_
                    refine v_iconst hB 1 dL_law_122 (by decide) ?_
                    refine v_bWi (fun r123 h123 e123 => v_callV hB hK hR.rm [.int 0, .int 1] [] (oC_55 g) lb_X10_product lv_L_107 (c_X10_product g hK.A X.1.2.1 0 1 h113 e123) dL_law_123 rfl rfl (Nat.le_of_ble_eq_true rfl) (by decide) (by decide)) (fun r123 h123 => ?_)
                    refine v_iconst hB 3 dL_law_126 (by decide) ?_
                    refine v_icmp_ne (tgt := 160) hB dL_law_127 rfl ?_ ?_
                    · refine v_iconst hB 0 dL_law_160 (by decide) ?_
                      exact v_retL (x := false) hB hK hR dL_law_161
                    · refine v_aload_n hB 1 dL_law_130 rfl rfl ?_
                      refine v_iconst hB 2 dL_law_131 (by decide) ?_
                      refine v_bWi (fun r132 h132 e132 => v_callV hB hK hR.rm [.int 2] [] (oC_55 g) lb_X10_negative lv_L_110 (c_X10_negative g hK.A X.1.2.1 2 h123 e132) dL_law_132 rfl rfl (Nat.le_of_ble_eq_true rfl) (by decide) (by decide)) (fun r132 h132 => ?_)
                      refine v_iconst hB 4 dL_law_135 (by decide) ?_
                      refine v_icmp_ne (tgt := 160) hB dL_law_136 rfl ?_ ?_
                      · refine v_iconst hB 0 dL_law_160 (by decide) ?_
                        exact v_retL (x := false) hB hK hR dL_law_161
                      · refine v_aload_n hB 1 dL_law_139 rfl rfl ?_
                        refine v_iconst hB 0 dL_law_140 (by decide) ?_
                        refine v_iconst hB 1 dL_law_141 (by decide) ?_
                        refine v_bWi (fun r142 h142 e142 => v_callV hB hK hR.rm [.int 0, .int 1] [] (oC_55 g) lb_X10_lift lv_L_113 (c_X10_lift g hK.A X.1.2.1 0 1 h132 e142) dL_law_142 rfl rfl (Nat.le_of_ble_eq_true rfl) (by decide) (by decide)) (fun r142 h142 => ?_)
                        refine v_iconst hB 5 dL_law_145 (by decide) ?_
                        refine v_icmp_ne (tgt := 160) hB dL_law_146 rfl ?_ ?_
                        · refine v_iconst hB 0 dL_law_160 (by decide) ?_
                          exact v_retL (x := false) hB hK hR dL_law_161
                        · refine v_aload_n hB 1 dL_law_149 rfl rfl ?_
                          refine v_iconst hB 0 dL_law_150 (by decide) ?_
                          refine v_iload_n hB 3 dL_law_151 rfl rfl ?_
                          refine v_bWi (fun r152 h152 e152 => v_callV hB hK hR.rm [.int 0, .int (1 + r50)] [] (oC_55 g) lb_X10_on lv_L_116 (c_X10_on g hK.A X.1.2.1 0 (1 + r50) h142 e152) dL_law_152 rfl rfl (Nat.le_of_ble_eq_true rfl) (by decide) (by decide)) (fun r152 h152 => ?_)
                          refine v_bipush hB (-6) dL_law_155 (by decide) ?_
                          refine v_icmp_eq (tgt := 162) hB dL_law_157 rfl ?_ ?_
                          · refine v_iconst hB 0 dL_law_162 (by decide) ?_
                            refine v_istore hB [(0, .ref g.2.2.2.1), (1, .ref ((SC g).1.2.1 55)), (2, .int r14), (3, .int (1 + r50)), (4, .int 0)] [1, 2, 3, 4, 0] dL_law_163 (by decide) rfl ?_
                            exact V.sub [0, 1, 3, 4] rfl (hn165 (1 + r50) 1000 0 h152)
                          · refine v_iconst hB 0 dL_law_160 (by decide) ?_
                            exact v_retL (x := false) hB hK hR dL_law_161
              · refine v_iconst hB 0 dL_law_100 (by decide) ?_
                exact v_retL (x := false) hB hK hR dL_law_101
    · refine v_iconst hB 0 dL_law_39 (by decide) ?_
      exact v_retL (x := false) hB hK hR dL_law_40
