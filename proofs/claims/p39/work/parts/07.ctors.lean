set_option maxRecDepth 8000 in
theorem k_oi : Cond.instanceMethod Lib.objectInit ∈ pq_G := pq_t1 20 rfl rfl
set_option maxRecDepth 8000 in
theorem k_oc : Cond.code Lib.objectInit ⟨#[0xb1]⟩ 1 none ∈ pq_G := pq_t1 21 rfl rfl
set_option maxRecDepth 8000 in
theorem k_ac_long : Cond.arrayClass .long ∈ pq_G := pq_t1 45 rfl rfl
set_option maxRecDepth 8000 in
theorem k_ac_int : Cond.arrayClass .int ∈ pq_G := pq_t1 77 rfl rfl
set_option maxRecDepth 8000 in
theorem k_ini_X10 : Cond.initialized RX10 ∈ pq_G := pq_t1 1 rfl rfl
set_option maxRecDepth 8000 in
theorem k_ini_X6 : Cond.initialized RX6 ∈ pq_G := pq_t1 2 rfl rfl
set_option maxRecDepth 8000 in
theorem k_ini_X9 : Cond.initialized RX9 ∈ pq_G := pq_t1 3 rfl rfl
set_option maxRecDepth 8000 in
theorem k_ini_X1 : Cond.initialized RX1 ∈ pq_G := pq_t1 4 rfl rfl
set_option maxRecDepth 8000 in
theorem k_ini_X3 : Cond.initialized RX3 ∈ pq_G := pq_t1 5 rfl rfl
set_option maxRecDepth 8000 in
theorem k_ini_X2 : Cond.initialized RX2 ∈ pq_G := pq_t1 6 rfl rfl
set_option maxRecDepth 8000 in
theorem k_ini_X0 : Cond.initialized RX0 ∈ pq_G := pq_t1 7 rfl rfl
set_option maxRecDepth 8000 in
theorem k_ini_X7 : Cond.initialized RX7 ∈ pq_G := pq_t1 8 rfl rfl
set_option maxRecDepth 8000 in
theorem k_ini_X5 : Cond.initialized RX5 ∈ pq_G := pq_t1 9 rfl rfl
set_option maxRecDepth 8000 in
theorem k_ini_X8 : Cond.initialized RX8 ∈ pq_G := pq_t1 10 rfl rfl
set_option maxRecDepth 8000 in
theorem k_ini_X4 : Cond.initialized RX4 ∈ pq_G := pq_t1 11 rfl rfl
set_option maxRecDepth 8000 in
theorem k_cl_L_9 : Cond.classLink RL 9 RX10 ∈ pq_G := pq_t1 14 rfl rfl
set_option maxRecDepth 8000 in
theorem k_in_X10 : Cond.instantiable RX10 9 ∈ pq_G := pq_t1 15 rfl rfl
set_option maxRecDepth 8000 in
theorem k_cl_X10_7 : Cond.classLink RX10 7 RX6 ∈ pq_G := pq_t1 22 rfl rfl
set_option maxRecDepth 8000 in
theorem k_in_X6 : Cond.instantiable RX6 5 ∈ pq_G := pq_t1 23 rfl rfl
set_option maxRecDepth 8000 in
theorem k_cl_X6_9 : Cond.classLink RX6 9 RX1 ∈ pq_G := pq_t1 28 rfl rfl
set_option maxRecDepth 8000 in
theorem k_cl_X6_20 : Cond.classLink RX6 20 RX9 ∈ pq_G := pq_t1 30 rfl rfl
set_option maxRecDepth 8000 in
theorem k_in_X9 : Cond.instantiable RX9 2 ∈ pq_G := pq_t1 31 rfl rfl
set_option maxRecDepth 8000 in
theorem k_in_X1 : Cond.instantiable RX1 4 ∈ pq_G := pq_t1 46 rfl rfl
set_option maxRecDepth 8000 in
theorem k_cl_X10_16 : Cond.classLink RX10 16 RX3 ∈ pq_G := pq_t1 99 rfl rfl
set_option maxRecDepth 8000 in
theorem k_in_X3 : Cond.instantiable RX3 2 ∈ pq_G := pq_t1 100 rfl rfl
set_option maxRecDepth 8000 in
theorem k_cl_X10_23 : Cond.classLink RX10 23 RX2 ∈ pq_G := pq_t1 114 rfl rfl
set_option maxRecDepth 8000 in
theorem k_in_X2 : Cond.instantiable RX2 5 ∈ pq_G := pq_t1 115 rfl rfl
set_option maxRecDepth 8000 in
theorem k_cl_X10_30 : Cond.classLink RX10 30 RX0 ∈ pq_G := pq_t1 136 rfl rfl
set_option maxRecDepth 8000 in
theorem k_in_X0 : Cond.instantiable RX0 7 ∈ pq_G := pq_t1 137 rfl rfl
set_option maxRecDepth 8000 in
theorem k_cl_X10_37 : Cond.classLink RX10 37 RX7 ∈ pq_G := pq_t1 161 rfl rfl
set_option maxRecDepth 8000 in
theorem k_in_X7 : Cond.instantiable RX7 3 ∈ pq_G := pq_t1 162 rfl rfl
set_option maxRecDepth 8000 in
theorem k_cl_X10_44 : Cond.classLink RX10 44 RX5 ∈ pq_G := pq_t1 179 rfl rfl
set_option maxRecDepth 8000 in
theorem k_in_X5 : Cond.instantiable RX5 4 ∈ pq_G := pq_t1 180 rfl rfl
set_option maxRecDepth 8000 in
theorem k_cl_X5_9 : Cond.classLink RX5 9 "[[J" ∈ pq_G := pq_t1 185 rfl rfl
set_option maxRecDepth 8000 in
theorem k_cl_X10_51 : Cond.classLink RX10 51 RX8 ∈ pq_G := pq_t1 198 rfl rfl
set_option maxRecDepth 8000 in
theorem k_in_X8 : Cond.instantiable RX8 6 ∈ pq_G := pq_t1 199 rfl rfl
set_option maxRecDepth 8000 in
theorem k_cl_X10_58 : Cond.classLink RX10 58 RX4 ∈ pq_G := pq_t1 224 rfl rfl
set_option maxRecDepth 8000 in
theorem k_in_X4 : Cond.instantiable RX4 2 ∈ pq_G := pq_t1 225 rfl rfl
set_option maxRecDepth 8000 in
theorem k_cl_X4_9 : Cond.classLink RX4 9 "[[I" ∈ pq_G := pq_t1 230 rfl rfl
theorem df_X0 : ∀ j, j < 7 → defaultValue (tyX0 j) = vp_V [.null, .null, .null, .null, .int 0, .null, .int 0] j := fun j hj => match j, hj with | 0, _ => rfl | 1, _ => rfl | 2, _ => rfl | 3, _ => rfl | 4, _ => rfl | 5, _ => rfl | 6, _ => rfl | n + 7, h => absurd h (by omega)
theorem df_X1 : ∀ j, j < 4 → defaultValue (tyX1 j) = vp_V [.null, .int 0, .int 0, .int 0] j := fun j hj => match j, hj with | 0, _ => rfl | 1, _ => rfl | 2, _ => rfl | 3, _ => rfl | n + 4, h => absurd h (by omega)
theorem df_X2 : ∀ j, j < 5 → defaultValue (tyX2 j) = vp_V [.null, .null, .int 0, .int 0, .int 0] j := fun j hj => match j, hj with | 0, _ => rfl | 1, _ => rfl | 2, _ => rfl | 3, _ => rfl | 4, _ => rfl | n + 5, h => absurd h (by omega)
theorem df_X3 : ∀ j, j < 2 → defaultValue (tyX3 j) = vp_V [.null, .int 0] j := fun j hj => match j, hj with | 0, _ => rfl | 1, _ => rfl | n + 2, h => absurd h (by omega)
theorem df_X4 : ∀ j, j < 2 → defaultValue (tyX4 j) = vp_V [.null, .null] j := fun j hj => match j, hj with | 0, _ => rfl | 1, _ => rfl | n + 2, h => absurd h (by omega)
theorem df_X5 : ∀ j, j < 4 → defaultValue (tyX5 j) = vp_V [.null, .null, .int 0, .int 0] j := fun j hj => match j, hj with | 0, _ => rfl | 1, _ => rfl | 2, _ => rfl | 3, _ => rfl | n + 4, h => absurd h (by omega)
theorem df_X6 : ∀ j, j < 5 → defaultValue (tyX6 j) = vp_V [.null, .null, .null, .int 0, .int 0] j := fun j hj => match j, hj with | 0, _ => rfl | 1, _ => rfl | 2, _ => rfl | 3, _ => rfl | 4, _ => rfl | n + 5, h => absurd h (by omega)
theorem df_X7 : ∀ j, j < 3 → defaultValue (tyX7 j) = vp_V [.int 0, .int 0, .int 0] j := fun j hj => match j, hj with | 0, _ => rfl | 1, _ => rfl | 2, _ => rfl | n + 3, h => absurd h (by omega)
theorem df_X8 : ∀ j, j < 6 → defaultValue (tyX8 j) = vp_V [.int 0, .null, .null, .null, .null, .int 0] j := fun j hj => match j, hj with | 0, _ => rfl | 1, _ => rfl | 2, _ => rfl | 3, _ => rfl | 4, _ => rfl | 5, _ => rfl | n + 6, h => absurd h (by omega)
theorem df_X9 : ∀ j, j < 2 → defaultValue (tyX9 j) = vp_V [.null, .int 0] j := fun j hj => match j, hj with | 0, _ => rfl | 1, _ => rfl | n + 2, h => absurd h (by omega)
theorem df_X10 : ∀ j, j < 9 → defaultValue (tyX10 j) = vp_V [.null, .null, .null, .null, .null, .null, .null, .null, .null] j := fun j hj => match j, hj with | 0, _ => rfl | 1, _ => rfl | 2, _ => rfl | 3, _ => rfl | 4, _ => rfl | 5, _ => rfl | 6, _ => rfl | 7, _ => rfl | 8, _ => rfl | n + 9, h => absurd h (by omega)
theorem mna_eq {r A : Nat → Nat} {N b : Nat} (h : ∀ i, i < N → A (b + i) = r i) : (fun i => if i < N then some (r i) else none) = (fun i => if i < N then some (A (b + i)) else none) := funext fun i => by
  by_cases hi : i < N
  · rw [if_pos hi, if_pos hi, h i hi]
  · rw [if_neg hi, if_neg hi]
theorem dX1_init_0 : decode cX1_init 0 = .ok (.aload_n 0, 1) := by decide +kernel
theorem dX1_init_1 : decode cX1_init 1 = .ok (.invokespecial 3, 3) := by decide +kernel
theorem dX1_init_4 : decode cX1_init 4 = .ok (.aload_n 0, 1) := by decide +kernel
theorem dX1_init_5 : decode cX1_init 5 = .ok (.bipush 28, 2) := by decide +kernel
theorem dX1_init_7 : decode cX1_init 7 = .ok (.newarray .int, 2) := by decide +kernel
theorem dX1_init_9 : decode cX1_init 9 = .ok (.putfield 9, 3) := by decide +kernel
theorem dX1_init_12 : decode cX1_init 12 = .ok (.return_, 1) := by decide +kernel
set_option maxRecDepth 8000 in
theorem k_lo_X1_3 : Cond.methodLink RX1 3 Lib.objectInit ∈ pq_G := pq_t1 50 rfl rfl
set_option maxRecDepth 8000 in
theorem fw_X1_9 : Cond.fieldLink RX1 9 (TX1 0).1 (TX1 0).2.1 (TX1 0).2.2.1 ∈ pq_G := pq_t1 51 rfl rfl
def W_X1 (g : pq_g) (q0 : Nat) (a : Nat → Nat) : va_W := [(q0, .inr (1, [.ref (a 0), .int 0, .int 0, .int 0])), (a 0, .inl (g.2.2.1 0, 28, .inl (fun _ => 0)))]
set_option maxRecDepth 8000 in
theorem lb_X1_init : pq_LB yX1_init cX1_init 1 none 0 := ⟨pq_t1 4 rfl rfl, pq_t1 49 rfl rfl, by decide +kernel, by decide +kernel, by decide +kernel⟩
set_option maxRecDepth 8000 in
theorem li_X1_init : Cond.instanceMethod yX1_init ∈ pq_G := pq_t1 48 rfl rfl
set_option maxRecDepth 100000 in
set_option maxHeartbeats 4000000 in
theorem n_X1 (g : pq_g) (l : Launch) (q0 : Nat) : pq_N (g.2.1, vwCl, pq_tys g) l yX1_init cX1_init 1 1 20 1 28 q0 (.inr (1, [.null, .int 0, .int 0, .int 0])) (W_X1 g q0) := by
  refine pq_metI l (own := RX1) 1 20 1 28 q0 _ _ (by decide +kernel) rfl rfl (by decide) (fun X hXl hB hK hR => ?_)
  refine u_aload_n hB 0 dX1_init_0 rfl rfl ?_
  refine u_obj hB hR k_lo_X1_3 k_oi k_oc (by decide) (Nat.le_of_ble_eq_true rfl) dX1_init_1 ?_
  refine u_aload_n hB 0 dX1_init_4 rfl rfl ?_
  refine u_bipush hB 28 dX1_init_5 (by decide) ?_
  refine h_newi (t0 := 0) (cA := g.2.2.1 0) hB hK hR rfl k_ac_int 28 (by decide) (by decide) (by decide) (by decide) (by decide) dX1_init_7 (fun q1 => ?_)
  refine u_putF (f := 0) (ty := (.array .int)) tyX1 hB hK hR rfl (by decide) fw_X1_9 uw_X1 tyX1_ok nmX1 rfl rfl rfl rfl rfl (Nat.le_of_ble_eq_true rfl) dX1_init_9 ?_
  exact u_vret (fun i => ([q1] : List Nat).getD i 0) hB hK hR rfl (by decide) (by decide) dX1_init_12
theorem dX3_init_0 : decode cX3_init 0 = .ok (.aload_n 0, 1) := by decide +kernel
theorem dX3_init_1 : decode cX3_init 1 = .ok (.invokespecial 3, 3) := by decide +kernel
theorem dX3_init_4 : decode cX3_init 4 = .ok (.aload_n 0, 1) := by decide +kernel
theorem dX3_init_5 : decode cX3_init 5 = .ok (.bipush 72, 2) := by decide +kernel
theorem dX3_init_7 : decode cX3_init 7 = .ok (.newarray .int, 2) := by decide +kernel
theorem dX3_init_9 : decode cX3_init 9 = .ok (.putfield 9, 3) := by decide +kernel
theorem dX3_init_12 : decode cX3_init 12 = .ok (.return_, 1) := by decide +kernel
set_option maxRecDepth 8000 in
theorem k_lo_X3_3 : Cond.methodLink RX3 3 Lib.objectInit ∈ pq_G := pq_t1 104 rfl rfl
set_option maxRecDepth 8000 in
theorem fw_X3_9 : Cond.fieldLink RX3 9 (TX3 0).1 (TX3 0).2.1 (TX3 0).2.2.1 ∈ pq_G := pq_t1 105 rfl rfl
def W_X3 (g : pq_g) (q0 : Nat) (a : Nat → Nat) : va_W := [(q0, .inr (3, [.ref (a 0), .int 0])), (a 0, .inl (g.2.2.1 0, 72, .inl (fun _ => 0)))]
set_option maxRecDepth 8000 in
theorem lb_X3_init : pq_LB yX3_init cX3_init 1 none 0 := ⟨pq_t1 5 rfl rfl, pq_t1 103 rfl rfl, by decide +kernel, by decide +kernel, by decide +kernel⟩
set_option maxRecDepth 8000 in
theorem li_X3_init : Cond.instanceMethod yX3_init ∈ pq_G := pq_t1 102 rfl rfl
set_option maxRecDepth 100000 in
set_option maxHeartbeats 4000000 in
theorem n_X3 (g : pq_g) (l : Launch) (q0 : Nat) : pq_N (g.2.1, vwCl, pq_tys g) l yX3_init cX3_init 1 1 20 1 72 q0 (.inr (3, [.null, .int 0])) (W_X3 g q0) := by
  refine pq_metI l (own := RX3) 1 20 1 72 q0 _ _ (by decide +kernel) rfl rfl (by decide) (fun X hXl hB hK hR => ?_)
  refine u_aload_n hB 0 dX3_init_0 rfl rfl ?_
  refine u_obj hB hR k_lo_X3_3 k_oi k_oc (by decide) (Nat.le_of_ble_eq_true rfl) dX3_init_1 ?_
  refine u_aload_n hB 0 dX3_init_4 rfl rfl ?_
  refine u_bipush hB 72 dX3_init_5 (by decide) ?_
  refine h_newi (t0 := 0) (cA := g.2.2.1 0) hB hK hR rfl k_ac_int 72 (by decide) (by decide) (by decide) (by decide) (by decide) dX3_init_7 (fun q1 => ?_)
  refine u_putF (f := 0) (ty := (.array .int)) tyX3 hB hK hR rfl (by decide) fw_X3_9 uw_X3 tyX3_ok nmX3 rfl rfl rfl rfl rfl (Nat.le_of_ble_eq_true rfl) dX3_init_9 ?_
  exact u_vret (fun i => ([q1] : List Nat).getD i 0) hB hK hR rfl (by decide) (by decide) dX3_init_12
theorem dX2_init_0 : decode cX2_init 0 = .ok (.aload_n 0, 1) := by decide +kernel
theorem dX2_init_1 : decode cX2_init 1 = .ok (.invokespecial 3, 3) := by decide +kernel
theorem dX2_init_4 : decode cX2_init 4 = .ok (.aload_n 0, 1) := by decide +kernel
theorem dX2_init_5 : decode cX2_init 5 = .ok (.iconst 3, 1) := by decide +kernel
theorem dX2_init_6 : decode cX2_init 6 = .ok (.newarray .int, 2) := by decide +kernel
theorem dX2_init_8 : decode cX2_init 8 = .ok (.putfield 9, 3) := by decide +kernel
theorem dX2_init_11 : decode cX2_init 11 = .ok (.return_, 1) := by decide +kernel
set_option maxRecDepth 8000 in
theorem k_lo_X2_3 : Cond.methodLink RX2 3 Lib.objectInit ∈ pq_G := pq_t1 119 rfl rfl
set_option maxRecDepth 8000 in
theorem fw_X2_9 : Cond.fieldLink RX2 9 (TX2 0).1 (TX2 0).2.1 (TX2 0).2.2.1 ∈ pq_G := pq_t1 120 rfl rfl
def W_X2 (g : pq_g) (q0 : Nat) (a : Nat → Nat) : va_W := [(q0, .inr (2, [.ref (a 0), .null, .int 0, .int 0, .int 0])), (a 0, .inl (g.2.2.1 0, 3, .inl (fun _ => 0)))]
set_option maxRecDepth 8000 in
theorem lb_X2_init : pq_LB yX2_init cX2_init 1 none 0 := ⟨pq_t1 6 rfl rfl, pq_t1 118 rfl rfl, by decide +kernel, by decide +kernel, by decide +kernel⟩
set_option maxRecDepth 8000 in
theorem li_X2_init : Cond.instanceMethod yX2_init ∈ pq_G := pq_t1 117 rfl rfl
set_option maxRecDepth 100000 in
set_option maxHeartbeats 4000000 in
theorem n_X2 (g : pq_g) (l : Launch) (q0 : Nat) : pq_N (g.2.1, vwCl, pq_tys g) l yX2_init cX2_init 1 1 20 1 3 q0 (.inr (2, [.null, .null, .int 0, .int 0, .int 0])) (W_X2 g q0) := by
  refine pq_metI l (own := RX2) 1 20 1 3 q0 _ _ (by decide +kernel) rfl rfl (by decide) (fun X hXl hB hK hR => ?_)
  refine u_aload_n hB 0 dX2_init_0 rfl rfl ?_
  refine u_obj hB hR k_lo_X2_3 k_oi k_oc (by decide) (Nat.le_of_ble_eq_true rfl) dX2_init_1 ?_
  refine u_aload_n hB 0 dX2_init_4 rfl rfl ?_
  refine u_iconst hB 3 dX2_init_5 (by decide) ?_
  refine h_newi (t0 := 0) (cA := g.2.2.1 0) hB hK hR rfl k_ac_int 3 (by decide) (by decide) (by decide) (by decide) (by decide) dX2_init_6 (fun q1 => ?_)
  refine u_putF (f := 0) (ty := (.array .int)) tyX2 hB hK hR rfl (by decide) fw_X2_9 uw_X2 tyX2_ok nmX2 rfl rfl rfl rfl rfl (Nat.le_of_ble_eq_true rfl) dX2_init_8 ?_
  exact u_vret (fun i => ([q1] : List Nat).getD i 0) hB hK hR rfl (by decide) (by decide) dX2_init_11
theorem dX0_init_0 : decode cX0_init 0 = .ok (.aload_n 0, 1) := by decide +kernel
theorem dX0_init_1 : decode cX0_init 1 = .ok (.invokespecial 3, 3) := by decide +kernel
theorem dX0_init_4 : decode cX0_init 4 = .ok (.aload_n 0, 1) := by decide +kernel
theorem dX0_init_5 : decode cX0_init 5 = .ok (.bipush 9, 2) := by decide +kernel
theorem dX0_init_7 : decode cX0_init 7 = .ok (.newarray .int, 2) := by decide +kernel
theorem dX0_init_9 : decode cX0_init 9 = .ok (.putfield 9, 3) := by decide +kernel
theorem dX0_init_12 : decode cX0_init 12 = .ok (.aload_n 0, 1) := by decide +kernel
theorem dX0_init_13 : decode cX0_init 13 = .ok (.bipush 9, 2) := by decide +kernel
theorem dX0_init_15 : decode cX0_init 15 = .ok (.newarray .int, 2) := by decide +kernel
theorem dX0_init_17 : decode cX0_init 17 = .ok (.putfield 15, 3) := by decide +kernel
theorem dX0_init_20 : decode cX0_init 20 = .ok (.aload_n 0, 1) := by decide +kernel
theorem dX0_init_21 : decode cX0_init 21 = .ok (.bipush 9, 2) := by decide +kernel
theorem dX0_init_23 : decode cX0_init 23 = .ok (.newarray .int, 2) := by decide +kernel
theorem dX0_init_25 : decode cX0_init 25 = .ok (.putfield 18, 3) := by decide +kernel
theorem dX0_init_28 : decode cX0_init 28 = .ok (.aload_n 0, 1) := by decide +kernel
theorem dX0_init_29 : decode cX0_init 29 = .ok (.bipush 9, 2) := by decide +kernel
theorem dX0_init_31 : decode cX0_init 31 = .ok (.newarray .int, 2) := by decide +kernel
theorem dX0_init_33 : decode cX0_init 33 = .ok (.putfield 21, 3) := by decide +kernel
theorem dX0_init_36 : decode cX0_init 36 = .ok (.return_, 1) := by decide +kernel
set_option maxRecDepth 8000 in
theorem k_lo_X0_3 : Cond.methodLink RX0 3 Lib.objectInit ∈ pq_G := pq_t1 141 rfl rfl
set_option maxRecDepth 8000 in
theorem fw_X0_9 : Cond.fieldLink RX0 9 (TX0 0).1 (TX0 0).2.1 (TX0 0).2.2.1 ∈ pq_G := pq_t1 142 rfl rfl
set_option maxRecDepth 8000 in
theorem fw_X0_15 : Cond.fieldLink RX0 15 (TX0 1).1 (TX0 1).2.1 (TX0 1).2.2.1 ∈ pq_G := pq_t1 143 rfl rfl
set_option maxRecDepth 8000 in
theorem fw_X0_18 : Cond.fieldLink RX0 18 (TX0 2).1 (TX0 2).2.1 (TX0 2).2.2.1 ∈ pq_G := pq_t1 144 rfl rfl
set_option maxRecDepth 8000 in
theorem fw_X0_21 : Cond.fieldLink RX0 21 (TX0 3).1 (TX0 3).2.1 (TX0 3).2.2.1 ∈ pq_G := pq_t1 145 rfl rfl
def W_X0 (g : pq_g) (q0 : Nat) (a : Nat → Nat) : va_W := [(q0, .inr (0, [.ref (a 0), .ref (a 1), .ref (a 2), .ref (a 3), .int 0, .null, .int 0])), (a 0, .inl (g.2.2.1 0, 9, .inl (fun _ => 0))), (a 1, .inl (g.2.2.1 0, 9, .inl (fun _ => 0))), (a 2, .inl (g.2.2.1 0, 9, .inl (fun _ => 0))), (a 3, .inl (g.2.2.1 0, 9, .inl (fun _ => 0)))]
set_option maxRecDepth 8000 in
theorem lb_X0_init : pq_LB yX0_init cX0_init 1 none 0 := ⟨pq_t1 7 rfl rfl, pq_t1 140 rfl rfl, by decide +kernel, by decide +kernel, by decide +kernel⟩
set_option maxRecDepth 8000 in
theorem li_X0_init : Cond.instanceMethod yX0_init ∈ pq_G := pq_t1 139 rfl rfl
set_option maxRecDepth 100000 in
set_option maxHeartbeats 4000000 in
theorem n_X0 (g : pq_g) (l : Launch) (q0 : Nat) : pq_N (g.2.1, vwCl, pq_tys g) l yX0_init cX0_init 1 1 20 4 36 q0 (.inr (0, [.null, .null, .null, .null, .int 0, .null, .int 0])) (W_X0 g q0) := by
  refine pq_metI l (own := RX0) 1 20 4 36 q0 _ _ (by decide +kernel) rfl rfl (by decide) (fun X hXl hB hK hR => ?_)
  refine u_aload_n hB 0 dX0_init_0 rfl rfl ?_
  refine u_obj hB hR k_lo_X0_3 k_oi k_oc (by decide) (Nat.le_of_ble_eq_true rfl) dX0_init_1 ?_
  refine u_aload_n hB 0 dX0_init_4 rfl rfl ?_
  refine u_bipush hB 9 dX0_init_5 (by decide) ?_
  refine h_newi (t0 := 0) (cA := g.2.2.1 0) hB hK hR rfl k_ac_int 9 (by decide) (by decide) (by decide) (by decide) (by decide) dX0_init_7 (fun q1 => ?_)
  refine u_putF (f := 0) (ty := (.array .int)) tyX0 hB hK hR rfl (by decide) fw_X0_9 uw_X0 tyX0_ok nmX0 rfl rfl rfl rfl rfl (Nat.le_of_ble_eq_true rfl) dX0_init_9 ?_
  refine u_aload_n hB 0 dX0_init_12 rfl rfl ?_
  refine u_bipush hB 9 dX0_init_13 (by decide) ?_
  refine h_newi (t0 := 0) (cA := g.2.2.1 0) hB hK hR rfl k_ac_int 9 (by decide) (by decide) (by decide) (by decide) (by decide) dX0_init_15 (fun q2 => ?_)
  refine u_putF (f := 1) (ty := (.array .int)) tyX0 hB hK hR rfl (by decide) fw_X0_15 uw_X0 tyX0_ok nmX0 rfl rfl rfl rfl rfl (Nat.le_of_ble_eq_true rfl) dX0_init_17 ?_
  refine u_aload_n hB 0 dX0_init_20 rfl rfl ?_
  refine u_bipush hB 9 dX0_init_21 (by decide) ?_
  refine h_newi (t0 := 0) (cA := g.2.2.1 0) hB hK hR rfl k_ac_int 9 (by decide) (by decide) (by decide) (by decide) (by decide) dX0_init_23 (fun q3 => ?_)
  refine u_putF (f := 2) (ty := (.array .int)) tyX0 hB hK hR rfl (by decide) fw_X0_18 uw_X0 tyX0_ok nmX0 rfl rfl rfl rfl rfl (Nat.le_of_ble_eq_true rfl) dX0_init_25 ?_
  refine u_aload_n hB 0 dX0_init_28 rfl rfl ?_
  refine u_bipush hB 9 dX0_init_29 (by decide) ?_
  refine h_newi (t0 := 0) (cA := g.2.2.1 0) hB hK hR rfl k_ac_int 9 (by decide) (by decide) (by decide) (by decide) (by decide) dX0_init_31 (fun q4 => ?_)
  refine u_putF (f := 3) (ty := (.array .int)) tyX0 hB hK hR rfl (by decide) fw_X0_21 uw_X0 tyX0_ok nmX0 rfl rfl rfl rfl rfl (Nat.le_of_ble_eq_true rfl) dX0_init_33 ?_
  exact u_vret (fun i => ([q1, q2, q3, q4] : List Nat).getD i 0) hB hK hR rfl (by decide) (by decide) dX0_init_36
theorem dX7_init_0 : decode cX7_init 0 = .ok (.aload_n 0, 1) := by decide +kernel
theorem dX7_init_1 : decode cX7_init 1 = .ok (.invokespecial 3, 3) := by decide +kernel
theorem dX7_init_4 : decode cX7_init 4 = .ok (.return_, 1) := by decide +kernel
set_option maxRecDepth 8000 in
theorem k_lo_X7_3 : Cond.methodLink RX7 3 Lib.objectInit ∈ pq_G := pq_t1 166 rfl rfl
def W_X7 (g : pq_g) (q0 : Nat) (a : Nat → Nat) : va_W := [(q0, .inr (7, [.int 0, .int 0, .int 0]))]
set_option maxRecDepth 8000 in
theorem lb_X7_init : pq_LB yX7_init cX7_init 1 none 0 := ⟨pq_t1 8 rfl rfl, pq_t1 165 rfl rfl, by decide +kernel, by decide +kernel, by decide +kernel⟩
set_option maxRecDepth 8000 in
theorem li_X7_init : Cond.instanceMethod yX7_init ∈ pq_G := pq_t1 164 rfl rfl
set_option maxRecDepth 100000 in
set_option maxHeartbeats 4000000 in
theorem n_X7 (g : pq_g) (l : Launch) (q0 : Nat) : pq_N (g.2.1, vwCl, pq_tys g) l yX7_init cX7_init 1 1 20 0 0 q0 (.inr (7, [.int 0, .int 0, .int 0])) (W_X7 g q0) := by
  refine pq_metI l (own := RX7) 1 20 0 0 q0 _ _ (by decide +kernel) rfl rfl (by decide) (fun X hXl hB hK hR => ?_)
  refine u_aload_n hB 0 dX7_init_0 rfl rfl ?_
  refine u_obj hB hR k_lo_X7_3 k_oi k_oc (by decide) (Nat.le_of_ble_eq_true rfl) dX7_init_1 ?_
  exact u_vret (fun i => ([] : List Nat).getD i 0) hB hK hR rfl (by decide) (by decide) dX7_init_4
theorem dX9_init_0 : decode cX9_init 0 = .ok (.aload_n 0, 1) := by decide +kernel
theorem dX9_init_1 : decode cX9_init 1 = .ok (.invokespecial 3, 3) := by decide +kernel
theorem dX9_init_4 : decode cX9_init 4 = .ok (.aload_n 0, 1) := by decide +kernel
theorem dX9_init_5 : decode cX9_init 5 = .ok (.sipush 190, 3) := by decide +kernel
theorem dX9_init_8 : decode cX9_init 8 = .ok (.newarray .long, 2) := by decide +kernel
theorem dX9_init_10 : decode cX9_init 10 = .ok (.putfield 9, 3) := by decide +kernel
theorem dX9_init_13 : decode cX9_init 13 = .ok (.return_, 1) := by decide +kernel
set_option maxRecDepth 8000 in
theorem k_lo_X9_3 : Cond.methodLink RX9 3 Lib.objectInit ∈ pq_G := pq_t1 35 rfl rfl
set_option maxRecDepth 8000 in
theorem fw_X9_9 : Cond.fieldLink RX9 9 (TX9 0).1 (TX9 0).2.1 (TX9 0).2.2.1 ∈ pq_G := pq_t1 36 rfl rfl
def W_X9 (g : pq_g) (q0 : Nat) (a : Nat → Nat) : va_W := [(q0, .inr (9, [.ref (a 0), .int 0])), (a 0, .inl (g.2.2.1 1, 190, .inr (.inl (fun _ => 0))))]
set_option maxRecDepth 8000 in
theorem lb_X9_init : pq_LB yX9_init cX9_init 1 none 0 := ⟨pq_t1 3 rfl rfl, pq_t1 34 rfl rfl, by decide +kernel, by decide +kernel, by decide +kernel⟩
set_option maxRecDepth 8000 in
theorem li_X9_init : Cond.instanceMethod yX9_init ∈ pq_G := pq_t1 33 rfl rfl
set_option maxRecDepth 100000 in
set_option maxHeartbeats 4000000 in
theorem n_X9 (g : pq_g) (l : Launch) (q0 : Nat) : pq_N (g.2.1, vwCl, pq_tys g) l yX9_init cX9_init 1 1 20 1 190 q0 (.inr (9, [.null, .int 0])) (W_X9 g q0) := by
  refine pq_metI l (own := RX9) 1 20 1 190 q0 _ _ (by decide +kernel) rfl rfl (by decide) (fun X hXl hB hK hR => ?_)
  refine u_aload_n hB 0 dX9_init_0 rfl rfl ?_
  refine u_obj hB hR k_lo_X9_3 k_oi k_oc (by decide) (Nat.le_of_ble_eq_true rfl) dX9_init_1 ?_
  refine u_aload_n hB 0 dX9_init_4 rfl rfl ?_
  refine u_sipush hB 190 dX9_init_5 (by decide) ?_
  refine h_newl (t0 := 1) (cA := g.2.2.1 1) hB hK hR rfl k_ac_long 190 (by decide) (by decide) (by decide) (by decide) (by decide) dX9_init_8 (fun q1 => ?_)
  refine u_putF (f := 0) (ty := (.array .long)) tyX9 hB hK hR rfl (by decide) fw_X9_9 uw_X9 tyX9_ok nmX9 rfl rfl rfl rfl rfl (Nat.le_of_ble_eq_true rfl) dX9_init_10 ?_
  exact u_vret (fun i => ([q1] : List Nat).getD i 0) hB hK hR rfl (by decide) (by decide) dX9_init_13
theorem dX8_init_0 : decode cX8_init 0 = .ok (.aload_n 0, 1) := by decide +kernel
theorem dX8_init_1 : decode cX8_init 1 = .ok (.invokespecial 3, 3) := by decide +kernel
theorem dX8_init_4 : decode cX8_init 4 = .ok (.aload_n 0, 1) := by decide +kernel
theorem dX8_init_5 : decode cX8_init 5 = .ok (.bipush 16, 2) := by decide +kernel
theorem dX8_init_7 : decode cX8_init 7 = .ok (.newarray .int, 2) := by decide +kernel
theorem dX8_init_9 : decode cX8_init 9 = .ok (.putfield 9, 3) := by decide +kernel
theorem dX8_init_12 : decode cX8_init 12 = .ok (.aload_n 0, 1) := by decide +kernel
theorem dX8_init_13 : decode cX8_init 13 = .ok (.bipush 16, 2) := by decide +kernel
theorem dX8_init_15 : decode cX8_init 15 = .ok (.newarray .int, 2) := by decide +kernel
theorem dX8_init_17 : decode cX8_init 17 = .ok (.putfield 15, 3) := by decide +kernel
theorem dX8_init_20 : decode cX8_init 20 = .ok (.aload_n 0, 1) := by decide +kernel
theorem dX8_init_21 : decode cX8_init 21 = .ok (.bipush 16, 2) := by decide +kernel
theorem dX8_init_23 : decode cX8_init 23 = .ok (.newarray .int, 2) := by decide +kernel
theorem dX8_init_25 : decode cX8_init 25 = .ok (.putfield 18, 3) := by decide +kernel
theorem dX8_init_28 : decode cX8_init 28 = .ok (.aload_n 0, 1) := by decide +kernel
theorem dX8_init_29 : decode cX8_init 29 = .ok (.bipush 16, 2) := by decide +kernel
theorem dX8_init_31 : decode cX8_init 31 = .ok (.newarray .int, 2) := by decide +kernel
theorem dX8_init_33 : decode cX8_init 33 = .ok (.putfield 21, 3) := by decide +kernel
theorem dX8_init_36 : decode cX8_init 36 = .ok (.return_, 1) := by decide +kernel
set_option maxRecDepth 8000 in
theorem k_lo_X8_3 : Cond.methodLink RX8 3 Lib.objectInit ∈ pq_G := pq_t1 203 rfl rfl
set_option maxRecDepth 8000 in
theorem fw_X8_9 : Cond.fieldLink RX8 9 (TX8 1).1 (TX8 1).2.1 (TX8 1).2.2.1 ∈ pq_G := pq_t1 206 rfl rfl
set_option maxRecDepth 8000 in
theorem fw_X8_15 : Cond.fieldLink RX8 15 (TX8 2).1 (TX8 2).2.1 (TX8 2).2.2.1 ∈ pq_G := pq_t1 207 rfl rfl
set_option maxRecDepth 8000 in
theorem fw_X8_18 : Cond.fieldLink RX8 18 (TX8 3).1 (TX8 3).2.1 (TX8 3).2.2.1 ∈ pq_G := pq_t1 208 rfl rfl
set_option maxRecDepth 8000 in
theorem fw_X8_21 : Cond.fieldLink RX8 21 (TX8 4).1 (TX8 4).2.1 (TX8 4).2.2.1 ∈ pq_G := pq_t1 209 rfl rfl
def W_X8 (g : pq_g) (q0 : Nat) (a : Nat → Nat) : va_W := [(q0, .inr (8, [.int 0, .ref (a 0), .ref (a 1), .ref (a 2), .ref (a 3), .int 0])), (a 0, .inl (g.2.2.1 0, 16, .inl (fun _ => 0))), (a 1, .inl (g.2.2.1 0, 16, .inl (fun _ => 0))), (a 2, .inl (g.2.2.1 0, 16, .inl (fun _ => 0))), (a 3, .inl (g.2.2.1 0, 16, .inl (fun _ => 0)))]
set_option maxRecDepth 8000 in
theorem lb_X8_init : pq_LB yX8_init cX8_init 1 none 0 := ⟨pq_t1 10 rfl rfl, pq_t1 202 rfl rfl, by decide +kernel, by decide +kernel, by decide +kernel⟩
set_option maxRecDepth 8000 in
theorem li_X8_init : Cond.instanceMethod yX8_init ∈ pq_G := pq_t1 201 rfl rfl
set_option maxRecDepth 100000 in
set_option maxHeartbeats 4000000 in
theorem n_X8 (g : pq_g) (l : Launch) (q0 : Nat) : pq_N (g.2.1, vwCl, pq_tys g) l yX8_init cX8_init 1 1 20 4 64 q0 (.inr (8, [.int 0, .null, .null, .null, .null, .int 0])) (W_X8 g q0) := by
  refine pq_metI l (own := RX8) 1 20 4 64 q0 _ _ (by decide +kernel) rfl rfl (by decide) (fun X hXl hB hK hR => ?_)
  refine u_aload_n hB 0 dX8_init_0 rfl rfl ?_
  refine u_obj hB hR k_lo_X8_3 k_oi k_oc (by decide) (Nat.le_of_ble_eq_true rfl) dX8_init_1 ?_
  refine u_aload_n hB 0 dX8_init_4 rfl rfl ?_
  refine u_bipush hB 16 dX8_init_5 (by decide) ?_
  refine h_newi (t0 := 0) (cA := g.2.2.1 0) hB hK hR rfl k_ac_int 16 (by decide) (by decide) (by decide) (by decide) (by decide) dX8_init_7 (fun q1 => ?_)
  refine u_putF (f := 1) (ty := (.array .int)) tyX8 hB hK hR rfl (by decide) fw_X8_9 uw_X8 tyX8_ok nmX8 rfl rfl rfl rfl rfl (Nat.le_of_ble_eq_true rfl) dX8_init_9 ?_
  refine u_aload_n hB 0 dX8_init_12 rfl rfl ?_
  refine u_bipush hB 16 dX8_init_13 (by decide) ?_
  refine h_newi (t0 := 0) (cA := g.2.2.1 0) hB hK hR rfl k_ac_int 16 (by decide) (by decide) (by decide) (by decide) (by decide) dX8_init_15 (fun q2 => ?_)
  refine u_putF (f := 2) (ty := (.array .int)) tyX8 hB hK hR rfl (by decide) fw_X8_15 uw_X8 tyX8_ok nmX8 rfl rfl rfl rfl rfl (Nat.le_of_ble_eq_true rfl) dX8_init_17 ?_
  refine u_aload_n hB 0 dX8_init_20 rfl rfl ?_
  refine u_bipush hB 16 dX8_init_21 (by decide) ?_
  refine h_newi (t0 := 0) (cA := g.2.2.1 0) hB hK hR rfl k_ac_int 16 (by decide) (by decide) (by decide) (by decide) (by decide) dX8_init_23 (fun q3 => ?_)
  refine u_putF (f := 3) (ty := (.array .int)) tyX8 hB hK hR rfl (by decide) fw_X8_18 uw_X8 tyX8_ok nmX8 rfl rfl rfl rfl rfl (Nat.le_of_ble_eq_true rfl) dX8_init_25 ?_
  refine u_aload_n hB 0 dX8_init_28 rfl rfl ?_
  refine u_bipush hB 16 dX8_init_29 (by decide) ?_
  refine h_newi (t0 := 0) (cA := g.2.2.1 0) hB hK hR rfl k_ac_int 16 (by decide) (by decide) (by decide) (by decide) (by decide) dX8_init_31 (fun q4 => ?_)
  refine u_putF (f := 4) (ty := (.array .int)) tyX8 hB hK hR rfl (by decide) fw_X8_21 uw_X8 tyX8_ok nmX8 rfl rfl rfl rfl rfl (Nat.le_of_ble_eq_true rfl) dX8_init_33 ?_
  exact u_vret (fun i => ([q1, q2, q3, q4] : List Nat).getD i 0) hB hK hR rfl (by decide) (by decide) dX8_init_36
theorem dX4_init_0 : decode cX4_init 0 = .ok (.aload_n 0, 1) := by decide +kernel
theorem dX4_init_1 : decode cX4_init 1 = .ok (.invokespecial 3, 3) := by decide +kernel
theorem dX4_init_4 : decode cX4_init 4 = .ok (.aload_n 0, 1) := by decide +kernel
theorem dX4_init_5 : decode cX4_init 5 = .ok (.iconst 3, 1) := by decide +kernel
theorem dX4_init_6 : decode cX4_init 6 = .ok (.bipush 40, 2) := by decide +kernel
theorem dX4_init_8 : decode cX4_init 8 = .ok (.multianewarray 9 2, 4) := by decide +kernel
theorem dX4_init_12 : decode cX4_init 12 = .ok (.putfield 11, 3) := by decide +kernel
theorem dX4_init_15 : decode cX4_init 15 = .ok (.aload_n 0, 1) := by decide +kernel
theorem dX4_init_16 : decode cX4_init 16 = .ok (.iconst 3, 1) := by decide +kernel
theorem dX4_init_17 : decode cX4_init 17 = .ok (.newarray .int, 2) := by decide +kernel
theorem dX4_init_19 : decode cX4_init 19 = .ok (.dup, 1) := by decide +kernel
theorem dX4_init_20 : decode cX4_init 20 = .ok (.iconst 0, 1) := by decide +kernel
theorem dX4_init_21 : decode cX4_init 21 = .ok (.iconst (-1), 1) := by decide +kernel
theorem dX4_init_22 : decode cX4_init 22 = .ok (.iastore, 1) := by decide +kernel
theorem dX4_init_23 : decode cX4_init 23 = .ok (.dup, 1) := by decide +kernel
theorem dX4_init_24 : decode cX4_init 24 = .ok (.iconst 1, 1) := by decide +kernel
theorem dX4_init_25 : decode cX4_init 25 = .ok (.iconst (-1), 1) := by decide +kernel
theorem dX4_init_26 : decode cX4_init 26 = .ok (.iastore, 1) := by decide +kernel
theorem dX4_init_27 : decode cX4_init 27 = .ok (.dup, 1) := by decide +kernel
theorem dX4_init_28 : decode cX4_init 28 = .ok (.iconst 2, 1) := by decide +kernel
theorem dX4_init_29 : decode cX4_init 29 = .ok (.iconst (-1), 1) := by decide +kernel
theorem dX4_init_30 : decode cX4_init 30 = .ok (.iastore, 1) := by decide +kernel
theorem dX4_init_31 : decode cX4_init 31 = .ok (.putfield 16, 3) := by decide +kernel
theorem dX4_init_34 : decode cX4_init 34 = .ok (.return_, 1) := by decide +kernel
set_option maxRecDepth 8000 in
theorem k_lo_X4_3 : Cond.methodLink RX4 3 Lib.objectInit ∈ pq_G := pq_t1 229 rfl rfl
set_option maxRecDepth 8000 in
theorem fw_X4_11 : Cond.fieldLink RX4 11 (TX4 0).1 (TX4 0).2.1 (TX4 0).2.2.1 ∈ pq_G := pq_t1 232 rfl rfl
set_option maxRecDepth 8000 in
theorem fw_X4_16 : Cond.fieldLink RX4 16 (TX4 1).1 (TX4 1).2.1 (TX4 1).2.2.1 ∈ pq_G := pq_t1 234 rfl rfl
def W_X4 (g : pq_g) (q0 : Nat) (a : Nat → Nat) : va_W := [(q0, .inr (4, [.ref (a 0), .ref (a 4)])), (a 0, .inl (g.2.2.1 3, 3, .inr (.inr (.inr (.inr (fun i => if i < 3 then some (a (1 + i)) else none)))))), (a 1, .inl (g.2.2.1 0, 40, .inl (fun _ => 0))), (a 2, .inl (g.2.2.1 0, 40, .inl (fun _ => 0))), (a 3, .inl (g.2.2.1 0, 40, .inl (fun _ => 0))), (a 4, .inl (g.2.2.1 0, 3, .inl (upd (upd (upd (fun _ => 0) 0 (-1)) 1 (-1)) 2 (-1))))]
set_option maxRecDepth 8000 in
theorem lb_X4_init : pq_LB yX4_init cX4_init 1 none 0 := ⟨pq_t1 11 rfl rfl, pq_t1 228 rfl rfl, by decide +kernel, by decide +kernel, by decide +kernel⟩
set_option maxRecDepth 8000 in
theorem li_X4_init : Cond.instanceMethod yX4_init ∈ pq_G := pq_t1 227 rfl rfl
set_option maxRecDepth 100000 in
set_option maxHeartbeats 4000000 in
theorem n_X4 (g : pq_g) (l : Launch) (q0 : Nat) : pq_N (g.2.1, vwCl, pq_tys g) l yX4_init cX4_init 1 1 20 5 126 q0 (.inr (4, [.null, .null])) (W_X4 g q0) := by
  refine pq_metI l (own := RX4) 1 20 5 126 q0 _ _ (by decide +kernel) rfl rfl (by decide) (fun X hXl hB hK hR => ?_)
  refine u_aload_n hB 0 dX4_init_0 rfl rfl ?_
  refine u_obj hB hR k_lo_X4_3 k_oi k_oc (by decide) (Nat.le_of_ble_eq_true rfl) dX4_init_1 ?_
  refine u_aload_n hB 0 dX4_init_4 rfl rfl ?_
  refine u_iconst hB 3 dX4_init_5 (by decide) ?_
  refine u_bipush hB 40 dX4_init_6 (by decide) ?_
  refine h_mna (t0 := 3) (cA := g.2.2.1 3) (cy := g.2.2.1 0) (ty := .int) (z := (40, .inl (fun _ => 0))) 3 40 hB hK hR rfl (hK.1.2 0 _ rfl).2 hK.2.2.2.2.2.1 k_cl_X4_9 k_ac_int (by decide) (by decide) (by decide) (by decide) (by decide) (by decide) (by decide) rfl rfl (fun cc => rfl) (by decide) (by decide) (fun U c1 c2 h1 h2 => Option.some.inj (h1.symm.trans h2)) dX4_init_8 (fun q1 r1 => ?_)
  refine u_putF (f := 0) (ty := (.array (.array .int))) tyX4 hB hK hR rfl (by decide) fw_X4_11 uw_X4 tyX4_ok nmX4 rfl rfl rfl rfl rfl (Nat.le_of_ble_eq_true rfl) dX4_init_12 ?_
  refine u_aload_n hB 0 dX4_init_15 rfl rfl ?_
  refine u_iconst hB 3 dX4_init_16 (by decide) ?_
  refine h_newi (t0 := 0) (cA := g.2.2.1 0) hB hK hR rfl k_ac_int 3 (by decide) (by decide) (by decide) (by decide) (by decide) dX4_init_17 (fun q2 => ?_)
  refine u_dup hB dX4_init_19 rfl ?_
  refine u_iconst hB 0 dX4_init_20 (by decide) ?_
  refine u_iconst hB (-1) dX4_init_21 (by decide) ?_
  refine h_iast (t0 := 0) hB hK rfl (by unfold vp_in; decide) dX4_init_22 ?_
  refine u_dup hB dX4_init_23 rfl ?_
  refine u_iconst hB 1 dX4_init_24 (by decide) ?_
  refine u_iconst hB (-1) dX4_init_25 (by decide) ?_
  refine h_iast (t0 := 0) hB hK rfl (by unfold vp_in; decide) dX4_init_26 ?_
  refine u_dup hB dX4_init_27 rfl ?_
  refine u_iconst hB 2 dX4_init_28 (by decide) ?_
  refine u_iconst hB (-1) dX4_init_29 (by decide) ?_
  refine h_iast (t0 := 0) hB hK rfl (by unfold vp_in; decide) dX4_init_30 ?_
  refine u_putF (f := 1) (ty := (.array .int)) tyX4 hB hK hR rfl (by decide) fw_X4_16 uw_X4 tyX4_ok nmX4 rfl rfl rfl rfl rfl (Nat.le_of_ble_eq_true rfl) dX4_init_31 ?_
  exact u_vret (fun i => if i < 1 then ([q1] : List Nat).getD i 0 else if i < 4 then r1 (i - 1) else ([q2] : List Nat).getD (i - 4) 0) hB hK hR (by
    rw [mna_eq (r := r1) (A := (fun i => if i < 1 then ([q1] : List Nat).getD i 0 else if i < 4 then r1 (i - 1) else ([q2] : List Nat).getD (i - 4) 0)) (b := 1) (N := 3) (fun i hi => by
      show (if 1 + i < 1 then _ else if 1 + i < 4 then r1 (1 + i - 1) else _) = r1 i
      rw [if_neg (by omega), if_pos (by omega)]
      congr 1
      omega)]
    rfl) (by decide) (by decide) dX4_init_34
theorem we_X4 {g : pq_g} {q0 : Nat} {a a2 : Nat → Nat} (h : ∀ k, k < 5 → a k = a2 k) : W_X4 g q0 a = W_X4 g q0 a2 := by
  unfold W_X4
  rw [mna_eq (r := fun i => a (1 + i)) (A := a2) (b := 1) (N := 3) (fun i hi => (h (1 + i) (by omega)).symm)]
  rw [h 0 (by decide), h 1 (by decide), h 2 (by decide), h 3 (by decide), h 4 (by decide)]
theorem dX5_init_0 : decode cX5_init 0 = .ok (.aload_n 0, 1) := by decide +kernel
theorem dX5_init_1 : decode cX5_init 1 = .ok (.invokespecial 3, 3) := by decide +kernel
theorem dX5_init_4 : decode cX5_init 4 = .ok (.aload_n 0, 1) := by decide +kernel
theorem dX5_init_5 : decode cX5_init 5 = .ok (.bipush 28, 2) := by decide +kernel
theorem dX5_init_7 : decode cX5_init 7 = .ok (.iconst 4, 1) := by decide +kernel
theorem dX5_init_8 : decode cX5_init 8 = .ok (.multianewarray 9 2, 4) := by decide +kernel
theorem dX5_init_12 : decode cX5_init 12 = .ok (.putfield 11, 3) := by decide +kernel
theorem dX5_init_15 : decode cX5_init 15 = .ok (.aload_n 0, 1) := by decide +kernel
theorem dX5_init_16 : decode cX5_init 16 = .ok (.iconst 3, 1) := by decide +kernel
theorem dX5_init_17 : decode cX5_init 17 = .ok (.newarray .int, 2) := by decide +kernel
theorem dX5_init_19 : decode cX5_init 19 = .ok (.putfield 16, 3) := by decide +kernel
theorem dX5_init_22 : decode cX5_init 22 = .ok (.return_, 1) := by decide +kernel
set_option maxRecDepth 8000 in
theorem k_lo_X5_3 : Cond.methodLink RX5 3 Lib.objectInit ∈ pq_G := pq_t1 184 rfl rfl
set_option maxRecDepth 8000 in
theorem fw_X5_11 : Cond.fieldLink RX5 11 (TX5 0).1 (TX5 0).2.1 (TX5 0).2.2.1 ∈ pq_G := pq_t1 187 rfl rfl
set_option maxRecDepth 8000 in
theorem fw_X5_16 : Cond.fieldLink RX5 16 (TX5 1).1 (TX5 1).2.1 (TX5 1).2.2.1 ∈ pq_G := pq_t1 188 rfl rfl
def W_X5 (g : pq_g) (q0 : Nat) (a : Nat → Nat) : va_W := [(q0, .inr (5, [.ref (a 0), .ref (a 29), .int 0, .int 0])), (a 0, .inl (g.2.2.1 4, 28, .inr (.inr (.inr (.inr (fun i => if i < 28 then some (a (1 + i)) else none)))))), (a 1, .inl (g.2.2.1 1, 4, .inr (.inl (fun _ => 0)))), (a 2, .inl (g.2.2.1 1, 4, .inr (.inl (fun _ => 0)))), (a 3, .inl (g.2.2.1 1, 4, .inr (.inl (fun _ => 0)))), (a 4, .inl (g.2.2.1 1, 4, .inr (.inl (fun _ => 0)))), (a 5, .inl (g.2.2.1 1, 4, .inr (.inl (fun _ => 0)))), (a 6, .inl (g.2.2.1 1, 4, .inr (.inl (fun _ => 0)))), (a 7, .inl (g.2.2.1 1, 4, .inr (.inl (fun _ => 0)))), (a 8, .inl (g.2.2.1 1, 4, .inr (.inl (fun _ => 0)))), (a 9, .inl (g.2.2.1 1, 4, .inr (.inl (fun _ => 0)))), (a 10, .inl (g.2.2.1 1, 4, .inr (.inl (fun _ => 0)))), (a 11, .inl (g.2.2.1 1, 4, .inr (.inl (fun _ => 0)))), (a 12, .inl (g.2.2.1 1, 4, .inr (.inl (fun _ => 0)))), (a 13, .inl (g.2.2.1 1, 4, .inr (.inl (fun _ => 0)))), (a 14, .inl (g.2.2.1 1, 4, .inr (.inl (fun _ => 0)))), (a 15, .inl (g.2.2.1 1, 4, .inr (.inl (fun _ => 0)))), (a 16, .inl (g.2.2.1 1, 4, .inr (.inl (fun _ => 0)))), (a 17, .inl (g.2.2.1 1, 4, .inr (.inl (fun _ => 0)))), (a 18, .inl (g.2.2.1 1, 4, .inr (.inl (fun _ => 0)))), (a 19, .inl (g.2.2.1 1, 4, .inr (.inl (fun _ => 0)))), (a 20, .inl (g.2.2.1 1, 4, .inr (.inl (fun _ => 0)))), (a 21, .inl (g.2.2.1 1, 4, .inr (.inl (fun _ => 0)))), (a 22, .inl (g.2.2.1 1, 4, .inr (.inl (fun _ => 0)))), (a 23, .inl (g.2.2.1 1, 4, .inr (.inl (fun _ => 0)))), (a 24, .inl (g.2.2.1 1, 4, .inr (.inl (fun _ => 0)))), (a 25, .inl (g.2.2.1 1, 4, .inr (.inl (fun _ => 0)))), (a 26, .inl (g.2.2.1 1, 4, .inr (.inl (fun _ => 0)))), (a 27, .inl (g.2.2.1 1, 4, .inr (.inl (fun _ => 0)))), (a 28, .inl (g.2.2.1 1, 4, .inr (.inl (fun _ => 0)))), (a 29, .inl (g.2.2.1 0, 3, .inl (fun _ => 0)))]
set_option maxRecDepth 8000 in
theorem lb_X5_init : pq_LB yX5_init cX5_init 1 none 0 := ⟨pq_t1 9 rfl rfl, pq_t1 183 rfl rfl, by decide +kernel, by decide +kernel, by decide +kernel⟩
set_option maxRecDepth 8000 in
theorem li_X5_init : Cond.instanceMethod yX5_init ∈ pq_G := pq_t1 182 rfl rfl
set_option maxRecDepth 100000 in
set_option maxHeartbeats 4000000 in
theorem n_X5 (g : pq_g) (l : Launch) (q0 : Nat) : pq_N (g.2.1, vwCl, pq_tys g) l yX5_init cX5_init 1 1 20 30 143 q0 (.inr (5, [.null, .null, .int 0, .int 0])) (W_X5 g q0) := by
  refine pq_metI l (own := RX5) 1 20 30 143 q0 _ _ (by decide +kernel) rfl rfl (by decide) (fun X hXl hB hK hR => ?_)
  refine u_aload_n hB 0 dX5_init_0 rfl rfl ?_
  refine u_obj hB hR k_lo_X5_3 k_oi k_oc (by decide) (Nat.le_of_ble_eq_true rfl) dX5_init_1 ?_
  refine u_aload_n hB 0 dX5_init_4 rfl rfl ?_
  refine u_bipush hB 28 dX5_init_5 (by decide) ?_
  refine u_iconst hB 4 dX5_init_7 (by decide) ?_
  refine h_mna (t0 := 4) (cA := g.2.2.1 4) (cy := g.2.2.1 1) (ty := .long) (z := (4, .inr (.inl (fun _ => 0)))) 28 4 hB hK hR rfl (hK.1.2 1 _ rfl).2 hK.2.2.2.2.2.2 k_cl_X5_9 k_ac_long (by decide) (by decide) (by decide) (by decide) (by decide) (by decide) (by decide) rfl rfl (fun cc => rfl) (by decide) (by decide) (fun U c1 c2 h1 h2 => Option.some.inj (h1.symm.trans h2)) dX5_init_8 (fun q1 r1 => ?_)
  refine u_putF (f := 0) (ty := (.array (.array .long))) tyX5 hB hK hR rfl (by decide) fw_X5_11 uw_X5 tyX5_ok nmX5 rfl rfl rfl rfl rfl (Nat.le_of_ble_eq_true rfl) dX5_init_12 ?_
  refine u_aload_n hB 0 dX5_init_15 rfl rfl ?_
  refine u_iconst hB 3 dX5_init_16 (by decide) ?_
  refine h_newi (t0 := 0) (cA := g.2.2.1 0) hB hK hR rfl k_ac_int 3 (by decide) (by decide) (by decide) (by decide) (by decide) dX5_init_17 (fun q2 => ?_)
  refine u_putF (f := 1) (ty := (.array .int)) tyX5 hB hK hR rfl (by decide) fw_X5_16 uw_X5 tyX5_ok nmX5 rfl rfl rfl rfl rfl (Nat.le_of_ble_eq_true rfl) dX5_init_19 ?_
  exact u_vret (fun i => if i < 1 then ([q1] : List Nat).getD i 0 else if i < 29 then r1 (i - 1) else ([q2] : List Nat).getD (i - 29) 0) hB hK hR (by
    rw [mna_eq (r := r1) (A := (fun i => if i < 1 then ([q1] : List Nat).getD i 0 else if i < 29 then r1 (i - 1) else ([q2] : List Nat).getD (i - 29) 0)) (b := 1) (N := 28) (fun i hi => by
      show (if 1 + i < 1 then _ else if 1 + i < 29 then r1 (1 + i - 1) else _) = r1 i
      rw [if_neg (by omega), if_pos (by omega)]
      congr 1
      omega)]
    rfl) (by decide) (by decide) dX5_init_22
theorem we_X5 {g : pq_g} {q0 : Nat} {a a2 : Nat → Nat} (h : ∀ k, k < 30 → a k = a2 k) : W_X5 g q0 a = W_X5 g q0 a2 := by
  unfold W_X5
  rw [mna_eq (r := fun i => a (1 + i)) (A := a2) (b := 1) (N := 28) (fun i hi => (h (1 + i) (by omega)).symm)]
  rw [h 0 (by decide), h 1 (by decide), h 2 (by decide), h 3 (by decide), h 4 (by decide), h 5 (by decide), h 6 (by decide), h 7 (by decide), h 8 (by decide), h 9 (by decide), h 10 (by decide), h 11 (by decide), h 12 (by decide), h 13 (by decide), h 14 (by decide), h 15 (by decide), h 16 (by decide), h 17 (by decide), h 18 (by decide), h 19 (by decide), h 20 (by decide), h 21 (by decide), h 22 (by decide), h 23 (by decide), h 24 (by decide), h 25 (by decide), h 26 (by decide), h 27 (by decide), h 28 (by decide), h 29 (by decide)]
theorem dX6_init_0 : decode cX6_init 0 = .ok (.aload_n 0, 1) := by decide +kernel
theorem dX6_init_1 : decode cX6_init 1 = .ok (.invokespecial 3, 3) := by decide +kernel
theorem dX6_init_4 : decode cX6_init 4 = .ok (.aload_n 0, 1) := by decide +kernel
theorem dX6_init_5 : decode cX6_init 5 = .ok (.bipush 6, 2) := by decide +kernel
theorem dX6_init_7 : decode cX6_init 7 = .ok (.anewarray 9, 3) := by decide +kernel
theorem dX6_init_10 : decode cX6_init 10 = .ok (.putfield 11, 3) := by decide +kernel
theorem dX6_init_13 : decode cX6_init 13 = .ok (.aload_n 0, 1) := by decide +kernel
theorem dX6_init_14 : decode cX6_init 14 = .ok (.bipush 6, 2) := by decide +kernel
theorem dX6_init_16 : decode cX6_init 16 = .ok (.anewarray 9, 3) := by decide +kernel
theorem dX6_init_19 : decode cX6_init 19 = .ok (.putfield 17, 3) := by decide +kernel
theorem dX6_init_22 : decode cX6_init 22 = .ok (.aload_n 0, 1) := by decide +kernel
theorem dX6_init_23 : decode cX6_init 23 = .ok (.new 20, 3) := by decide +kernel
theorem dX6_init_26 : decode cX6_init 26 = .ok (.dup, 1) := by decide +kernel
theorem dX6_init_27 : decode cX6_init 27 = .ok (.invokespecial 22, 3) := by decide +kernel
theorem dX6_init_30 : decode cX6_init 30 = .ok (.putfield 23, 3) := by decide +kernel
theorem dX6_init_33 : decode cX6_init 33 = .ok (.aload_n 0, 1) := by decide +kernel
theorem dX6_init_34 : decode cX6_init 34 = .ok (.iconst (-1), 1) := by decide +kernel
theorem dX6_init_35 : decode cX6_init 35 = .ok (.putfield 27, 3) := by decide +kernel
theorem dX6_init_38 : decode cX6_init 38 = .ok (.iconst 0, 1) := by decide +kernel
theorem dX6_init_39 : decode cX6_init 39 = .ok (.istore_n 1, 1) := by decide +kernel
theorem dX6_init_40 : decode cX6_init 40 = .ok (.iload_n 1, 1) := by decide +kernel
theorem dX6_init_41 : decode cX6_init 41 = .ok (.bipush 6, 2) := by decide +kernel
theorem dX6_init_43 : decode cX6_init 43 = .ok (.if_icmp .ge 35, 3) := by decide +kernel
theorem dX6_init_46 : decode cX6_init 46 = .ok (.aload_n 0, 1) := by decide +kernel
theorem dX6_init_47 : decode cX6_init 47 = .ok (.getfield 11, 3) := by decide +kernel
theorem dX6_init_50 : decode cX6_init 50 = .ok (.iload_n 1, 1) := by decide +kernel
theorem dX6_init_51 : decode cX6_init 51 = .ok (.new 9, 3) := by decide +kernel
theorem dX6_init_54 : decode cX6_init 54 = .ok (.dup, 1) := by decide +kernel
theorem dX6_init_55 : decode cX6_init 55 = .ok (.invokespecial 31, 3) := by decide +kernel
theorem dX6_init_58 : decode cX6_init 58 = .ok (.aastore, 1) := by decide +kernel
theorem dX6_init_59 : decode cX6_init 59 = .ok (.aload_n 0, 1) := by decide +kernel
theorem dX6_init_60 : decode cX6_init 60 = .ok (.getfield 17, 3) := by decide +kernel
theorem dX6_init_63 : decode cX6_init 63 = .ok (.iload_n 1, 1) := by decide +kernel
theorem dX6_init_64 : decode cX6_init 64 = .ok (.new 9, 3) := by decide +kernel
theorem dX6_init_67 : decode cX6_init 67 = .ok (.dup, 1) := by decide +kernel
theorem dX6_init_68 : decode cX6_init 68 = .ok (.invokespecial 31, 3) := by decide +kernel
theorem dX6_init_71 : decode cX6_init 71 = .ok (.aastore, 1) := by decide +kernel
theorem dX6_init_72 : decode cX6_init 72 = .ok (.iinc 1 1, 3) := by decide +kernel
theorem dX6_init_75 : decode cX6_init 75 = .ok (.goto (-35), 3) := by decide +kernel
theorem dX6_init_78 : decode cX6_init 78 = .ok (.return_, 1) := by decide +kernel
set_option maxRecDepth 8000 in
theorem k_lo_X6_3 : Cond.methodLink RX6 3 Lib.objectInit ∈ pq_G := pq_t1 27 rfl rfl
set_option maxRecDepth 8000 in
theorem fw_X6_11 : Cond.fieldLink RX6 11 (TX6 0).1 (TX6 0).2.1 (TX6 0).2.2.1 ∈ pq_G := pq_t1 78 rfl rfl
set_option maxRecDepth 8000 in
theorem fw_X6_17 : Cond.fieldLink RX6 17 (TX6 1).1 (TX6 1).2.1 (TX6 1).2.2.1 ∈ pq_G := pq_t1 81 rfl rfl
set_option maxRecDepth 8000 in
theorem fw_X6_23 : Cond.fieldLink RX6 23 (TX6 2).1 (TX6 2).2.1 (TX6 2).2.2.1 ∈ pq_G := pq_t1 82 rfl rfl
set_option maxRecDepth 8000 in
theorem fw_X6_27 : Cond.fieldLink RX6 27 (TX6 4).1 (TX6 4).2.1 (TX6 4).2.2.1 ∈ pq_G := pq_t1 86 rfl rfl
def W_X6 (g : pq_g) (q0 : Nat) (a : Nat → Nat) : va_W := [(q0, .inr (6, [.ref (a 0), .ref (a 1), .ref (a 2), .int 0, .int (-1)])), (a 0, .inl (g.2.2.1 2, 6, .inr (.inr (.inr (.inr (va_up (va_up (va_up (va_up (va_up (va_up (fun _ => none) 0 (some (a 4))) 1 (some (a 8))) 2 (some (a 12))) 3 (some (a 16))) 4 (some (a 20))) 5 (some (a 24)))))))), (a 1, .inl (g.2.2.1 2, 6, .inr (.inr (.inr (.inr (va_up (va_up (va_up (va_up (va_up (va_up (fun _ => none) 0 (some (a 6))) 1 (some (a 10))) 2 (some (a 14))) 3 (some (a 18))) 4 (some (a 22))) 5 (some (a 26)))))))), (a 2, .inr (9, [.ref ((a 3)), .int 0])), (a 3, .inl (g.2.2.1 1, 190, .inr (.inl (fun _ => 0)))), (a 4, .inr (1, [.ref ((a 5)), .int 0, .int 0, .int 0])), (a 5, .inl (g.2.2.1 0, 28, .inl (fun _ => 0))), (a 6, .inr (1, [.ref ((a 7)), .int 0, .int 0, .int 0])), (a 7, .inl (g.2.2.1 0, 28, .inl (fun _ => 0))), (a 8, .inr (1, [.ref ((a 9)), .int 0, .int 0, .int 0])), (a 9, .inl (g.2.2.1 0, 28, .inl (fun _ => 0))), (a 10, .inr (1, [.ref ((a 11)), .int 0, .int 0, .int 0])), (a 11, .inl (g.2.2.1 0, 28, .inl (fun _ => 0))), (a 12, .inr (1, [.ref ((a 13)), .int 0, .int 0, .int 0])), (a 13, .inl (g.2.2.1 0, 28, .inl (fun _ => 0))), (a 14, .inr (1, [.ref ((a 15)), .int 0, .int 0, .int 0])), (a 15, .inl (g.2.2.1 0, 28, .inl (fun _ => 0))), (a 16, .inr (1, [.ref ((a 17)), .int 0, .int 0, .int 0])), (a 17, .inl (g.2.2.1 0, 28, .inl (fun _ => 0))), (a 18, .inr (1, [.ref ((a 19)), .int 0, .int 0, .int 0])), (a 19, .inl (g.2.2.1 0, 28, .inl (fun _ => 0))), (a 20, .inr (1, [.ref ((a 21)), .int 0, .int 0, .int 0])), (a 21, .inl (g.2.2.1 0, 28, .inl (fun _ => 0))), (a 22, .inr (1, [.ref ((a 23)), .int 0, .int 0, .int 0])), (a 23, .inl (g.2.2.1 0, 28, .inl (fun _ => 0))), (a 24, .inr (1, [.ref ((a 25)), .int 0, .int 0, .int 0])), (a 25, .inl (g.2.2.1 0, 28, .inl (fun _ => 0))), (a 26, .inr (1, [.ref ((a 27)), .int 0, .int 0, .int 0])), (a 27, .inl (g.2.2.1 0, 28, .inl (fun _ => 0)))]
set_option maxRecDepth 8000 in
theorem lb_X6_init : pq_LB yX6_init cX6_init 2 none 0 := ⟨pq_t1 2 rfl rfl, pq_t1 26 rfl rfl, by decide +kernel, by decide +kernel, by decide +kernel⟩
set_option maxRecDepth 8000 in
theorem li_X6_init : Cond.instanceMethod yX6_init ∈ pq_G := pq_t1 25 rfl rfl
set_option maxRecDepth 100000 in
set_option maxHeartbeats 4000000 in
theorem n_X6 (g : pq_g) (l : Launch) (q0 : Nat) : pq_N (g.2.1, vwCl, pq_tys g) l yX6_init cX6_init 2 2 40 28 588 q0 (.inr (6, [.null, .null, .null, .int 0, .int 0])) (W_X6 g q0) := by
  refine pq_metI l (own := RX6) 2 40 28 588 q0 _ _ (by decide +kernel) rfl rfl (by decide) (fun X hXl hB hK hR => ?_)
  refine u_aload_n hB 0 dX6_init_0 rfl rfl ?_
  refine u_obj hB hR k_lo_X6_3 k_oi k_oc (by decide) (Nat.le_of_ble_eq_true rfl) dX6_init_1 ?_
  refine u_aload_n hB 0 dX6_init_4 rfl rfl ?_
  refine u_bipush hB 6 dX6_init_5 (by decide) ?_
  refine h_newq (t0 := 2) (cA := g.2.2.1 2) hB hK hR rfl k_cl_X6_9 6 (by decide) (by decide) (by decide) (by decide) (by decide) dX6_init_7 (fun q1 => ?_)
  refine u_putF (f := 0) (ty := (.array (.object "FormsAboveNought$Form"))) tyX6 hB hK hR rfl (by decide) fw_X6_11 uw_X6 tyX6_ok nmX6 rfl rfl rfl rfl rfl (Nat.le_of_ble_eq_true rfl) dX6_init_10 ?_
  refine u_aload_n hB 0 dX6_init_13 rfl rfl ?_
  refine u_bipush hB 6 dX6_init_14 (by decide) ?_
  refine h_newq (t0 := 2) (cA := g.2.2.1 2) hB hK hR rfl k_cl_X6_9 6 (by decide) (by decide) (by decide) (by decide) (by decide) dX6_init_16 (fun q2 => ?_)
  refine u_putF (f := 1) (ty := (.array (.object "FormsAboveNought$Form"))) tyX6 hB hK hR rfl (by decide) fw_X6_17 uw_X6 tyX6_ok nmX6 rfl rfl rfl rfl rfl (Nat.le_of_ble_eq_true rfl) dX6_init_19 ?_
  refine u_aload_n hB 0 dX6_init_22 rfl rfl ?_
  refine u_eq (ws' := _ :: _ :: _ :: ([] : va_W)) rfl ?_
  refine h3_new (ci := 9) (C := RX9) (T := TX9) (N := 2) [.null, .int 0] tyX9 hB hK hR rfl uw_X9 tyX9_ok k_cl_X6_20 k_in_X9 k_ini_X9 df_X9 (by decide) (by decide) dX6_init_23 (fun q3 => ?_)
  refine u_dup hB dX6_init_26 rfl ?_
  refine h3_callN hB hK hR lb_X9_init rfl (hK.2.2.2.1 (RX6, 22, yX9_init, "FormsAboveNought") (List.mem_of_getElem? (i := 7) rfl)) li_X9_init (n_X9 g X.1.2.1 q3) dX6_init_27 (Nat.le_of_ble_eq_true rfl) (by decide) (by decide) (by decide) (by decide) (fun a3 => ?_)
  refine u_putF (f := 2) (ty := (.object "FormsAboveNought$Work")) tyX6 hB hK hR rfl (by decide) fw_X6_23 uw_X6 tyX6_ok nmX6 rfl rfl rfl rfl rfl (Nat.le_of_ble_eq_true rfl) dX6_init_30 ?_
  refine u_aload_n hB 0 dX6_init_33 rfl rfl ?_
  refine u_iconst hB (-1) dX6_init_34 (by decide) ?_
  refine u_put (f := 4) (ty := .int) tyX6 hB hK hR rfl (by decide) fw_X6_27 uw_X6 tyX6_ok nmX6 rfl rfl rfl rfl (Nat.le_of_ble_eq_true rfl) dX6_init_35 ?_
  refine u_iconst hB 0 dX6_init_38 (by decide) ?_
  refine u_istore_n hB [(0, .ref q0), (1, .int 0)] [1, 0] dX6_init_39 rfl (by decide) rfl ?_
  refine u_iload_n hB 1 dX6_init_40 rfl rfl ?_
  refine u_bipush hB 6 dX6_init_41 (by decide) ?_
  refine u_geN (tgt := 78) hB dX6_init_43 rfl (by decide) ?_
  refine u_aload_n hB 0 dX6_init_46 rfl rfl ?_
  refine u_get (f := 0) hB hK rfl (by decide) fw_X6_11 uw_X6 rfl dX6_init_47 ?_
  refine u_iload_n hB 1 dX6_init_50 rfl rfl ?_
  refine h3_new (ci := 1) (C := RX1) (T := TX1) (N := 4) [.null, .int 0, .int 0, .int 0] tyX1 hB hK hR rfl uw_X1 tyX1_ok k_cl_X6_9 k_in_X1 k_ini_X1 df_X1 (by decide) (by decide) dX6_init_51 (fun q4 => ?_)
  refine u_dup hB dX6_init_54 rfl ?_
  refine h3_callN hB hK hR lb_X1_init rfl (hK.2.2.2.1 (RX6, 31, yX1_init, "FormsAboveNought") (List.mem_of_getElem? (i := 8) rfl)) li_X1_init (n_X1 g X.1.2.1 q4) dX6_init_55 (Nat.le_of_ble_eq_true rfl) (by decide) (by decide) (by decide) (by decide) (fun a4 => ?_)
  refine h_ast1 (t0 := 2) (r := (RX1, TX1, 4)) hB hK rfl rfl rfl (by unfold vp_in; decide) dX6_init_58 ?_
  refine u_aload_n hB 0 dX6_init_59 rfl rfl ?_
  refine u_get (f := 1) hB hK rfl (by decide) fw_X6_17 uw_X6 rfl dX6_init_60 ?_
  refine u_iload_n hB 1 dX6_init_63 rfl rfl ?_
  refine h3_new (ci := 1) (C := RX1) (T := TX1) (N := 4) [.null, .int 0, .int 0, .int 0] tyX1 hB hK hR rfl uw_X1 tyX1_ok k_cl_X6_9 k_in_X1 k_ini_X1 df_X1 (by decide) (by decide) dX6_init_64 (fun q5 => ?_)
  refine u_dup hB dX6_init_67 rfl ?_
  refine h3_callN hB hK hR lb_X1_init rfl (hK.2.2.2.1 (RX6, 31, yX1_init, "FormsAboveNought") (List.mem_of_getElem? (i := 8) rfl)) li_X1_init (n_X1 g X.1.2.1 q5) dX6_init_68 (Nat.le_of_ble_eq_true rfl) (by decide) (by decide) (by decide) (by decide) (fun a5 => ?_)
  refine h_ast2 (t0 := 2) (r := (RX1, TX1, 4)) hB hK rfl rfl rfl (by unfold vp_in; decide) dX6_init_71 ?_
  refine u_iinc hB 1 [(0, .ref q0), (1, .int 1)] 1 [1, 0] dX6_init_72 rfl (by decide) (by decide) rfl ?_
  refine u_goto (tgt := 40) hB dX6_init_75 rfl ?_
  refine u_iload_n hB 1 dX6_init_40 rfl rfl ?_
  refine u_bipush hB 6 dX6_init_41 (by decide) ?_
  refine u_geN (tgt := 78) hB dX6_init_43 rfl (by decide) ?_
  refine u_aload_n hB 0 dX6_init_46 rfl rfl ?_
  refine u_get (f := 0) hB hK rfl (by decide) fw_X6_11 uw_X6 rfl dX6_init_47 ?_
  refine u_iload_n hB 1 dX6_init_50 rfl rfl ?_
  refine h3_new (ci := 1) (C := RX1) (T := TX1) (N := 4) [.null, .int 0, .int 0, .int 0] tyX1 hB hK hR rfl uw_X1 tyX1_ok k_cl_X6_9 k_in_X1 k_ini_X1 df_X1 (by decide) (by decide) dX6_init_51 (fun q6 => ?_)
  refine u_dup hB dX6_init_54 rfl ?_
  refine h3_callN hB hK hR lb_X1_init rfl (hK.2.2.2.1 (RX6, 31, yX1_init, "FormsAboveNought") (List.mem_of_getElem? (i := 8) rfl)) li_X1_init (n_X1 g X.1.2.1 q6) dX6_init_55 (Nat.le_of_ble_eq_true rfl) (by decide) (by decide) (by decide) (by decide) (fun a6 => ?_)
  refine h_ast1 (t0 := 2) (r := (RX1, TX1, 4)) hB hK rfl rfl rfl (by unfold vp_in; decide) dX6_init_58 ?_
  refine u_aload_n hB 0 dX6_init_59 rfl rfl ?_
  refine u_get (f := 1) hB hK rfl (by decide) fw_X6_17 uw_X6 rfl dX6_init_60 ?_
  refine u_iload_n hB 1 dX6_init_63 rfl rfl ?_
  refine h3_new (ci := 1) (C := RX1) (T := TX1) (N := 4) [.null, .int 0, .int 0, .int 0] tyX1 hB hK hR rfl uw_X1 tyX1_ok k_cl_X6_9 k_in_X1 k_ini_X1 df_X1 (by decide) (by decide) dX6_init_64 (fun q7 => ?_)
  refine u_dup hB dX6_init_67 rfl ?_
  refine h3_callN hB hK hR lb_X1_init rfl (hK.2.2.2.1 (RX6, 31, yX1_init, "FormsAboveNought") (List.mem_of_getElem? (i := 8) rfl)) li_X1_init (n_X1 g X.1.2.1 q7) dX6_init_68 (Nat.le_of_ble_eq_true rfl) (by decide) (by decide) (by decide) (by decide) (fun a7 => ?_)
  refine h_ast2 (t0 := 2) (r := (RX1, TX1, 4)) hB hK rfl rfl rfl (by unfold vp_in; decide) dX6_init_71 ?_
  refine u_iinc hB 2 [(0, .ref q0), (1, .int 2)] 1 [1, 0] dX6_init_72 rfl (by decide) (by decide) rfl ?_
  refine u_goto (tgt := 40) hB dX6_init_75 rfl ?_
  refine u_iload_n hB 1 dX6_init_40 rfl rfl ?_
  refine u_bipush hB 6 dX6_init_41 (by decide) ?_
  refine u_geN (tgt := 78) hB dX6_init_43 rfl (by decide) ?_
  refine u_aload_n hB 0 dX6_init_46 rfl rfl ?_
  refine u_get (f := 0) hB hK rfl (by decide) fw_X6_11 uw_X6 rfl dX6_init_47 ?_
  refine u_iload_n hB 1 dX6_init_50 rfl rfl ?_
  refine h3_new (ci := 1) (C := RX1) (T := TX1) (N := 4) [.null, .int 0, .int 0, .int 0] tyX1 hB hK hR rfl uw_X1 tyX1_ok k_cl_X6_9 k_in_X1 k_ini_X1 df_X1 (by decide) (by decide) dX6_init_51 (fun q8 => ?_)
  refine u_dup hB dX6_init_54 rfl ?_
  refine h3_callN hB hK hR lb_X1_init rfl (hK.2.2.2.1 (RX6, 31, yX1_init, "FormsAboveNought") (List.mem_of_getElem? (i := 8) rfl)) li_X1_init (n_X1 g X.1.2.1 q8) dX6_init_55 (Nat.le_of_ble_eq_true rfl) (by decide) (by decide) (by decide) (by decide) (fun a8 => ?_)
  refine h_ast1 (t0 := 2) (r := (RX1, TX1, 4)) hB hK rfl rfl rfl (by unfold vp_in; decide) dX6_init_58 ?_
  refine u_aload_n hB 0 dX6_init_59 rfl rfl ?_
  refine u_get (f := 1) hB hK rfl (by decide) fw_X6_17 uw_X6 rfl dX6_init_60 ?_
  refine u_iload_n hB 1 dX6_init_63 rfl rfl ?_
  refine h3_new (ci := 1) (C := RX1) (T := TX1) (N := 4) [.null, .int 0, .int 0, .int 0] tyX1 hB hK hR rfl uw_X1 tyX1_ok k_cl_X6_9 k_in_X1 k_ini_X1 df_X1 (by decide) (by decide) dX6_init_64 (fun q9 => ?_)
  refine u_dup hB dX6_init_67 rfl ?_
  refine h3_callN hB hK hR lb_X1_init rfl (hK.2.2.2.1 (RX6, 31, yX1_init, "FormsAboveNought") (List.mem_of_getElem? (i := 8) rfl)) li_X1_init (n_X1 g X.1.2.1 q9) dX6_init_68 (Nat.le_of_ble_eq_true rfl) (by decide) (by decide) (by decide) (by decide) (fun a9 => ?_)
  refine h_ast2 (t0 := 2) (r := (RX1, TX1, 4)) hB hK rfl rfl rfl (by unfold vp_in; decide) dX6_init_71 ?_
  refine u_iinc hB 3 [(0, .ref q0), (1, .int 3)] 1 [1, 0] dX6_init_72 rfl (by decide) (by decide) rfl ?_
  refine u_goto (tgt := 40) hB dX6_init_75 rfl ?_
  refine u_iload_n hB 1 dX6_init_40 rfl rfl ?_
  refine u_bipush hB 6 dX6_init_41 (by decide) ?_
  refine u_geN (tgt := 78) hB dX6_init_43 rfl (by decide) ?_
  refine u_aload_n hB 0 dX6_init_46 rfl rfl ?_
  refine u_get (f := 0) hB hK rfl (by decide) fw_X6_11 uw_X6 rfl dX6_init_47 ?_
  refine u_iload_n hB 1 dX6_init_50 rfl rfl ?_
  refine h3_new (ci := 1) (C := RX1) (T := TX1) (N := 4) [.null, .int 0, .int 0, .int 0] tyX1 hB hK hR rfl uw_X1 tyX1_ok k_cl_X6_9 k_in_X1 k_ini_X1 df_X1 (by decide) (by decide) dX6_init_51 (fun q10 => ?_)
  refine u_dup hB dX6_init_54 rfl ?_
  refine h3_callN hB hK hR lb_X1_init rfl (hK.2.2.2.1 (RX6, 31, yX1_init, "FormsAboveNought") (List.mem_of_getElem? (i := 8) rfl)) li_X1_init (n_X1 g X.1.2.1 q10) dX6_init_55 (Nat.le_of_ble_eq_true rfl) (by decide) (by decide) (by decide) (by decide) (fun a10 => ?_)
  refine h_ast1 (t0 := 2) (r := (RX1, TX1, 4)) hB hK rfl rfl rfl (by unfold vp_in; decide) dX6_init_58 ?_
  refine u_aload_n hB 0 dX6_init_59 rfl rfl ?_
  refine u_get (f := 1) hB hK rfl (by decide) fw_X6_17 uw_X6 rfl dX6_init_60 ?_
  refine u_iload_n hB 1 dX6_init_63 rfl rfl ?_
  refine h3_new (ci := 1) (C := RX1) (T := TX1) (N := 4) [.null, .int 0, .int 0, .int 0] tyX1 hB hK hR rfl uw_X1 tyX1_ok k_cl_X6_9 k_in_X1 k_ini_X1 df_X1 (by decide) (by decide) dX6_init_64 (fun q11 => ?_)
  refine u_dup hB dX6_init_67 rfl ?_
  refine h3_callN hB hK hR lb_X1_init rfl (hK.2.2.2.1 (RX6, 31, yX1_init, "FormsAboveNought") (List.mem_of_getElem? (i := 8) rfl)) li_X1_init (n_X1 g X.1.2.1 q11) dX6_init_68 (Nat.le_of_ble_eq_true rfl) (by decide) (by decide) (by decide) (by decide) (fun a11 => ?_)
  refine h_ast2 (t0 := 2) (r := (RX1, TX1, 4)) hB hK rfl rfl rfl (by unfold vp_in; decide) dX6_init_71 ?_
  refine u_iinc hB 4 [(0, .ref q0), (1, .int 4)] 1 [1, 0] dX6_init_72 rfl (by decide) (by decide) rfl ?_
  refine u_goto (tgt := 40) hB dX6_init_75 rfl ?_
  refine u_iload_n hB 1 dX6_init_40 rfl rfl ?_
  refine u_bipush hB 6 dX6_init_41 (by decide) ?_
  refine u_geN (tgt := 78) hB dX6_init_43 rfl (by decide) ?_
  refine u_aload_n hB 0 dX6_init_46 rfl rfl ?_
  refine u_get (f := 0) hB hK rfl (by decide) fw_X6_11 uw_X6 rfl dX6_init_47 ?_
  refine u_iload_n hB 1 dX6_init_50 rfl rfl ?_
  refine h3_new (ci := 1) (C := RX1) (T := TX1) (N := 4) [.null, .int 0, .int 0, .int 0] tyX1 hB hK hR rfl uw_X1 tyX1_ok k_cl_X6_9 k_in_X1 k_ini_X1 df_X1 (by decide) (by decide) dX6_init_51 (fun q12 => ?_)
  refine u_dup hB dX6_init_54 rfl ?_
  refine h3_callN hB hK hR lb_X1_init rfl (hK.2.2.2.1 (RX6, 31, yX1_init, "FormsAboveNought") (List.mem_of_getElem? (i := 8) rfl)) li_X1_init (n_X1 g X.1.2.1 q12) dX6_init_55 (Nat.le_of_ble_eq_true rfl) (by decide) (by decide) (by decide) (by decide) (fun a12 => ?_)
  refine h_ast1 (t0 := 2) (r := (RX1, TX1, 4)) hB hK rfl rfl rfl (by unfold vp_in; decide) dX6_init_58 ?_
  refine u_aload_n hB 0 dX6_init_59 rfl rfl ?_
  refine u_get (f := 1) hB hK rfl (by decide) fw_X6_17 uw_X6 rfl dX6_init_60 ?_
  refine u_iload_n hB 1 dX6_init_63 rfl rfl ?_
  refine h3_new (ci := 1) (C := RX1) (T := TX1) (N := 4) [.null, .int 0, .int 0, .int 0] tyX1 hB hK hR rfl uw_X1 tyX1_ok k_cl_X6_9 k_in_X1 k_ini_X1 df_X1 (by decide) (by decide) dX6_init_64 (fun q13 => ?_)
  refine u_dup hB dX6_init_67 rfl ?_
  refine h3_callN hB hK hR lb_X1_init rfl (hK.2.2.2.1 (RX6, 31, yX1_init, "FormsAboveNought") (List.mem_of_getElem? (i := 8) rfl)) li_X1_init (n_X1 g X.1.2.1 q13) dX6_init_68 (Nat.le_of_ble_eq_true rfl) (by decide) (by decide) (by decide) (by decide) (fun a13 => ?_)
  refine h_ast2 (t0 := 2) (r := (RX1, TX1, 4)) hB hK rfl rfl rfl (by unfold vp_in; decide) dX6_init_71 ?_
  refine u_iinc hB 5 [(0, .ref q0), (1, .int 5)] 1 [1, 0] dX6_init_72 rfl (by decide) (by decide) rfl ?_
  refine u_goto (tgt := 40) hB dX6_init_75 rfl ?_
  refine u_iload_n hB 1 dX6_init_40 rfl rfl ?_
  refine u_bipush hB 6 dX6_init_41 (by decide) ?_
  refine u_geN (tgt := 78) hB dX6_init_43 rfl (by decide) ?_
  refine u_aload_n hB 0 dX6_init_46 rfl rfl ?_
  refine u_get (f := 0) hB hK rfl (by decide) fw_X6_11 uw_X6 rfl dX6_init_47 ?_
  refine u_iload_n hB 1 dX6_init_50 rfl rfl ?_
  refine h3_new (ci := 1) (C := RX1) (T := TX1) (N := 4) [.null, .int 0, .int 0, .int 0] tyX1 hB hK hR rfl uw_X1 tyX1_ok k_cl_X6_9 k_in_X1 k_ini_X1 df_X1 (by decide) (by decide) dX6_init_51 (fun q14 => ?_)
  refine u_dup hB dX6_init_54 rfl ?_
  refine h3_callN hB hK hR lb_X1_init rfl (hK.2.2.2.1 (RX6, 31, yX1_init, "FormsAboveNought") (List.mem_of_getElem? (i := 8) rfl)) li_X1_init (n_X1 g X.1.2.1 q14) dX6_init_55 (Nat.le_of_ble_eq_true rfl) (by decide) (by decide) (by decide) (by decide) (fun a14 => ?_)
  refine h_ast1 (t0 := 2) (r := (RX1, TX1, 4)) hB hK rfl rfl rfl (by unfold vp_in; decide) dX6_init_58 ?_
  refine u_aload_n hB 0 dX6_init_59 rfl rfl ?_
  refine u_get (f := 1) hB hK rfl (by decide) fw_X6_17 uw_X6 rfl dX6_init_60 ?_
  refine u_iload_n hB 1 dX6_init_63 rfl rfl ?_
  refine h3_new (ci := 1) (C := RX1) (T := TX1) (N := 4) [.null, .int 0, .int 0, .int 0] tyX1 hB hK hR rfl uw_X1 tyX1_ok k_cl_X6_9 k_in_X1 k_ini_X1 df_X1 (by decide) (by decide) dX6_init_64 (fun q15 => ?_)
  refine u_dup hB dX6_init_67 rfl ?_
  refine h3_callN hB hK hR lb_X1_init rfl (hK.2.2.2.1 (RX6, 31, yX1_init, "FormsAboveNought") (List.mem_of_getElem? (i := 8) rfl)) li_X1_init (n_X1 g X.1.2.1 q15) dX6_init_68 (Nat.le_of_ble_eq_true rfl) (by decide) (by decide) (by decide) (by decide) (fun a15 => ?_)
  refine h_ast2 (t0 := 2) (r := (RX1, TX1, 4)) hB hK rfl rfl rfl (by unfold vp_in; decide) dX6_init_71 ?_
  refine u_iinc hB 6 [(0, .ref q0), (1, .int 6)] 1 [1, 0] dX6_init_72 rfl (by decide) (by decide) rfl ?_
  refine u_goto (tgt := 40) hB dX6_init_75 rfl ?_
  refine u_iload_n hB 1 dX6_init_40 rfl rfl ?_
  refine u_bipush hB 6 dX6_init_41 (by decide) ?_
  refine u_geY (tgt := 78) hB dX6_init_43 rfl (by decide) ?_
  exact u_vret (fun i => ([q1, q2, q3, a3 0, q4, a4 0, q5, a5 0, q6, a6 0, q7, a7 0, q8, a8 0, q9, a9 0, q10, a10 0, q11, a11 0, q12, a12 0, q13, a13 0, q14, a14 0, q15, a15 0] : List Nat).getD i 0) hB hK hR rfl (by decide) (by decide) dX6_init_78
theorem dX10_init_0 : decode cX10_init 0 = .ok (.aload_n 0, 1) := by decide +kernel
theorem dX10_init_1 : decode cX10_init 1 = .ok (.invokespecial 1, 3) := by decide +kernel
theorem dX10_init_4 : decode cX10_init 4 = .ok (.aload_n 0, 1) := by decide +kernel
theorem dX10_init_5 : decode cX10_init 5 = .ok (.new 7, 3) := by decide +kernel
theorem dX10_init_8 : decode cX10_init 8 = .ok (.dup, 1) := by decide +kernel
theorem dX10_init_9 : decode cX10_init 9 = .ok (.invokespecial 9, 3) := by decide +kernel
theorem dX10_init_12 : decode cX10_init 12 = .ok (.putfield 10, 3) := by decide +kernel
theorem dX10_init_15 : decode cX10_init 15 = .ok (.aload_n 0, 1) := by decide +kernel
theorem dX10_init_16 : decode cX10_init 16 = .ok (.new 16, 3) := by decide +kernel
theorem dX10_init_19 : decode cX10_init 19 = .ok (.dup, 1) := by decide +kernel
theorem dX10_init_20 : decode cX10_init 20 = .ok (.invokespecial 18, 3) := by decide +kernel
theorem dX10_init_23 : decode cX10_init 23 = .ok (.putfield 19, 3) := by decide +kernel
theorem dX10_init_26 : decode cX10_init 26 = .ok (.aload_n 0, 1) := by decide +kernel
theorem dX10_init_27 : decode cX10_init 27 = .ok (.new 23, 3) := by decide +kernel
theorem dX10_init_30 : decode cX10_init 30 = .ok (.dup, 1) := by decide +kernel
theorem dX10_init_31 : decode cX10_init 31 = .ok (.invokespecial 25, 3) := by decide +kernel
theorem dX10_init_34 : decode cX10_init 34 = .ok (.putfield 26, 3) := by decide +kernel
theorem dX10_init_37 : decode cX10_init 37 = .ok (.aload_n 0, 1) := by decide +kernel
theorem dX10_init_38 : decode cX10_init 38 = .ok (.new 30, 3) := by decide +kernel
theorem dX10_init_41 : decode cX10_init 41 = .ok (.dup, 1) := by decide +kernel
theorem dX10_init_42 : decode cX10_init 42 = .ok (.invokespecial 32, 3) := by decide +kernel
theorem dX10_init_45 : decode cX10_init 45 = .ok (.putfield 33, 3) := by decide +kernel
theorem dX10_init_48 : decode cX10_init 48 = .ok (.aload_n 0, 1) := by decide +kernel
theorem dX10_init_49 : decode cX10_init 49 = .ok (.new 37, 3) := by decide +kernel
theorem dX10_init_52 : decode cX10_init 52 = .ok (.dup, 1) := by decide +kernel
theorem dX10_init_53 : decode cX10_init 53 = .ok (.invokespecial 39, 3) := by decide +kernel
theorem dX10_init_56 : decode cX10_init 56 = .ok (.putfield 40, 3) := by decide +kernel
theorem dX10_init_59 : decode cX10_init 59 = .ok (.aload_n 0, 1) := by decide +kernel
theorem dX10_init_60 : decode cX10_init 60 = .ok (.new 44, 3) := by decide +kernel
theorem dX10_init_63 : decode cX10_init 63 = .ok (.dup, 1) := by decide +kernel
theorem dX10_init_64 : decode cX10_init 64 = .ok (.invokespecial 46, 3) := by decide +kernel
theorem dX10_init_67 : decode cX10_init 67 = .ok (.putfield 47, 3) := by decide +kernel
theorem dX10_init_70 : decode cX10_init 70 = .ok (.aload_n 0, 1) := by decide +kernel
theorem dX10_init_71 : decode cX10_init 71 = .ok (.new 51, 3) := by decide +kernel
theorem dX10_init_74 : decode cX10_init 74 = .ok (.dup, 1) := by decide +kernel
theorem dX10_init_75 : decode cX10_init 75 = .ok (.invokespecial 53, 3) := by decide +kernel
theorem dX10_init_78 : decode cX10_init 78 = .ok (.putfield 54, 3) := by decide +kernel
theorem dX10_init_81 : decode cX10_init 81 = .ok (.aload_n 0, 1) := by decide +kernel
theorem dX10_init_82 : decode cX10_init 82 = .ok (.new 58, 3) := by decide +kernel
theorem dX10_init_85 : decode cX10_init 85 = .ok (.dup, 1) := by decide +kernel
theorem dX10_init_86 : decode cX10_init 86 = .ok (.invokespecial 60, 3) := by decide +kernel
theorem dX10_init_89 : decode cX10_init 89 = .ok (.putfield 61, 3) := by decide +kernel
theorem dX10_init_92 : decode cX10_init 92 = .ok (.aload_n 0, 1) := by decide +kernel
theorem dX10_init_93 : decode cX10_init 93 = .ok (.bipush 7, 2) := by decide +kernel
theorem dX10_init_95 : decode cX10_init 95 = .ok (.newarray .int, 2) := by decide +kernel
theorem dX10_init_97 : decode cX10_init 97 = .ok (.putfield 65, 3) := by decide +kernel
theorem dX10_init_100 : decode cX10_init 100 = .ok (.return_, 1) := by decide +kernel
set_option maxRecDepth 8000 in
theorem k_lo_X10_1 : Cond.methodLink RX10 1 Lib.objectInit ∈ pq_G := pq_t1 19 rfl rfl
set_option maxRecDepth 8000 in
theorem ln_X10_9 : Cond.methodLink RX10 9 yX6_init ∈ pq_G := pq_t1 24 rfl rfl
set_option maxRecDepth 8000 in
theorem fw_X10_10 : Cond.fieldLink RX10 10 (TX10 0).1 (TX10 0).2.1 (TX10 0).2.2.1 ∈ pq_G := pq_t2 1 rfl rfl
set_option maxRecDepth 8000 in
theorem fw_X10_19 : Cond.fieldLink RX10 19 (TX10 1).1 (TX10 1).2.1 (TX10 1).2.2.1 ∈ pq_G := pq_t2 2 rfl rfl
set_option maxRecDepth 8000 in
theorem fw_X10_26 : Cond.fieldLink RX10 26 (TX10 2).1 (TX10 2).2.1 (TX10 2).2.2.1 ∈ pq_G := pq_t2 3 rfl rfl
set_option maxRecDepth 8000 in
theorem fw_X10_33 : Cond.fieldLink RX10 33 (TX10 3).1 (TX10 3).2.1 (TX10 3).2.2.1 ∈ pq_G := pq_t2 4 rfl rfl
set_option maxRecDepth 8000 in
theorem fw_X10_40 : Cond.fieldLink RX10 40 (TX10 4).1 (TX10 4).2.1 (TX10 4).2.2.1 ∈ pq_G := pq_t2 5 rfl rfl
set_option maxRecDepth 8000 in
theorem fw_X10_47 : Cond.fieldLink RX10 47 (TX10 5).1 (TX10 5).2.1 (TX10 5).2.2.1 ∈ pq_G := pq_t2 6 rfl rfl
set_option maxRecDepth 8000 in
theorem fw_X10_54 : Cond.fieldLink RX10 54 (TX10 6).1 (TX10 6).2.1 (TX10 6).2.2.1 ∈ pq_G := pq_t2 7 rfl rfl
set_option maxRecDepth 8000 in
theorem fw_X10_61 : Cond.fieldLink RX10 61 (TX10 7).1 (TX10 7).2.1 (TX10 7).2.2.1 ∈ pq_G := pq_t2 8 rfl rfl
set_option maxRecDepth 8000 in
theorem fw_X10_65 : Cond.fieldLink RX10 65 (TX10 8).1 (TX10 8).2.1 (TX10 8).2.2.1 ∈ pq_G := pq_t2 9 rfl rfl
def W_X10 (g : pq_g) (q0 : Nat) (a : Nat → Nat) : va_W := [(q0, .inr (10, [.ref (a 0), .ref (a 29), .ref (a 31), .ref (a 33), .ref (a 38), .ref (a 39), .ref (a 70), .ref (a 75), .ref (a 81)])), (a 0, .inr (6, [.ref ((a 1)), .ref ((a 2)), .ref ((a 3)), .int 0, .int (-1)])), (a 1, .inl (g.2.2.1 2, 6, .inr (.inr (.inr (.inr (va_up (va_up (va_up (va_up (va_up (va_up (fun _ => none) 0 (some ((a 5)))) 1 (some ((a 9)))) 2 (some ((a 13)))) 3 (some ((a 17)))) 4 (some ((a 21)))) 5 (some ((a 25))))))))), (a 2, .inl (g.2.2.1 2, 6, .inr (.inr (.inr (.inr (va_up (va_up (va_up (va_up (va_up (va_up (fun _ => none) 0 (some ((a 7)))) 1 (some ((a 11)))) 2 (some ((a 15)))) 3 (some ((a 19)))) 4 (some ((a 23)))) 5 (some ((a 27))))))))), (a 3, .inr (9, [.ref (((a 4))), .int 0])), (a 4, .inl (g.2.2.1 1, 190, .inr (.inl (fun _ => 0)))), (a 5, .inr (1, [.ref (((a 6))), .int 0, .int 0, .int 0])), (a 6, .inl (g.2.2.1 0, 28, .inl (fun _ => 0))), (a 7, .inr (1, [.ref (((a 8))), .int 0, .int 0, .int 0])), (a 8, .inl (g.2.2.1 0, 28, .inl (fun _ => 0))), (a 9, .inr (1, [.ref (((a 10))), .int 0, .int 0, .int 0])), (a 10, .inl (g.2.2.1 0, 28, .inl (fun _ => 0))), (a 11, .inr (1, [.ref (((a 12))), .int 0, .int 0, .int 0])), (a 12, .inl (g.2.2.1 0, 28, .inl (fun _ => 0))), (a 13, .inr (1, [.ref (((a 14))), .int 0, .int 0, .int 0])), (a 14, .inl (g.2.2.1 0, 28, .inl (fun _ => 0))), (a 15, .inr (1, [.ref (((a 16))), .int 0, .int 0, .int 0])), (a 16, .inl (g.2.2.1 0, 28, .inl (fun _ => 0))), (a 17, .inr (1, [.ref (((a 18))), .int 0, .int 0, .int 0])), (a 18, .inl (g.2.2.1 0, 28, .inl (fun _ => 0))), (a 19, .inr (1, [.ref (((a 20))), .int 0, .int 0, .int 0])), (a 20, .inl (g.2.2.1 0, 28, .inl (fun _ => 0))), (a 21, .inr (1, [.ref (((a 22))), .int 0, .int 0, .int 0])), (a 22, .inl (g.2.2.1 0, 28, .inl (fun _ => 0))), (a 23, .inr (1, [.ref (((a 24))), .int 0, .int 0, .int 0])), (a 24, .inl (g.2.2.1 0, 28, .inl (fun _ => 0))), (a 25, .inr (1, [.ref (((a 26))), .int 0, .int 0, .int 0])), (a 26, .inl (g.2.2.1 0, 28, .inl (fun _ => 0))), (a 27, .inr (1, [.ref (((a 28))), .int 0, .int 0, .int 0])), (a 28, .inl (g.2.2.1 0, 28, .inl (fun _ => 0))), (a 29, .inr (3, [.ref ((a 30)), .int 0])), (a 30, .inl (g.2.2.1 0, 72, .inl (fun _ => 0))), (a 31, .inr (2, [.ref ((a 32)), .null, .int 0, .int 0, .int 0])), (a 32, .inl (g.2.2.1 0, 3, .inl (fun _ => 0))), (a 33, .inr (0, [.ref ((a 34)), .ref ((a 35)), .ref ((a 36)), .ref ((a 37)), .int 0, .null, .int 0])), (a 34, .inl (g.2.2.1 0, 9, .inl (fun _ => 0))), (a 35, .inl (g.2.2.1 0, 9, .inl (fun _ => 0))), (a 36, .inl (g.2.2.1 0, 9, .inl (fun _ => 0))), (a 37, .inl (g.2.2.1 0, 9, .inl (fun _ => 0))), (a 38, .inr (7, [.int 0, .int 0, .int 0])), (a 39, .inr (5, [.ref ((a 40)), .ref ((a 69)), .int 0, .int 0])), (a 40, .inl (g.2.2.1 4, 28, .inr (.inr (.inr (.inr (fun i => if i < 28 then some (a (40 + (1 + i))) else none)))))), (a 41, .inl (g.2.2.1 1, 4, .inr (.inl (fun _ => 0)))), (a 42, .inl (g.2.2.1 1, 4, .inr (.inl (fun _ => 0)))), (a 43, .inl (g.2.2.1 1, 4, .inr (.inl (fun _ => 0)))), (a 44, .inl (g.2.2.1 1, 4, .inr (.inl (fun _ => 0)))), (a 45, .inl (g.2.2.1 1, 4, .inr (.inl (fun _ => 0)))), (a 46, .inl (g.2.2.1 1, 4, .inr (.inl (fun _ => 0)))), (a 47, .inl (g.2.2.1 1, 4, .inr (.inl (fun _ => 0)))), (a 48, .inl (g.2.2.1 1, 4, .inr (.inl (fun _ => 0)))), (a 49, .inl (g.2.2.1 1, 4, .inr (.inl (fun _ => 0)))), (a 50, .inl (g.2.2.1 1, 4, .inr (.inl (fun _ => 0)))), (a 51, .inl (g.2.2.1 1, 4, .inr (.inl (fun _ => 0)))), (a 52, .inl (g.2.2.1 1, 4, .inr (.inl (fun _ => 0)))), (a 53, .inl (g.2.2.1 1, 4, .inr (.inl (fun _ => 0)))), (a 54, .inl (g.2.2.1 1, 4, .inr (.inl (fun _ => 0)))), (a 55, .inl (g.2.2.1 1, 4, .inr (.inl (fun _ => 0)))), (a 56, .inl (g.2.2.1 1, 4, .inr (.inl (fun _ => 0)))), (a 57, .inl (g.2.2.1 1, 4, .inr (.inl (fun _ => 0)))), (a 58, .inl (g.2.2.1 1, 4, .inr (.inl (fun _ => 0)))), (a 59, .inl (g.2.2.1 1, 4, .inr (.inl (fun _ => 0)))), (a 60, .inl (g.2.2.1 1, 4, .inr (.inl (fun _ => 0)))), (a 61, .inl (g.2.2.1 1, 4, .inr (.inl (fun _ => 0)))), (a 62, .inl (g.2.2.1 1, 4, .inr (.inl (fun _ => 0)))), (a 63, .inl (g.2.2.1 1, 4, .inr (.inl (fun _ => 0)))), (a 64, .inl (g.2.2.1 1, 4, .inr (.inl (fun _ => 0)))), (a 65, .inl (g.2.2.1 1, 4, .inr (.inl (fun _ => 0)))), (a 66, .inl (g.2.2.1 1, 4, .inr (.inl (fun _ => 0)))), (a 67, .inl (g.2.2.1 1, 4, .inr (.inl (fun _ => 0)))), (a 68, .inl (g.2.2.1 1, 4, .inr (.inl (fun _ => 0)))), (a 69, .inl (g.2.2.1 0, 3, .inl (fun _ => 0))), (a 70, .inr (8, [.int 0, .ref ((a 71)), .ref ((a 72)), .ref ((a 73)), .ref ((a 74)), .int 0])), (a 71, .inl (g.2.2.1 0, 16, .inl (fun _ => 0))), (a 72, .inl (g.2.2.1 0, 16, .inl (fun _ => 0))), (a 73, .inl (g.2.2.1 0, 16, .inl (fun _ => 0))), (a 74, .inl (g.2.2.1 0, 16, .inl (fun _ => 0))), (a 75, .inr (4, [.ref ((a 76)), .ref ((a 80))])), (a 76, .inl (g.2.2.1 3, 3, .inr (.inr (.inr (.inr (fun i => if i < 3 then some (a (76 + (1 + i))) else none)))))), (a 77, .inl (g.2.2.1 0, 40, .inl (fun _ => 0))), (a 78, .inl (g.2.2.1 0, 40, .inl (fun _ => 0))), (a 79, .inl (g.2.2.1 0, 40, .inl (fun _ => 0))), (a 80, .inl (g.2.2.1 0, 3, .inl (upd (upd (upd (fun _ => 0) 0 (-1)) 1 (-1)) 2 (-1)))), (a 81, .inl (g.2.2.1 0, 7, .inl (fun _ => 0)))]
set_option maxRecDepth 8000 in
theorem lb_X10_init : pq_LB yX10_init cX10_init 1 none 0 := ⟨pq_t1 1 rfl rfl, pq_t1 18 rfl rfl, by decide +kernel, by decide +kernel, by decide +kernel⟩
set_option maxRecDepth 8000 in
theorem li_X10_init : Cond.instanceMethod yX10_init ∈ pq_G := pq_t1 17 rfl rfl
set_option maxRecDepth 100000 in
set_option maxHeartbeats 4000000 in
theorem n_X10 (g : pq_g) (l : Launch) (q0 : Nat) : pq_N (g.2.1, vwCl, pq_tys g) l yX10_init cX10_init 1 3 61 82 1073 q0 (.inr (10, [.null, .null, .null, .null, .null, .null, .null, .null, .null])) (W_X10 g q0) := by
  refine pq_metI l (own := RX10) 3 61 82 1073 q0 _ _ (by decide +kernel) rfl rfl (by decide) (fun X hXl hB hK hR => ?_)
  refine u_aload_n hB 0 dX10_init_0 rfl rfl ?_
  refine u_obj hB hR k_lo_X10_1 k_oi k_oc (by decide) (Nat.le_of_ble_eq_true rfl) dX10_init_1 ?_
  refine u_aload_n hB 0 dX10_init_4 rfl rfl ?_
  refine h_new (ci := 6) (C := RX6) (T := TX6) (N := 5) [.null, .null, .null, .int 0, .int 0] tyX6 hB hK hR rfl uw_X6 tyX6_ok k_cl_X10_7 k_in_X6 k_ini_X6 df_X6 (by decide) (by decide) dX10_init_5 (fun q1 => ?_)
  refine u_dup hB dX10_init_8 rfl ?_
  refine h_call hB hK hR lb_X6_init rfl ⟨ln_X10_9, li_X6_init⟩ (n_X6 g X.1.2.1 q1) dX10_init_9 (Nat.le_of_ble_eq_true rfl) (by decide) (by decide) (by decide) (by decide) (fun a1 => ?_)
  refine u_putF (f := 0) (ty := (.object "FormsAboveNought$Shelf")) tyX10 hB hK hR rfl (by decide) fw_X10_10 uw_X10 tyX10_ok nmX10 rfl rfl rfl rfl rfl (Nat.le_of_ble_eq_true rfl) dX10_init_12 ?_
  refine u_aload_n hB 0 dX10_init_15 rfl rfl ?_
  refine h_new (ci := 3) (C := RX3) (T := TX3) (N := 2) [.null, .int 0] tyX3 hB hK hR rfl uw_X3 tyX3_ok k_cl_X10_16 k_in_X3 k_ini_X3 df_X3 (by decide) (by decide) dX10_init_16 (fun q2 => ?_)
  refine u_dup hB dX10_init_19 rfl ?_
  refine h_callN hB hK hR lb_X3_init rfl (hK.2.2.2.1 (RX10, 18, yX3_init, "FormsAboveNought") (List.mem_of_getElem? (i := 0) rfl)) li_X3_init (n_X3 g X.1.2.1 q2) dX10_init_20 (Nat.le_of_ble_eq_true rfl) (by decide) (by decide) (by decide) (by decide) (fun a2 => ?_)
  refine u_putF (f := 1) (ty := (.object "FormsAboveNought$Letters")) tyX10 hB hK hR rfl (by decide) fw_X10_19 uw_X10 tyX10_ok nmX10 rfl rfl rfl rfl rfl (Nat.le_of_ble_eq_true rfl) dX10_init_23 ?_
  refine u_aload_n hB 0 dX10_init_26 rfl rfl ?_
  refine h_new (ci := 2) (C := RX2) (T := TX2) (N := 5) [.null, .null, .int 0, .int 0, .int 0] tyX2 hB hK hR rfl uw_X2 tyX2_ok k_cl_X10_23 k_in_X2 k_ini_X2 df_X2 (by decide) (by decide) dX10_init_27 (fun q3 => ?_)
  refine u_dup hB dX10_init_30 rfl ?_
  refine h_callN hB hK hR lb_X2_init rfl (hK.2.2.2.1 (RX10, 25, yX2_init, "FormsAboveNought") (List.mem_of_getElem? (i := 1) rfl)) li_X2_init (n_X2 g X.1.2.1 q3) dX10_init_31 (Nat.le_of_ble_eq_true rfl) (by decide) (by decide) (by decide) (by decide) (fun a3 => ?_)
  refine u_putF (f := 2) (ty := (.object "FormsAboveNought$FormReader")) tyX10 hB hK hR rfl (by decide) fw_X10_26 uw_X10 tyX10_ok nmX10 rfl rfl rfl rfl rfl (Nat.le_of_ble_eq_true rfl) dX10_init_34 ?_
  refine u_aload_n hB 0 dX10_init_37 rfl rfl ?_
  refine h_new (ci := 0) (C := RX0) (T := TX0) (N := 7) [.null, .null, .null, .null, .int 0, .null, .int 0] tyX0 hB hK hR rfl uw_X0 tyX0_ok k_cl_X10_30 k_in_X0 k_ini_X0 df_X0 (by decide) (by decide) dX10_init_38 (fun q4 => ?_)
  refine u_dup hB dX10_init_41 rfl ?_
  refine h_callN hB hK hR lb_X0_init rfl (hK.2.2.2.1 (RX10, 32, yX0_init, "FormsAboveNought") (List.mem_of_getElem? (i := 2) rfl)) li_X0_init (n_X0 g X.1.2.1 q4) dX10_init_42 (Nat.le_of_ble_eq_true rfl) (by decide) (by decide) (by decide) (by decide) (fun a4 => ?_)
  refine u_putF (f := 3) (ty := (.object "FormsAboveNought$ActReader")) tyX10 hB hK hR rfl (by decide) fw_X10_33 uw_X10 tyX10_ok nmX10 rfl rfl rfl rfl rfl (Nat.le_of_ble_eq_true rfl) dX10_init_45 ?_
  refine u_aload_n hB 0 dX10_init_48 rfl rfl ?_
  refine h_new (ci := 7) (C := RX7) (T := TX7) (N := 3) [.int 0, .int 0, .int 0] tyX7 hB hK hR rfl uw_X7 tyX7_ok k_cl_X10_37 k_in_X7 k_ini_X7 df_X7 (by decide) (by decide) dX10_init_49 (fun q5 => ?_)
  refine u_dup hB dX10_init_52 rfl ?_
  refine h_callN hB hK hR lb_X7_init rfl (hK.2.2.2.1 (RX10, 39, yX7_init, "FormsAboveNought") (List.mem_of_getElem? (i := 3) rfl)) li_X7_init (n_X7 g X.1.2.1 q5) dX10_init_53 (Nat.le_of_ble_eq_true rfl) (by decide) (by decide) (by decide) (by decide) (fun a5 => ?_)
  refine u_putF (f := 4) (ty := (.object "FormsAboveNought$Speller")) tyX10 hB hK hR rfl (by decide) fw_X10_40 uw_X10 tyX10_ok nmX10 rfl rfl rfl rfl rfl (Nat.le_of_ble_eq_true rfl) dX10_init_56 ?_
  refine u_aload_n hB 0 dX10_init_59 rfl rfl ?_
  refine h_new (ci := 5) (C := RX5) (T := TX5) (N := 4) [.null, .null, .int 0, .int 0] tyX5 hB hK hR rfl uw_X5 tyX5_ok k_cl_X10_44 k_in_X5 k_ini_X5 df_X5 (by decide) (by decide) dX10_init_60 (fun q6 => ?_)
  refine u_dup hB dX10_init_63 rfl ?_
  refine h_callN hB hK hR lb_X5_init rfl (hK.2.2.2.1 (RX10, 46, yX5_init, "FormsAboveNought") (List.mem_of_getElem? (i := 4) rfl)) li_X5_init (n_X5 g X.1.2.1 q6) dX10_init_64 (Nat.le_of_ble_eq_true rfl) (by decide) (by decide) (by decide) (by decide) (fun a6 => ?_)
  refine u_putF (f := 5) (ty := (.object "FormsAboveNought$Maker")) tyX10 hB hK hR rfl (by decide) fw_X10_47 uw_X10 tyX10_ok nmX10 rfl rfl rfl rfl rfl (Nat.le_of_ble_eq_true rfl) dX10_init_67 ?_
  refine u_aload_n hB 0 dX10_init_70 rfl rfl ?_
  refine h_new (ci := 8) (C := RX8) (T := TX8) (N := 6) [.int 0, .null, .null, .null, .null, .int 0] tyX8 hB hK hR rfl uw_X8 tyX8_ok k_cl_X10_51 k_in_X8 k_ini_X8 df_X8 (by decide) (by decide) dX10_init_71 (fun q7 => ?_)
  refine u_dup hB dX10_init_74 rfl ?_
  refine h_callN hB hK hR lb_X8_init rfl (hK.2.2.2.1 (RX10, 53, yX8_init, "FormsAboveNought") (List.mem_of_getElem? (i := 5) rfl)) li_X8_init (n_X8 g X.1.2.1 q7) dX10_init_75 (Nat.le_of_ble_eq_true rfl) (by decide) (by decide) (by decide) (by decide) (fun a7 => ?_)
  refine u_putF (f := 6) (ty := (.object "FormsAboveNought$UndoLog")) tyX10 hB hK hR rfl (by decide) fw_X10_54 uw_X10 tyX10_ok nmX10 rfl rfl rfl rfl rfl (Nat.le_of_ble_eq_true rfl) dX10_init_78 ?_
  refine u_aload_n hB 0 dX10_init_81 rfl rfl ?_
  refine h_new (ci := 4) (C := RX4) (T := TX4) (N := 2) [.null, .null] tyX4 hB hK hR rfl uw_X4 tyX4_ok k_cl_X10_58 k_in_X4 k_ini_X4 df_X4 (by decide) (by decide) dX10_init_82 (fun q8 => ?_)
  refine u_dup hB dX10_init_85 rfl ?_
  refine h_callN hB hK hR lb_X4_init rfl (hK.2.2.2.1 (RX10, 60, yX4_init, "FormsAboveNought") (List.mem_of_getElem? (i := 6) rfl)) li_X4_init (n_X4 g X.1.2.1 q8) dX10_init_86 (Nat.le_of_ble_eq_true rfl) (by decide) (by decide) (by decide) (by decide) (fun a8 => ?_)
  refine u_putF (f := 7) (ty := (.object "FormsAboveNought$Lists")) tyX10 hB hK hR rfl (by decide) fw_X10_61 uw_X10 tyX10_ok nmX10 rfl rfl rfl rfl rfl (Nat.le_of_ble_eq_true rfl) dX10_init_89 ?_
  refine u_aload_n hB 0 dX10_init_92 rfl rfl ?_
  refine u_bipush hB 7 dX10_init_93 (by decide) ?_
  refine h_newi (t0 := 0) (cA := g.2.2.1 0) hB hK hR rfl k_ac_int 7 (by decide) (by decide) (by decide) (by decide) (by decide) dX10_init_95 (fun q9 => ?_)
  refine u_putF (f := 8) (ty := (.array .int)) tyX10 hB hK hR rfl (by decide) fw_X10_65 uw_X10 tyX10_ok nmX10 rfl rfl rfl rfl rfl (Nat.le_of_ble_eq_true rfl) dX10_init_97 ?_
  exact u_vret (fun i => (if i < 1 then q1 else (if i < 29 then a1 (i - 1) else (if i < 30 then q2 else (if i < 31 then a2 (i - 30) else (if i < 32 then q3 else (if i < 33 then a3 (i - 32) else (if i < 34 then q4 else (if i < 38 then a4 (i - 34) else (if i < 39 then q5 else (if i < 40 then q6 else (if i < 70 then a6 (i - 40) else (if i < 71 then q7 else (if i < 75 then a7 (i - 71) else (if i < 76 then q8 else (if i < 81 then a8 (i - 76) else (if i < 82 then q9 else 0))))))))))))))))) hB hK hR (by
    rw [we_X5 (g := g) (q0 := q6) (a := a6) (a2 := fun k => (fun i => (if i < 1 then q1 else (if i < 29 then a1 (i - 1) else (if i < 30 then q2 else (if i < 31 then a2 (i - 30) else (if i < 32 then q3 else (if i < 33 then a3 (i - 32) else (if i < 34 then q4 else (if i < 38 then a4 (i - 34) else (if i < 39 then q5 else (if i < 40 then q6 else (if i < 70 then a6 (i - 40) else (if i < 71 then q7 else (if i < 75 then a7 (i - 71) else (if i < 76 then q8 else (if i < 81 then a8 (i - 76) else (if i < 82 then q9 else 0))))))))))))))))) (40 + k)) (fun k hk => by
      show a6 k = (if 40 + k < 1 then q1 else (if 40 + k < 29 then a1 ((40 + k) - 1) else (if 40 + k < 30 then q2 else (if 40 + k < 31 then a2 ((40 + k) - 30) else (if 40 + k < 32 then q3 else (if 40 + k < 33 then a3 ((40 + k) - 32) else (if 40 + k < 34 then q4 else (if 40 + k < 38 then a4 ((40 + k) - 34) else (if 40 + k < 39 then q5 else (if 40 + k < 40 then q6 else (if 40 + k < 70 then a6 ((40 + k) - 40) else (if 40 + k < 71 then q7 else (if 40 + k < 75 then a7 ((40 + k) - 71) else (if 40 + k < 76 then q8 else (if 40 + k < 81 then a8 ((40 + k) - 76) else (if 40 + k < 82 then q9 else 0))))))))))))))))
      rw [if_neg (show ¬ 40 + k < 1 by omega)]; rw [if_neg (show ¬ 40 + k < 29 by omega)]; rw [if_neg (show ¬ 40 + k < 30 by omega)]; rw [if_neg (show ¬ 40 + k < 31 by omega)]; rw [if_neg (show ¬ 40 + k < 32 by omega)]; rw [if_neg (show ¬ 40 + k < 33 by omega)]; rw [if_neg (show ¬ 40 + k < 34 by omega)]; rw [if_neg (show ¬ 40 + k < 38 by omega)]; rw [if_neg (show ¬ 40 + k < 39 by omega)]; rw [if_neg (show ¬ 40 + k < 40 by omega)]; rw [if_pos (show 40 + k < 70 by omega)]
      congr 1; omega)]
    rw [we_X4 (g := g) (q0 := q8) (a := a8) (a2 := fun k => (fun i => (if i < 1 then q1 else (if i < 29 then a1 (i - 1) else (if i < 30 then q2 else (if i < 31 then a2 (i - 30) else (if i < 32 then q3 else (if i < 33 then a3 (i - 32) else (if i < 34 then q4 else (if i < 38 then a4 (i - 34) else (if i < 39 then q5 else (if i < 40 then q6 else (if i < 70 then a6 (i - 40) else (if i < 71 then q7 else (if i < 75 then a7 (i - 71) else (if i < 76 then q8 else (if i < 81 then a8 (i - 76) else (if i < 82 then q9 else 0))))))))))))))))) (76 + k)) (fun k hk => by
      show a8 k = (if 76 + k < 1 then q1 else (if 76 + k < 29 then a1 ((76 + k) - 1) else (if 76 + k < 30 then q2 else (if 76 + k < 31 then a2 ((76 + k) - 30) else (if 76 + k < 32 then q3 else (if 76 + k < 33 then a3 ((76 + k) - 32) else (if 76 + k < 34 then q4 else (if 76 + k < 38 then a4 ((76 + k) - 34) else (if 76 + k < 39 then q5 else (if 76 + k < 40 then q6 else (if 76 + k < 70 then a6 ((76 + k) - 40) else (if 76 + k < 71 then q7 else (if 76 + k < 75 then a7 ((76 + k) - 71) else (if 76 + k < 76 then q8 else (if 76 + k < 81 then a8 ((76 + k) - 76) else (if 76 + k < 82 then q9 else 0))))))))))))))))
      rw [if_neg (show ¬ 76 + k < 1 by omega)]; rw [if_neg (show ¬ 76 + k < 29 by omega)]; rw [if_neg (show ¬ 76 + k < 30 by omega)]; rw [if_neg (show ¬ 76 + k < 31 by omega)]; rw [if_neg (show ¬ 76 + k < 32 by omega)]; rw [if_neg (show ¬ 76 + k < 33 by omega)]; rw [if_neg (show ¬ 76 + k < 34 by omega)]; rw [if_neg (show ¬ 76 + k < 38 by omega)]; rw [if_neg (show ¬ 76 + k < 39 by omega)]; rw [if_neg (show ¬ 76 + k < 40 by omega)]; rw [if_neg (show ¬ 76 + k < 70 by omega)]; rw [if_neg (show ¬ 76 + k < 71 by omega)]; rw [if_neg (show ¬ 76 + k < 75 by omega)]; rw [if_neg (show ¬ 76 + k < 76 by omega)]; rw [if_pos (show 76 + k < 81 by omega)]
      congr 1; omega)]
    rfl) (by decide) (by decide) dX10_init_100
