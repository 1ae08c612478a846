theorem dX11_init_0 : decode cX11_init 0 = .ok (.aload_n 0, 1) := by decide +kernel
theorem dX11_init_1 : decode cX11_init 1 = .ok (.invokespecial 21, 3) := by decide +kernel
theorem dX11_init_4 : decode cX11_init 4 = .ok (.aload_n 0, 1) := by decide +kernel
theorem dX11_init_5 : decode cX11_init 5 = .ok (.bipush 7, 2) := by decide +kernel
theorem dX11_init_7 : decode cX11_init 7 = .ok (.newarray .int, 2) := by decide +kernel
theorem dX11_init_9 : decode cX11_init 9 = .ok (.putfield 1, 3) := by decide +kernel
theorem dX11_init_12 : decode cX11_init 12 = .ok (.aload_n 0, 1) := by decide +kernel
theorem dX11_init_13 : decode cX11_init 13 = .ok (.sipush 168, 3) := by decide +kernel
theorem dX11_init_16 : decode cX11_init 16 = .ok (.newarray .int, 2) := by decide +kernel
theorem dX11_init_18 : decode cX11_init 18 = .ok (.putfield 27, 3) := by decide +kernel
theorem dX11_init_21 : decode cX11_init 21 = .ok (.aload_n 0, 1) := by decide +kernel
theorem dX11_init_22 : decode cX11_init 22 = .ok (.bipush 6, 2) := by decide +kernel
theorem dX11_init_24 : decode cX11_init 24 = .ok (.newarray .int, 2) := by decide +kernel
theorem dX11_init_26 : decode cX11_init 26 = .ok (.putfield 30, 3) := by decide +kernel
theorem dX11_init_29 : decode cX11_init 29 = .ok (.aload_n 0, 1) := by decide +kernel
theorem dX11_init_30 : decode cX11_init 30 = .ok (.bipush 6, 2) := by decide +kernel
theorem dX11_init_32 : decode cX11_init 32 = .ok (.newarray .int, 2) := by decide +kernel
theorem dX11_init_34 : decode cX11_init 34 = .ok (.putfield 33, 3) := by decide +kernel
theorem dX11_init_37 : decode cX11_init 37 = .ok (.aload_n 0, 1) := by decide +kernel
theorem dX11_init_38 : decode cX11_init 38 = .ok (.bipush 6, 2) := by decide +kernel
theorem dX11_init_40 : decode cX11_init 40 = .ok (.newarray .int, 2) := by decide +kernel
theorem dX11_init_42 : decode cX11_init 42 = .ok (.putfield 36, 3) := by decide +kernel
theorem dX11_init_45 : decode cX11_init 45 = .ok (.aload_n 0, 1) := by decide +kernel
theorem dX11_init_46 : decode cX11_init 46 = .ok (.bipush 16, 2) := by decide +kernel
theorem dX11_init_48 : decode cX11_init 48 = .ok (.newarray .int, 2) := by decide +kernel
theorem dX11_init_50 : decode cX11_init 50 = .ok (.putfield 39, 3) := by decide +kernel
theorem dX11_init_53 : decode cX11_init 53 = .ok (.aload_n 0, 1) := by decide +kernel
theorem dX11_init_54 : decode cX11_init 54 = .ok (.bipush 16, 2) := by decide +kernel
theorem dX11_init_56 : decode cX11_init 56 = .ok (.newarray .int, 2) := by decide +kernel
theorem dX11_init_58 : decode cX11_init 58 = .ok (.putfield 42, 3) := by decide +kernel
theorem dX11_init_61 : decode cX11_init 61 = .ok (.aload_n 0, 1) := by decide +kernel
theorem dX11_init_62 : decode cX11_init 62 = .ok (.bipush 28, 2) := by decide +kernel
theorem dX11_init_64 : decode cX11_init 64 = .ok (.newarray .long, 2) := by decide +kernel
theorem dX11_init_66 : decode cX11_init 66 = .ok (.putfield 45, 3) := by decide +kernel
theorem dX11_init_69 : decode cX11_init 69 = .ok (.aload_n 0, 1) := by decide +kernel
theorem dX11_init_70 : decode cX11_init 70 = .ok (.bipush 72, 2) := by decide +kernel
theorem dX11_init_72 : decode cX11_init 72 = .ok (.newarray .int, 2) := by decide +kernel
theorem dX11_init_74 : decode cX11_init 74 = .ok (.putfield 49, 3) := by decide +kernel
theorem dX11_init_77 : decode cX11_init 77 = .ok (.aload_n 0, 1) := by decide +kernel
theorem dX11_init_78 : decode cX11_init 78 = .ok (.iconst 3, 1) := by decide +kernel
theorem dX11_init_79 : decode cX11_init 79 = .ok (.newarray .int, 2) := by decide +kernel
theorem dX11_init_81 : decode cX11_init 81 = .ok (.putfield 52, 3) := by decide +kernel
theorem dX11_init_84 : decode cX11_init 84 = .ok (.aload_n 0, 1) := by decide +kernel
theorem dX11_init_85 : decode cX11_init 85 = .ok (.bipush 16, 2) := by decide +kernel
theorem dX11_init_87 : decode cX11_init 87 = .ok (.newarray .int, 2) := by decide +kernel
theorem dX11_init_89 : decode cX11_init 89 = .ok (.putfield 55, 3) := by decide +kernel
theorem dX11_init_92 : decode cX11_init 92 = .ok (.aload_n 0, 1) := by decide +kernel
theorem dX11_init_93 : decode cX11_init 93 = .ok (.bipush 16, 2) := by decide +kernel
theorem dX11_init_95 : decode cX11_init 95 = .ok (.newarray .int, 2) := by decide +kernel
theorem dX11_init_97 : decode cX11_init 97 = .ok (.putfield 58, 3) := by decide +kernel
theorem dX11_init_100 : decode cX11_init 100 = .ok (.aload_n 0, 1) := by decide +kernel
theorem dX11_init_101 : decode cX11_init 101 = .ok (.bipush 16, 2) := by decide +kernel
theorem dX11_init_103 : decode cX11_init 103 = .ok (.newarray .int, 2) := by decide +kernel
theorem dX11_init_105 : decode cX11_init 105 = .ok (.putfield 61, 3) := by decide +kernel
theorem dX11_init_108 : decode cX11_init 108 = .ok (.aload_n 0, 1) := by decide +kernel
theorem dX11_init_109 : decode cX11_init 109 = .ok (.bipush 16, 2) := by decide +kernel
theorem dX11_init_111 : decode cX11_init 111 = .ok (.newarray .int, 2) := by decide +kernel
theorem dX11_init_113 : decode cX11_init 113 = .ok (.putfield 64, 3) := by decide +kernel
theorem dX11_init_116 : decode cX11_init 116 = .ok (.aload_n 0, 1) := by decide +kernel
theorem dX11_init_117 : decode cX11_init 117 = .ok (.sipush 190, 3) := by decide +kernel
theorem dX11_init_120 : decode cX11_init 120 = .ok (.newarray .long, 2) := by decide +kernel
theorem dX11_init_122 : decode cX11_init 122 = .ok (.putfield 67, 3) := by decide +kernel
theorem dX11_init_125 : decode cX11_init 125 = .ok (.aload_n 0, 1) := by decide +kernel
theorem dX11_init_126 : decode cX11_init 126 = .ok (.sipush 190, 3) := by decide +kernel
theorem dX11_init_129 : decode cX11_init 129 = .ok (.newarray .long, 2) := by decide +kernel
theorem dX11_init_131 : decode cX11_init 131 = .ok (.putfield 70, 3) := by decide +kernel
theorem dX11_init_134 : decode cX11_init 134 = .ok (.aload_n 0, 1) := by decide +kernel
theorem dX11_init_135 : decode cX11_init 135 = .ok (.bipush 112, 2) := by decide +kernel
theorem dX11_init_137 : decode cX11_init 137 = .ok (.newarray .int, 2) := by decide +kernel
theorem dX11_init_139 : decode cX11_init 139 = .ok (.putfield 73, 3) := by decide +kernel
theorem dX11_init_142 : decode cX11_init 142 = .ok (.aload_n 0, 1) := by decide +kernel
theorem dX11_init_143 : decode cX11_init 143 = .ok (.iconst 3, 1) := by decide +kernel
theorem dX11_init_144 : decode cX11_init 144 = .ok (.newarray .int, 2) := by decide +kernel
theorem dX11_init_146 : decode cX11_init 146 = .ok (.putfield 76, 3) := by decide +kernel
theorem dX11_init_149 : decode cX11_init 149 = .ok (.aload_n 0, 1) := by decide +kernel
theorem dX11_init_150 : decode cX11_init 150 = .ok (.sipush 500, 3) := by decide +kernel
theorem dX11_init_153 : decode cX11_init 153 = .ok (.newarray .int, 2) := by decide +kernel
theorem dX11_init_155 : decode cX11_init 155 = .ok (.putfield 79, 3) := by decide +kernel
theorem dX11_init_158 : decode cX11_init 158 = .ok (.aload_n 0, 1) := by decide +kernel
theorem dX11_init_159 : decode cX11_init 159 = .ok (.iconst 3, 1) := by decide +kernel
theorem dX11_init_160 : decode cX11_init 160 = .ok (.newarray .int, 2) := by decide +kernel
theorem dX11_init_162 : decode cX11_init 162 = .ok (.putfield 82, 3) := by decide +kernel
theorem dX11_init_165 : decode cX11_init 165 = .ok (.aload_n 0, 1) := by decide +kernel
theorem dX11_init_166 : decode cX11_init 166 = .ok (.bipush 120, 2) := by decide +kernel
theorem dX11_init_168 : decode cX11_init 168 = .ok (.newarray .int, 2) := by decide +kernel
theorem dX11_init_170 : decode cX11_init 170 = .ok (.putfield 85, 3) := by decide +kernel
theorem dX11_init_173 : decode cX11_init 173 = .ok (.aload_n 0, 1) := by decide +kernel
theorem dX11_init_174 : decode cX11_init 174 = .ok (.sipush 190, 3) := by decide +kernel
theorem dX11_init_177 : decode cX11_init 177 = .ok (.newarray .int, 2) := by decide +kernel
theorem dX11_init_179 : decode cX11_init 179 = .ok (.putfield 88, 3) := by decide +kernel
theorem dX11_init_182 : decode cX11_init 182 = .ok (.aload_n 0, 1) := by decide +kernel
theorem dX11_init_183 : decode cX11_init 183 = .ok (.bipush (-9), 2) := by decide +kernel
theorem dX11_init_185 : decode cX11_init 185 = .ok (.putfield 91, 3) := by decide +kernel
theorem dX11_init_188 : decode cX11_init 188 = .ok (.iconst 0, 1) := by decide +kernel
theorem dX11_init_189 : decode cX11_init 189 = .ok (.istore_n 1, 1) := by decide +kernel
theorem dX11_init_190 : decode cX11_init 190 = .ok (.iload_n 1, 1) := by decide +kernel
theorem dX11_init_191 : decode cX11_init 191 = .ok (.iconst 3, 1) := by decide +kernel
theorem dX11_init_192 : decode cX11_init 192 = .ok (.if_icmp .ge 17, 3) := by decide +kernel
theorem dX11_init_195 : decode cX11_init 195 = .ok (.aload_n 0, 1) := by decide +kernel
theorem dX11_init_196 : decode cX11_init 196 = .ok (.getfield 82, 3) := by decide +kernel
theorem dX11_init_199 : decode cX11_init 199 = .ok (.iload_n 1, 1) := by decide +kernel
theorem dX11_init_200 : decode cX11_init 200 = .ok (.bipush (-9), 2) := by decide +kernel
theorem dX11_init_202 : decode cX11_init 202 = .ok (.iastore, 1) := by decide +kernel
theorem dX11_init_203 : decode cX11_init 203 = .ok (.iinc 1 1, 3) := by decide +kernel
theorem dX11_init_206 : decode cX11_init 206 = .ok (.goto (-16), 3) := by decide +kernel
theorem dX11_init_209 : decode cX11_init 209 = .ok (.return_, 1) := by decide +kernel
set_option maxRecDepth 8000 in
theorem k_lo_X11_21 : Cond.methodLink RX11 21 Lib.objectInit ∈ pq_G := pq_t4 199 rfl rfl
set_option maxRecDepth 8000 in
theorem fw_X11_1 : Cond.fieldLink RX11 1 (TX11 0).1 (TX11 0).2.1 (TX11 0).2.2.1 ∈ pq_G := pq_t4 200 rfl rfl
set_option maxRecDepth 8000 in
theorem fw_X11_27 : Cond.fieldLink RX11 27 (TX11 1).1 (TX11 1).2.1 (TX11 1).2.2.1 ∈ pq_G := pq_t4 201 rfl rfl
set_option maxRecDepth 8000 in
theorem fw_X11_30 : Cond.fieldLink RX11 30 (TX11 2).1 (TX11 2).2.1 (TX11 2).2.2.1 ∈ pq_G := pq_t4 202 rfl rfl
set_option maxRecDepth 8000 in
theorem fw_X11_33 : Cond.fieldLink RX11 33 (TX11 3).1 (TX11 3).2.1 (TX11 3).2.2.1 ∈ pq_G := pq_t4 203 rfl rfl
set_option maxRecDepth 8000 in
theorem fw_X11_36 : Cond.fieldLink RX11 36 (TX11 4).1 (TX11 4).2.1 (TX11 4).2.2.1 ∈ pq_G := pq_t4 204 rfl rfl
set_option maxRecDepth 8000 in
theorem fw_X11_39 : Cond.fieldLink RX11 39 (TX11 6).1 (TX11 6).2.1 (TX11 6).2.2.1 ∈ pq_G := pq_t4 206 rfl rfl
set_option maxRecDepth 8000 in
theorem fw_X11_42 : Cond.fieldLink RX11 42 (TX11 7).1 (TX11 7).2.1 (TX11 7).2.2.1 ∈ pq_G := pq_t4 207 rfl rfl
set_option maxRecDepth 8000 in
theorem fw_X11_45 : Cond.fieldLink RX11 45 (TX11 9).1 (TX11 9).2.1 (TX11 9).2.2.1 ∈ pq_G := pq_t4 209 rfl rfl
set_option maxRecDepth 8000 in
theorem fw_X11_49 : Cond.fieldLink RX11 49 (TX11 10).1 (TX11 10).2.1 (TX11 10).2.2.1 ∈ pq_G := pq_t4 210 rfl rfl
set_option maxRecDepth 8000 in
theorem fw_X11_52 : Cond.fieldLink RX11 52 (TX11 13).1 (TX11 13).2.1 (TX11 13).2.2.1 ∈ pq_G := pq_t4 213 rfl rfl
set_option maxRecDepth 8000 in
theorem fw_X11_55 : Cond.fieldLink RX11 55 (TX11 14).1 (TX11 14).2.1 (TX11 14).2.2.1 ∈ pq_G := pq_t4 214 rfl rfl
set_option maxRecDepth 8000 in
theorem fw_X11_58 : Cond.fieldLink RX11 58 (TX11 15).1 (TX11 15).2.1 (TX11 15).2.2.1 ∈ pq_G := pq_t4 215 rfl rfl
set_option maxRecDepth 8000 in
theorem fw_X11_61 : Cond.fieldLink RX11 61 (TX11 16).1 (TX11 16).2.1 (TX11 16).2.2.1 ∈ pq_G := pq_t4 216 rfl rfl
set_option maxRecDepth 8000 in
theorem fw_X11_64 : Cond.fieldLink RX11 64 (TX11 17).1 (TX11 17).2.1 (TX11 17).2.2.1 ∈ pq_G := pq_t4 217 rfl rfl
set_option maxRecDepth 8000 in
theorem fw_X11_67 : Cond.fieldLink RX11 67 (TX11 19).1 (TX11 19).2.1 (TX11 19).2.2.1 ∈ pq_G := pq_t4 219 rfl rfl
set_option maxRecDepth 8000 in
theorem fw_X11_70 : Cond.fieldLink RX11 70 (TX11 20).1 (TX11 20).2.1 (TX11 20).2.2.1 ∈ pq_G := pq_t4 220 rfl rfl
set_option maxRecDepth 8000 in
theorem fw_X11_73 : Cond.fieldLink RX11 73 (TX11 29).1 (TX11 29).2.1 (TX11 29).2.2.1 ∈ pq_G := pq_t4 229 rfl rfl
set_option maxRecDepth 8000 in
theorem fw_X11_76 : Cond.fieldLink RX11 76 (TX11 30).1 (TX11 30).2.1 (TX11 30).2.2.1 ∈ pq_G := pq_t4 230 rfl rfl
set_option maxRecDepth 8000 in
theorem fw_X11_79 : Cond.fieldLink RX11 79 (TX11 35).1 (TX11 35).2.1 (TX11 35).2.2.1 ∈ pq_G := pq_t4 235 rfl rfl
set_option maxRecDepth 8000 in
theorem fw_X11_82 : Cond.fieldLink RX11 82 (TX11 38).1 (TX11 38).2.1 (TX11 38).2.2.1 ∈ pq_G := pq_t4 238 rfl rfl
set_option maxRecDepth 8000 in
theorem fw_X11_85 : Cond.fieldLink RX11 85 (TX11 39).1 (TX11 39).2.1 (TX11 39).2.2.1 ∈ pq_G := pq_t4 239 rfl rfl
set_option maxRecDepth 8000 in
theorem fw_X11_88 : Cond.fieldLink RX11 88 (TX11 40).1 (TX11 40).2.1 (TX11 40).2.2.1 ∈ pq_G := pq_t5 0 rfl rfl
set_option maxRecDepth 8000 in
theorem fw_X11_91 : Cond.fieldLink RX11 91 (TX11 42).1 (TX11 42).2.1 (TX11 42).2.2.1 ∈ pq_G := pq_t5 2 rfl rfl
def W_X11 (g : pq_g) (q0 : Nat) (a : Nat → Nat) : va_W := [(q0, .inr (11, [.ref (a 0), .ref (a 1), .ref (a 2), .ref (a 3), .ref (a 4), .int 0, .ref (a 5), .ref (a 6), .int 0, .ref (a 7), .ref (a 8), .int 0, .int 0, .ref (a 9), .ref (a 10), .ref (a 11), .ref (a 12), .ref (a 13), .int 0, .ref (a 14), .ref (a 15), .int 0, .int 0, .int 0, .int 0, .int 0, .int 0, .int 0, .long 0, .ref (a 16), .ref (a 17), .int 0, .int 0, .int 0, .int 0, .ref (a 18), .int 0, .int 0, .ref (a 19), .ref (a 20), .ref (a 21), .int 0, .int (-9), .int 0])), (a 0, .inl (g.2.2.1 0, 7, .inl (fun _ => 0))), (a 1, .inl (g.2.2.1 0, 168, .inl (fun _ => 0))), (a 2, .inl (g.2.2.1 0, 6, .inl (fun _ => 0))), (a 3, .inl (g.2.2.1 0, 6, .inl (fun _ => 0))), (a 4, .inl (g.2.2.1 0, 6, .inl (fun _ => 0))), (a 5, .inl (g.2.2.1 0, 16, .inl (fun _ => 0))), (a 6, .inl (g.2.2.1 0, 16, .inl (fun _ => 0))), (a 7, .inl (g.2.2.1 1, 28, .inr (.inl (fun _ => 0)))), (a 8, .inl (g.2.2.1 0, 72, .inl (fun _ => 0))), (a 9, .inl (g.2.2.1 0, 3, .inl (fun _ => 0))), (a 10, .inl (g.2.2.1 0, 16, .inl (fun _ => 0))), (a 11, .inl (g.2.2.1 0, 16, .inl (fun _ => 0))), (a 12, .inl (g.2.2.1 0, 16, .inl (fun _ => 0))), (a 13, .inl (g.2.2.1 0, 16, .inl (fun _ => 0))), (a 14, .inl (g.2.2.1 1, 190, .inr (.inl (fun _ => 0)))), (a 15, .inl (g.2.2.1 1, 190, .inr (.inl (fun _ => 0)))), (a 16, .inl (g.2.2.1 0, 112, .inl (fun _ => 0))), (a 17, .inl (g.2.2.1 0, 3, .inl (fun _ => 0))), (a 18, .inl (g.2.2.1 0, 500, .inl (fun _ => 0))), (a 19, .inl (g.2.2.1 0, 3, .inl (upd (upd (upd (fun _ => 0) 0 (-9)) 1 (-9)) 2 (-9)))), (a 20, .inl (g.2.2.1 0, 120, .inl (fun _ => 0))), (a 21, .inl (g.2.2.1 0, 190, .inl (fun _ => 0)))]
set_option maxRecDepth 8000 in
theorem lb_X11_init : pq_LB yX11_init cX11_init 2 none 0 := ⟨pq_t1 12 rfl rfl, pq_t4 198 rfl rfl, by decide +kernel, by decide +kernel, by decide +kernel⟩
set_option maxRecDepth 8000 in
theorem li_X11_init : Cond.instanceMethod yX11_init ∈ pq_G := pq_t4 197 rfl rfl
set_option maxRecDepth 100000 in
set_option maxHeartbeats 4000000 in
theorem n_X11 (g : pq_g) (l : Launch) (q0 : Nat) : pq_N (g.2.1, vwCl, pq_tys g) l yX11_init cX11_init 2 1 20 22 1700 q0 (.inr (11, [.null, .null, .null, .null, .null, .int 0, .null, .null, .int 0, .null, .null, .int 0, .int 0, .null, .null, .null, .null, .null, .int 0, .null, .null, .int 0, .int 0, .int 0, .int 0, .int 0, .int 0, .int 0, .long 0, .null, .null, .int 0, .int 0, .int 0, .int 0, .null, .int 0, .int 0, .null, .null, .null, .int 0, .int 0, .int 0])) (W_X11 g q0) := by
  refine pq_metI l (own := RX11) 1 20 22 1700 q0 _ _ (by decide +kernel) rfl rfl (by decide) (fun X hXl hB hK hR => ?_)
  refine u_aload_n hB 0 dX11_init_0 rfl rfl ?_
  refine u_obj hB hR k_lo_X11_21 k_oi k_oc (by decide) (Nat.le_of_ble_eq_true rfl) dX11_init_1 ?_
  refine u_aload_n hB 0 dX11_init_4 rfl rfl ?_
  refine u_bipush hB 7 dX11_init_5 (by decide) ?_
  refine h_newi (t0 := 0) (cA := g.2.2.1 0) hB hK hR rfl k_ac_int 7 (by decide) (by decide) (by decide) (by decide) (by decide) dX11_init_7 (fun q1 => ?_)
  refine u_putF (f := 0) (ty := (.array .int)) tyX11 hB hK hR rfl (by decide) fw_X11_1 uw_X11 tyX11_ok nmX11 rfl rfl rfl rfl rfl (Nat.le_of_ble_eq_true rfl) dX11_init_9 ?_
  refine u_eq (ws' := (q0, .inr (11, [.ref q1, .null, .null, .null, .null, .int 0, .null, .null, .int 0, .null, .null, .int 0, .int 0, .null, .null, .null, .null, .null, .int 0, .null, .null, .int 0, .int 0, .int 0, .int 0, .int 0, .int 0, .int 0, .long 0, .null, .null, .int 0, .int 0, .int 0, .int 0, .null, .int 0, .int 0, .null, .null, .null, .int 0, .int 0, .int 0])) :: _) rfl ?_
  refine u_aload_n hB 0 dX11_init_12 rfl rfl ?_
  refine u_sipush hB 168 dX11_init_13 (by decide) ?_
  refine h_newi (t0 := 0) (cA := g.2.2.1 0) hB hK hR rfl k_ac_int 168 (by decide) (by decide) (by decide) (by decide) (by decide) dX11_init_16 (fun q2 => ?_)
  refine u_putF (f := 1) (ty := (.array .int)) tyX11 hB hK hR rfl (by decide) fw_X11_27 uw_X11 tyX11_ok nmX11 rfl rfl rfl rfl rfl (Nat.le_of_ble_eq_true rfl) dX11_init_18 ?_
  refine u_eq (ws' := (q0, .inr (11, [.ref q1, .ref q2, .null, .null, .null, .int 0, .null, .null, .int 0, .null, .null, .int 0, .int 0, .null, .null, .null, .null, .null, .int 0, .null, .null, .int 0, .int 0, .int 0, .int 0, .int 0, .int 0, .int 0, .long 0, .null, .null, .int 0, .int 0, .int 0, .int 0, .null, .int 0, .int 0, .null, .null, .null, .int 0, .int 0, .int 0])) :: _) rfl ?_
  refine u_aload_n hB 0 dX11_init_21 rfl rfl ?_
  refine u_bipush hB 6 dX11_init_22 (by decide) ?_
  refine h_newi (t0 := 0) (cA := g.2.2.1 0) hB hK hR rfl k_ac_int 6 (by decide) (by decide) (by decide) (by decide) (by decide) dX11_init_24 (fun q3 => ?_)
  refine u_putF (f := 2) (ty := (.array .int)) tyX11 hB hK hR rfl (by decide) fw_X11_30 uw_X11 tyX11_ok nmX11 rfl rfl rfl rfl rfl (Nat.le_of_ble_eq_true rfl) dX11_init_26 ?_
  refine u_eq (ws' := (q0, .inr (11, [.ref q1, .ref q2, .ref q3, .null, .null, .int 0, .null, .null, .int 0, .null, .null, .int 0, .int 0, .null, .null, .null, .null, .null, .int 0, .null, .null, .int 0, .int 0, .int 0, .int 0, .int 0, .int 0, .int 0, .long 0, .null, .null, .int 0, .int 0, .int 0, .int 0, .null, .int 0, .int 0, .null, .null, .null, .int 0, .int 0, .int 0])) :: _) rfl ?_
  refine u_aload_n hB 0 dX11_init_29 rfl rfl ?_
  refine u_bipush hB 6 dX11_init_30 (by decide) ?_
  refine h_newi (t0 := 0) (cA := g.2.2.1 0) hB hK hR rfl k_ac_int 6 (by decide) (by decide) (by decide) (by decide) (by decide) dX11_init_32 (fun q4 => ?_)
  refine u_putF (f := 3) (ty := (.array .int)) tyX11 hB hK hR rfl (by decide) fw_X11_33 uw_X11 tyX11_ok nmX11 rfl rfl rfl rfl rfl (Nat.le_of_ble_eq_true rfl) dX11_init_34 ?_
  refine u_eq (ws' := (q0, .inr (11, [.ref q1, .ref q2, .ref q3, .ref q4, .null, .int 0, .null, .null, .int 0, .null, .null, .int 0, .int 0, .null, .null, .null, .null, .null, .int 0, .null, .null, .int 0, .int 0, .int 0, .int 0, .int 0, .int 0, .int 0, .long 0, .null, .null, .int 0, .int 0, .int 0, .int 0, .null, .int 0, .int 0, .null, .null, .null, .int 0, .int 0, .int 0])) :: _) rfl ?_
  refine u_aload_n hB 0 dX11_init_37 rfl rfl ?_
  refine u_bipush hB 6 dX11_init_38 (by decide) ?_
  refine h_newi (t0 := 0) (cA := g.2.2.1 0) hB hK hR rfl k_ac_int 6 (by decide) (by decide) (by decide) (by decide) (by decide) dX11_init_40 (fun q5 => ?_)
  refine u_putF (f := 4) (ty := (.array .int)) tyX11 hB hK hR rfl (by decide) fw_X11_36 uw_X11 tyX11_ok nmX11 rfl rfl rfl rfl rfl (Nat.le_of_ble_eq_true rfl) dX11_init_42 ?_
  refine u_eq (ws' := (q0, .inr (11, [.ref q1, .ref q2, .ref q3, .ref q4, .ref q5, .int 0, .null, .null, .int 0, .null, .null, .int 0, .int 0, .null, .null, .null, .null, .null, .int 0, .null, .null, .int 0, .int 0, .int 0, .int 0, .int 0, .int 0, .int 0, .long 0, .null, .null, .int 0, .int 0, .int 0, .int 0, .null, .int 0, .int 0, .null, .null, .null, .int 0, .int 0, .int 0])) :: _) rfl ?_
  refine u_aload_n hB 0 dX11_init_45 rfl rfl ?_
  refine u_bipush hB 16 dX11_init_46 (by decide) ?_
  refine h_newi (t0 := 0) (cA := g.2.2.1 0) hB hK hR rfl k_ac_int 16 (by decide) (by decide) (by decide) (by decide) (by decide) dX11_init_48 (fun q6 => ?_)
  refine u_putF (f := 6) (ty := (.array .int)) tyX11 hB hK hR rfl (by decide) fw_X11_39 uw_X11 tyX11_ok nmX11 rfl rfl rfl rfl rfl (Nat.le_of_ble_eq_true rfl) dX11_init_50 ?_
  refine u_eq (ws' := (q0, .inr (11, [.ref q1, .ref q2, .ref q3, .ref q4, .ref q5, .int 0, .ref q6, .null, .int 0, .null, .null, .int 0, .int 0, .null, .null, .null, .null, .null, .int 0, .null, .null, .int 0, .int 0, .int 0, .int 0, .int 0, .int 0, .int 0, .long 0, .null, .null, .int 0, .int 0, .int 0, .int 0, .null, .int 0, .int 0, .null, .null, .null, .int 0, .int 0, .int 0])) :: _) rfl ?_
  refine u_aload_n hB 0 dX11_init_53 rfl rfl ?_
  refine u_bipush hB 16 dX11_init_54 (by decide) ?_
  refine h_newi (t0 := 0) (cA := g.2.2.1 0) hB hK hR rfl k_ac_int 16 (by decide) (by decide) (by decide) (by decide) (by decide) dX11_init_56 (fun q7 => ?_)
  refine u_putF (f := 7) (ty := (.array .int)) tyX11 hB hK hR rfl (by decide) fw_X11_42 uw_X11 tyX11_ok nmX11 rfl rfl rfl rfl rfl (Nat.le_of_ble_eq_true rfl) dX11_init_58 ?_
  refine u_eq (ws' := (q0, .inr (11, [.ref q1, .ref q2, .ref q3, .ref q4, .ref q5, .int 0, .ref q6, .ref q7, .int 0, .null, .null, .int 0, .int 0, .null, .null, .null, .null, .null, .int 0, .null, .null, .int 0, .int 0, .int 0, .int 0, .int 0, .int 0, .int 0, .long 0, .null, .null, .int 0, .int 0, .int 0, .int 0, .null, .int 0, .int 0, .null, .null, .null, .int 0, .int 0, .int 0])) :: _) rfl ?_
  refine u_aload_n hB 0 dX11_init_61 rfl rfl ?_
  refine u_bipush hB 28 dX11_init_62 (by decide) ?_
  refine h_newl (t0 := 1) (cA := g.2.2.1 1) hB hK hR rfl k_ac_long 28 (by decide) (by decide) (by decide) (by decide) (by decide) dX11_init_64 (fun q8 => ?_)
  refine u_putF (f := 9) (ty := (.array .long)) tyX11 hB hK hR rfl (by decide) fw_X11_45 uw_X11 tyX11_ok nmX11 rfl rfl rfl rfl rfl (Nat.le_of_ble_eq_true rfl) dX11_init_66 ?_
  refine u_eq (ws' := (q0, .inr (11, [.ref q1, .ref q2, .ref q3, .ref q4, .ref q5, .int 0, .ref q6, .ref q7, .int 0, .ref q8, .null, .int 0, .int 0, .null, .null, .null, .null, .null, .int 0, .null, .null, .int 0, .int 0, .int 0, .int 0, .int 0, .int 0, .int 0, .long 0, .null, .null, .int 0, .int 0, .int 0, .int 0, .null, .int 0, .int 0, .null, .null, .null, .int 0, .int 0, .int 0])) :: _) rfl ?_
  refine u_aload_n hB 0 dX11_init_69 rfl rfl ?_
  refine u_bipush hB 72 dX11_init_70 (by decide) ?_
  refine h_newi (t0 := 0) (cA := g.2.2.1 0) hB hK hR rfl k_ac_int 72 (by decide) (by decide) (by decide) (by decide) (by decide) dX11_init_72 (fun q9 => ?_)
  refine u_putF (f := 10) (ty := (.array .int)) tyX11 hB hK hR rfl (by decide) fw_X11_49 uw_X11 tyX11_ok nmX11 rfl rfl rfl rfl rfl (Nat.le_of_ble_eq_true rfl) dX11_init_74 ?_
  refine u_eq (ws' := (q0, .inr (11, [.ref q1, .ref q2, .ref q3, .ref q4, .ref q5, .int 0, .ref q6, .ref q7, .int 0, .ref q8, .ref q9, .int 0, .int 0, .null, .null, .null, .null, .null, .int 0, .null, .null, .int 0, .int 0, .int 0, .int 0, .int 0, .int 0, .int 0, .long 0, .null, .null, .int 0, .int 0, .int 0, .int 0, .null, .int 0, .int 0, .null, .null, .null, .int 0, .int 0, .int 0])) :: _) rfl ?_
  refine u_aload_n hB 0 dX11_init_77 rfl rfl ?_
  refine u_iconst hB 3 dX11_init_78 (by decide) ?_
  refine h_newi (t0 := 0) (cA := g.2.2.1 0) hB hK hR rfl k_ac_int 3 (by decide) (by decide) (by decide) (by decide) (by decide) dX11_init_79 (fun q10 => ?_)
  refine u_putF (f := 13) (ty := (.array .int)) tyX11 hB hK hR rfl (by decide) fw_X11_52 uw_X11 tyX11_ok nmX11 rfl rfl rfl rfl rfl (Nat.le_of_ble_eq_true rfl) dX11_init_81 ?_
  refine u_eq (ws' := (q0, .inr (11, [.ref q1, .ref q2, .ref q3, .ref q4, .ref q5, .int 0, .ref q6, .ref q7, .int 0, .ref q8, .ref q9, .int 0, .int 0, .ref q10, .null, .null, .null, .null, .int 0, .null, .null, .int 0, .int 0, .int 0, .int 0, .int 0, .int 0, .int 0, .long 0, .null, .null, .int 0, .int 0, .int 0, .int 0, .null, .int 0, .int 0, .null, .null, .null, .int 0, .int 0, .int 0])) :: _) rfl ?_
  refine u_aload_n hB 0 dX11_init_84 rfl rfl ?_
  refine u_bipush hB 16 dX11_init_85 (by decide) ?_
  refine h_newi (t0 := 0) (cA := g.2.2.1 0) hB hK hR rfl k_ac_int 16 (by decide) (by decide) (by decide) (by decide) (by decide) dX11_init_87 (fun q11 => ?_)
  refine u_putF (f := 14) (ty := (.array .int)) tyX11 hB hK hR rfl (by decide) fw_X11_55 uw_X11 tyX11_ok nmX11 rfl rfl rfl rfl rfl (Nat.le_of_ble_eq_true rfl) dX11_init_89 ?_
  refine u_eq (ws' := (q0, .inr (11, [.ref q1, .ref q2, .ref q3, .ref q4, .ref q5, .int 0, .ref q6, .ref q7, .int 0, .ref q8, .ref q9, .int 0, .int 0, .ref q10, .ref q11, .null, .null, .null, .int 0, .null, .null, .int 0, .int 0, .int 0, .int 0, .int 0, .int 0, .int 0, .long 0, .null, .null, .int 0, .int 0, .int 0, .int 0, .null, .int 0, .int 0, .null, .null, .null, .int 0, .int 0, .int 0])) :: _) rfl ?_
  refine u_aload_n hB 0 dX11_init_92 rfl rfl ?_
  refine u_bipush hB 16 dX11_init_93 (by decide) ?_
  refine h_newi (t0 := 0) (cA := g.2.2.1 0) hB hK hR rfl k_ac_int 16 (by decide) (by decide) (by decide) (by decide) (by decide) dX11_init_95 (fun q12 => ?_)
  refine u_putF (f := 15) (ty := (.array .int)) tyX11 hB hK hR rfl (by decide) fw_X11_58 uw_X11 tyX11_ok nmX11 rfl rfl rfl rfl rfl (Nat.le_of_ble_eq_true rfl) dX11_init_97 ?_
  refine u_eq (ws' := (q0, .inr (11, [.ref q1, .ref q2, .ref q3, .ref q4, .ref q5, .int 0, .ref q6, .ref q7, .int 0, .ref q8, .ref q9, .int 0, .int 0, .ref q10, .ref q11, .ref q12, .null, .null, .int 0, .null, .null, .int 0, .int 0, .int 0, .int 0, .int 0, .int 0, .int 0, .long 0, .null, .null, .int 0, .int 0, .int 0, .int 0, .null, .int 0, .int 0, .null, .null, .null, .int 0, .int 0, .int 0])) :: _) rfl ?_
  refine u_aload_n hB 0 dX11_init_100 rfl rfl ?_
  refine u_bipush hB 16 dX11_init_101 (by decide) ?_
  refine h_newi (t0 := 0) (cA := g.2.2.1 0) hB hK hR rfl k_ac_int 16 (by decide) (by decide) (by decide) (by decide) (by decide) dX11_init_103 (fun q13 => ?_)
  refine u_putF (f := 16) (ty := (.array .int)) tyX11 hB hK hR rfl (by decide) fw_X11_61 uw_X11 tyX11_ok nmX11 rfl rfl rfl rfl rfl (Nat.le_of_ble_eq_true rfl) dX11_init_105 ?_
  refine u_eq (ws' := (q0, .inr (11, [.ref q1, .ref q2, .ref q3, .ref q4, .ref q5, .int 0, .ref q6, .ref q7, .int 0, .ref q8, .ref q9, .int 0, .int 0, .ref q10, .ref q11, .ref q12, .ref q13, .null, .int 0, .null, .null, .int 0, .int 0, .int 0, .int 0, .int 0, .int 0, .int 0, .long 0, .null, .null, .int 0, .int 0, .int 0, .int 0, .null, .int 0, .int 0, .null, .null, .null, .int 0, .int 0, .int 0])) :: _) rfl ?_
  refine u_aload_n hB 0 dX11_init_108 rfl rfl ?_
  refine u_bipush hB 16 dX11_init_109 (by decide) ?_
  refine h_newi (t0 := 0) (cA := g.2.2.1 0) hB hK hR rfl k_ac_int 16 (by decide) (by decide) (by decide) (by decide) (by decide) dX11_init_111 (fun q14 => ?_)
  refine u_putF (f := 17) (ty := (.array .int)) tyX11 hB hK hR rfl (by decide) fw_X11_64 uw_X11 tyX11_ok nmX11 rfl rfl rfl rfl rfl (Nat.le_of_ble_eq_true rfl) dX11_init_113 ?_
  refine u_eq (ws' := (q0, .inr (11, [.ref q1, .ref q2, .ref q3, .ref q4, .ref q5, .int 0, .ref q6, .ref q7, .int 0, .ref q8, .ref q9, .int 0, .int 0, .ref q10, .ref q11, .ref q12, .ref q13, .ref q14, .int 0, .null, .null, .int 0, .int 0, .int 0, .int 0, .int 0, .int 0, .int 0, .long 0, .null, .null, .int 0, .int 0, .int 0, .int 0, .null, .int 0, .int 0, .null, .null, .null, .int 0, .int 0, .int 0])) :: _) rfl ?_
  refine u_aload_n hB 0 dX11_init_116 rfl rfl ?_
  refine u_sipush hB 190 dX11_init_117 (by decide) ?_
  refine h_newl (t0 := 1) (cA := g.2.2.1 1) hB hK hR rfl k_ac_long 190 (by decide) (by decide) (by decide) (by decide) (by decide) dX11_init_120 (fun q15 => ?_)
  refine u_putF (f := 19) (ty := (.array .long)) tyX11 hB hK hR rfl (by decide) fw_X11_67 uw_X11 tyX11_ok nmX11 rfl rfl rfl rfl rfl (Nat.le_of_ble_eq_true rfl) dX11_init_122 ?_
  refine u_eq (ws' := (q0, .inr (11, [.ref q1, .ref q2, .ref q3, .ref q4, .ref q5, .int 0, .ref q6, .ref q7, .int 0, .ref q8, .ref q9, .int 0, .int 0, .ref q10, .ref q11, .ref q12, .ref q13, .ref q14, .int 0, .ref q15, .null, .int 0, .int 0, .int 0, .int 0, .int 0, .int 0, .int 0, .long 0, .null, .null, .int 0, .int 0, .int 0, .int 0, .null, .int 0, .int 0, .null, .null, .null, .int 0, .int 0, .int 0])) :: _) rfl ?_
  refine u_aload_n hB 0 dX11_init_125 rfl rfl ?_
  refine u_sipush hB 190 dX11_init_126 (by decide) ?_
  refine h_newl (t0 := 1) (cA := g.2.2.1 1) hB hK hR rfl k_ac_long 190 (by decide) (by decide) (by decide) (by decide) (by decide) dX11_init_129 (fun q16 => ?_)
  refine u_putF (f := 20) (ty := (.array .long)) tyX11 hB hK hR rfl (by decide) fw_X11_70 uw_X11 tyX11_ok nmX11 rfl rfl rfl rfl rfl (Nat.le_of_ble_eq_true rfl) dX11_init_131 ?_
  refine u_eq (ws' := (q0, .inr (11, [.ref q1, .ref q2, .ref q3, .ref q4, .ref q5, .int 0, .ref q6, .ref q7, .int 0, .ref q8, .ref q9, .int 0, .int 0, .ref q10, .ref q11, .ref q12, .ref q13, .ref q14, .int 0, .ref q15, .ref q16, .int 0, .int 0, .int 0, .int 0, .int 0, .int 0, .int 0, .long 0, .null, .null, .int 0, .int 0, .int 0, .int 0, .null, .int 0, .int 0, .null, .null, .null, .int 0, .int 0, .int 0])) :: _) rfl ?_
  refine u_aload_n hB 0 dX11_init_134 rfl rfl ?_
  refine u_bipush hB 112 dX11_init_135 (by decide) ?_
  refine h_newi (t0 := 0) (cA := g.2.2.1 0) hB hK hR rfl k_ac_int 112 (by decide) (by decide) (by decide) (by decide) (by decide) dX11_init_137 (fun q17 => ?_)
  refine u_putF (f := 29) (ty := (.array .int)) tyX11 hB hK hR rfl (by decide) fw_X11_73 uw_X11 tyX11_ok nmX11 rfl rfl rfl rfl rfl (Nat.le_of_ble_eq_true rfl) dX11_init_139 ?_
  refine u_eq (ws' := (q0, .inr (11, [.ref q1, .ref q2, .ref q3, .ref q4, .ref q5, .int 0, .ref q6, .ref q7, .int 0, .ref q8, .ref q9, .int 0, .int 0, .ref q10, .ref q11, .ref q12, .ref q13, .ref q14, .int 0, .ref q15, .ref q16, .int 0, .int 0, .int 0, .int 0, .int 0, .int 0, .int 0, .long 0, .ref q17, .null, .int 0, .int 0, .int 0, .int 0, .null, .int 0, .int 0, .null, .null, .null, .int 0, .int 0, .int 0])) :: _) rfl ?_
  refine u_aload_n hB 0 dX11_init_142 rfl rfl ?_
  refine u_iconst hB 3 dX11_init_143 (by decide) ?_
  refine h_newi (t0 := 0) (cA := g.2.2.1 0) hB hK hR rfl k_ac_int 3 (by decide) (by decide) (by decide) (by decide) (by decide) dX11_init_144 (fun q18 => ?_)
  refine u_putF (f := 30) (ty := (.array .int)) tyX11 hB hK hR rfl (by decide) fw_X11_76 uw_X11 tyX11_ok nmX11 rfl rfl rfl rfl rfl (Nat.le_of_ble_eq_true rfl) dX11_init_146 ?_
  refine u_eq (ws' := (q0, .inr (11, [.ref q1, .ref q2, .ref q3, .ref q4, .ref q5, .int 0, .ref q6, .ref q7, .int 0, .ref q8, .ref q9, .int 0, .int 0, .ref q10, .ref q11, .ref q12, .ref q13, .ref q14, .int 0, .ref q15, .ref q16, .int 0, .int 0, .int 0, .int 0, .int 0, .int 0, .int 0, .long 0, .ref q17, .ref q18, .int 0, .int 0, .int 0, .int 0, .null, .int 0, .int 0, .null, .null, .null, .int 0, .int 0, .int 0])) :: _) rfl ?_
  refine u_aload_n hB 0 dX11_init_149 rfl rfl ?_
  refine u_sipush hB 500 dX11_init_150 (by decide) ?_
  refine h_newi (t0 := 0) (cA := g.2.2.1 0) hB hK hR rfl k_ac_int 500 (by decide) (by decide) (by decide) (by decide) (by decide) dX11_init_153 (fun q19 => ?_)
  refine u_putF (f := 35) (ty := (.array .int)) tyX11 hB hK hR rfl (by decide) fw_X11_79 uw_X11 tyX11_ok nmX11 rfl rfl rfl rfl rfl (Nat.le_of_ble_eq_true rfl) dX11_init_155 ?_
  refine u_eq (ws' := (q0, .inr (11, [.ref q1, .ref q2, .ref q3, .ref q4, .ref q5, .int 0, .ref q6, .ref q7, .int 0, .ref q8, .ref q9, .int 0, .int 0, .ref q10, .ref q11, .ref q12, .ref q13, .ref q14, .int 0, .ref q15, .ref q16, .int 0, .int 0, .int 0, .int 0, .int 0, .int 0, .int 0, .long 0, .ref q17, .ref q18, .int 0, .int 0, .int 0, .int 0, .ref q19, .int 0, .int 0, .null, .null, .null, .int 0, .int 0, .int 0])) :: _) rfl ?_
  refine u_aload_n hB 0 dX11_init_158 rfl rfl ?_
  refine u_iconst hB 3 dX11_init_159 (by decide) ?_
  refine h_newi (t0 := 0) (cA := g.2.2.1 0) hB hK hR rfl k_ac_int 3 (by decide) (by decide) (by decide) (by decide) (by decide) dX11_init_160 (fun q20 => ?_)
  refine u_putF (f := 38) (ty := (.array .int)) tyX11 hB hK hR rfl (by decide) fw_X11_82 uw_X11 tyX11_ok nmX11 rfl rfl rfl rfl rfl (Nat.le_of_ble_eq_true rfl) dX11_init_162 ?_
  refine u_eq (ws' := (q0, .inr (11, [.ref q1, .ref q2, .ref q3, .ref q4, .ref q5, .int 0, .ref q6, .ref q7, .int 0, .ref q8, .ref q9, .int 0, .int 0, .ref q10, .ref q11, .ref q12, .ref q13, .ref q14, .int 0, .ref q15, .ref q16, .int 0, .int 0, .int 0, .int 0, .int 0, .int 0, .int 0, .long 0, .ref q17, .ref q18, .int 0, .int 0, .int 0, .int 0, .ref q19, .int 0, .int 0, .ref q20, .null, .null, .int 0, .int 0, .int 0])) :: _) rfl ?_
  refine u_aload_n hB 0 dX11_init_165 rfl rfl ?_
  refine u_bipush hB 120 dX11_init_166 (by decide) ?_
  refine h_newi (t0 := 0) (cA := g.2.2.1 0) hB hK hR rfl k_ac_int 120 (by decide) (by decide) (by decide) (by decide) (by decide) dX11_init_168 (fun q21 => ?_)
  refine u_putF (f := 39) (ty := (.array .int)) tyX11 hB hK hR rfl (by decide) fw_X11_85 uw_X11 tyX11_ok nmX11 rfl rfl rfl rfl rfl (Nat.le_of_ble_eq_true rfl) dX11_init_170 ?_
  refine u_eq (ws' := (q0, .inr (11, [.ref q1, .ref q2, .ref q3, .ref q4, .ref q5, .int 0, .ref q6, .ref q7, .int 0, .ref q8, .ref q9, .int 0, .int 0, .ref q10, .ref q11, .ref q12, .ref q13, .ref q14, .int 0, .ref q15, .ref q16, .int 0, .int 0, .int 0, .int 0, .int 0, .int 0, .int 0, .long 0, .ref q17, .ref q18, .int 0, .int 0, .int 0, .int 0, .ref q19, .int 0, .int 0, .ref q20, .ref q21, .null, .int 0, .int 0, .int 0])) :: _) rfl ?_
  refine u_aload_n hB 0 dX11_init_173 rfl rfl ?_
  refine u_sipush hB 190 dX11_init_174 (by decide) ?_
  refine h_newi (t0 := 0) (cA := g.2.2.1 0) hB hK hR rfl k_ac_int 190 (by decide) (by decide) (by decide) (by decide) (by decide) dX11_init_177 (fun q22 => ?_)
  refine u_putF (f := 40) (ty := (.array .int)) tyX11 hB hK hR rfl (by decide) fw_X11_88 uw_X11 tyX11_ok nmX11 rfl rfl rfl rfl rfl (Nat.le_of_ble_eq_true rfl) dX11_init_179 ?_
  refine u_eq (ws' := (q0, .inr (11, [.ref q1, .ref q2, .ref q3, .ref q4, .ref q5, .int 0, .ref q6, .ref q7, .int 0, .ref q8, .ref q9, .int 0, .int 0, .ref q10, .ref q11, .ref q12, .ref q13, .ref q14, .int 0, .ref q15, .ref q16, .int 0, .int 0, .int 0, .int 0, .int 0, .int 0, .int 0, .long 0, .ref q17, .ref q18, .int 0, .int 0, .int 0, .int 0, .ref q19, .int 0, .int 0, .ref q20, .ref q21, .ref q22, .int 0, .int 0, .int 0])) :: _) rfl ?_
  refine u_aload_n hB 0 dX11_init_182 rfl rfl ?_
  refine u_bipush hB (-9) dX11_init_183 (by decide) ?_
  refine u_put (f := 42) (ty := .int) tyX11 hB hK hR rfl (by decide) fw_X11_91 uw_X11 tyX11_ok nmX11 rfl rfl rfl rfl (Nat.le_of_ble_eq_true rfl) dX11_init_185 ?_
  refine u_eq (ws' := (q0, .inr (11, [.ref q1, .ref q2, .ref q3, .ref q4, .ref q5, .int 0, .ref q6, .ref q7, .int 0, .ref q8, .ref q9, .int 0, .int 0, .ref q10, .ref q11, .ref q12, .ref q13, .ref q14, .int 0, .ref q15, .ref q16, .int 0, .int 0, .int 0, .int 0, .int 0, .int 0, .int 0, .long 0, .ref q17, .ref q18, .int 0, .int 0, .int 0, .int 0, .ref q19, .int 0, .int 0, .ref q20, .ref q21, .ref q22, .int 0, .int (-9), .int 0])) :: _) rfl ?_
  refine u_iconst hB 0 dX11_init_188 (by decide) ?_
  refine u_eq (ws' := [(q0, .inr (11, [.ref q1, .ref q2, .ref q3, .ref q4, .ref q5, .int 0, .ref q6, .ref q7, .int 0, .ref q8, .ref q9, .int 0, .int 0, .ref q10, .ref q11, .ref q12, .ref q13, .ref q14, .int 0, .ref q15, .ref q16, .int 0, .int 0, .int 0, .int 0, .int 0, .int 0, .int 0, .long 0, .ref q17, .ref q18, .int 0, .int 0, .int 0, .int 0, .ref q19, .int 0, .int 0, .ref q20, .ref q21, .ref q22, .int 0, .int (-9), .int 0])), (q1, .inl (g.2.2.1 0, 7, .inl (fun _ => 0))), (q2, .inl (g.2.2.1 0, 168, .inl (fun _ => 0))), (q3, .inl (g.2.2.1 0, 6, .inl (fun _ => 0))), (q4, .inl (g.2.2.1 0, 6, .inl (fun _ => 0))), (q5, .inl (g.2.2.1 0, 6, .inl (fun _ => 0))), (q6, .inl (g.2.2.1 0, 16, .inl (fun _ => 0))), (q7, .inl (g.2.2.1 0, 16, .inl (fun _ => 0))), (q8, .inl (g.2.2.1 1, 28, .inr (.inl (fun _ => 0)))), (q9, .inl (g.2.2.1 0, 72, .inl (fun _ => 0))), (q10, .inl (g.2.2.1 0, 3, .inl (fun _ => 0))), (q11, .inl (g.2.2.1 0, 16, .inl (fun _ => 0))), (q12, .inl (g.2.2.1 0, 16, .inl (fun _ => 0))), (q13, .inl (g.2.2.1 0, 16, .inl (fun _ => 0))), (q14, .inl (g.2.2.1 0, 16, .inl (fun _ => 0))), (q15, .inl (g.2.2.1 1, 190, .inr (.inl (fun _ => 0)))), (q16, .inl (g.2.2.1 1, 190, .inr (.inl (fun _ => 0)))), (q17, .inl (g.2.2.1 0, 112, .inl (fun _ => 0))), (q18, .inl (g.2.2.1 0, 3, .inl (fun _ => 0))), (q19, .inl (g.2.2.1 0, 500, .inl (fun _ => 0))), (q20, .inl (g.2.2.1 0, 3, .inl (fun _ => 0))), (q21, .inl (g.2.2.1 0, 120, .inl (fun _ => 0))), (q22, .inl (g.2.2.1 0, 190, .inl (fun _ => 0)))]) rfl ?_
  refine u_istore_n hB [(0, .ref q0), (1, .int 0)] [1, 0] dX11_init_189 rfl (by decide) rfl ?_
  refine u_iload_n hB 1 dX11_init_190 rfl rfl ?_
  refine u_iconst hB 3 dX11_init_191 (by decide) ?_
  refine u_geN (tgt := 209) hB dX11_init_192 rfl (by decide) ?_
  refine u_aload_n hB 0 dX11_init_195 rfl rfl ?_
  refine u_get (f := 38) hB hK rfl (by decide) fw_X11_82 uw_X11 rfl dX11_init_196 ?_
  refine u_iload_n hB 1 dX11_init_199 rfl rfl ?_
  refine u_bipush hB (-9) dX11_init_200 (by decide) ?_
  refine u_iast (t0 := 0) 20 hB hK rfl rfl (by unfold vp_in; decide) dX11_init_202 ?_
  refine u_eq (ws' := [(q0, .inr (11, [.ref q1, .ref q2, .ref q3, .ref q4, .ref q5, .int 0, .ref q6, .ref q7, .int 0, .ref q8, .ref q9, .int 0, .int 0, .ref q10, .ref q11, .ref q12, .ref q13, .ref q14, .int 0, .ref q15, .ref q16, .int 0, .int 0, .int 0, .int 0, .int 0, .int 0, .int 0, .long 0, .ref q17, .ref q18, .int 0, .int 0, .int 0, .int 0, .ref q19, .int 0, .int 0, .ref q20, .ref q21, .ref q22, .int 0, .int (-9), .int 0])), (q1, .inl (g.2.2.1 0, 7, .inl (fun _ => 0))), (q2, .inl (g.2.2.1 0, 168, .inl (fun _ => 0))), (q3, .inl (g.2.2.1 0, 6, .inl (fun _ => 0))), (q4, .inl (g.2.2.1 0, 6, .inl (fun _ => 0))), (q5, .inl (g.2.2.1 0, 6, .inl (fun _ => 0))), (q6, .inl (g.2.2.1 0, 16, .inl (fun _ => 0))), (q7, .inl (g.2.2.1 0, 16, .inl (fun _ => 0))), (q8, .inl (g.2.2.1 1, 28, .inr (.inl (fun _ => 0)))), (q9, .inl (g.2.2.1 0, 72, .inl (fun _ => 0))), (q10, .inl (g.2.2.1 0, 3, .inl (fun _ => 0))), (q11, .inl (g.2.2.1 0, 16, .inl (fun _ => 0))), (q12, .inl (g.2.2.1 0, 16, .inl (fun _ => 0))), (q13, .inl (g.2.2.1 0, 16, .inl (fun _ => 0))), (q14, .inl (g.2.2.1 0, 16, .inl (fun _ => 0))), (q15, .inl (g.2.2.1 1, 190, .inr (.inl (fun _ => 0)))), (q16, .inl (g.2.2.1 1, 190, .inr (.inl (fun _ => 0)))), (q17, .inl (g.2.2.1 0, 112, .inl (fun _ => 0))), (q18, .inl (g.2.2.1 0, 3, .inl (fun _ => 0))), (q19, .inl (g.2.2.1 0, 500, .inl (fun _ => 0))), (q20, .inl (g.2.2.1 0, 3, .inl (upd (fun _ => 0) 0 (-9)))), (q21, .inl (g.2.2.1 0, 120, .inl (fun _ => 0))), (q22, .inl (g.2.2.1 0, 190, .inl (fun _ => 0)))]) rfl ?_
  refine u_iinc hB 1 [(0, .ref q0), (1, .int 1)] 1 [1, 0] dX11_init_203 rfl (by decide) (by decide) rfl ?_
  refine u_goto (tgt := 190) hB dX11_init_206 rfl ?_
  refine u_iload_n hB 1 dX11_init_190 rfl rfl ?_
  refine u_iconst hB 3 dX11_init_191 (by decide) ?_
  refine u_geN (tgt := 209) hB dX11_init_192 rfl (by decide) ?_
  refine u_aload_n hB 0 dX11_init_195 rfl rfl ?_
  refine u_get (f := 38) hB hK rfl (by decide) fw_X11_82 uw_X11 rfl dX11_init_196 ?_
  refine u_iload_n hB 1 dX11_init_199 rfl rfl ?_
  refine u_bipush hB (-9) dX11_init_200 (by decide) ?_
  refine u_iast (t0 := 0) 20 hB hK rfl rfl (by unfold vp_in; decide) dX11_init_202 ?_
  refine u_eq (ws' := [(q0, .inr (11, [.ref q1, .ref q2, .ref q3, .ref q4, .ref q5, .int 0, .ref q6, .ref q7, .int 0, .ref q8, .ref q9, .int 0, .int 0, .ref q10, .ref q11, .ref q12, .ref q13, .ref q14, .int 0, .ref q15, .ref q16, .int 0, .int 0, .int 0, .int 0, .int 0, .int 0, .int 0, .long 0, .ref q17, .ref q18, .int 0, .int 0, .int 0, .int 0, .ref q19, .int 0, .int 0, .ref q20, .ref q21, .ref q22, .int 0, .int (-9), .int 0])), (q1, .inl (g.2.2.1 0, 7, .inl (fun _ => 0))), (q2, .inl (g.2.2.1 0, 168, .inl (fun _ => 0))), (q3, .inl (g.2.2.1 0, 6, .inl (fun _ => 0))), (q4, .inl (g.2.2.1 0, 6, .inl (fun _ => 0))), (q5, .inl (g.2.2.1 0, 6, .inl (fun _ => 0))), (q6, .inl (g.2.2.1 0, 16, .inl (fun _ => 0))), (q7, .inl (g.2.2.1 0, 16, .inl (fun _ => 0))), (q8, .inl (g.2.2.1 1, 28, .inr (.inl (fun _ => 0)))), (q9, .inl (g.2.2.1 0, 72, .inl (fun _ => 0))), (q10, .inl (g.2.2.1 0, 3, .inl (fun _ => 0))), (q11, .inl (g.2.2.1 0, 16, .inl (fun _ => 0))), (q12, .inl (g.2.2.1 0, 16, .inl (fun _ => 0))), (q13, .inl (g.2.2.1 0, 16, .inl (fun _ => 0))), (q14, .inl (g.2.2.1 0, 16, .inl (fun _ => 0))), (q15, .inl (g.2.2.1 1, 190, .inr (.inl (fun _ => 0)))), (q16, .inl (g.2.2.1 1, 190, .inr (.inl (fun _ => 0)))), (q17, .inl (g.2.2.1 0, 112, .inl (fun _ => 0))), (q18, .inl (g.2.2.1 0, 3, .inl (fun _ => 0))), (q19, .inl (g.2.2.1 0, 500, .inl (fun _ => 0))), (q20, .inl (g.2.2.1 0, 3, .inl (upd (upd (fun _ => 0) 0 (-9)) 1 (-9)))), (q21, .inl (g.2.2.1 0, 120, .inl (fun _ => 0))), (q22, .inl (g.2.2.1 0, 190, .inl (fun _ => 0)))]) rfl ?_
  refine u_iinc hB 2 [(0, .ref q0), (1, .int 2)] 1 [1, 0] dX11_init_203 rfl (by decide) (by decide) rfl ?_
  refine u_goto (tgt := 190) hB dX11_init_206 rfl ?_
  refine u_iload_n hB 1 dX11_init_190 rfl rfl ?_
  refine u_iconst hB 3 dX11_init_191 (by decide) ?_
  refine u_geN (tgt := 209) hB dX11_init_192 rfl (by decide) ?_
  refine u_aload_n hB 0 dX11_init_195 rfl rfl ?_
  refine u_get (f := 38) hB hK rfl (by decide) fw_X11_82 uw_X11 rfl dX11_init_196 ?_
  refine u_iload_n hB 1 dX11_init_199 rfl rfl ?_
  refine u_bipush hB (-9) dX11_init_200 (by decide) ?_
  refine u_iast (t0 := 0) 20 hB hK rfl rfl (by unfold vp_in; decide) dX11_init_202 ?_
  refine u_eq (ws' := [(q0, .inr (11, [.ref q1, .ref q2, .ref q3, .ref q4, .ref q5, .int 0, .ref q6, .ref q7, .int 0, .ref q8, .ref q9, .int 0, .int 0, .ref q10, .ref q11, .ref q12, .ref q13, .ref q14, .int 0, .ref q15, .ref q16, .int 0, .int 0, .int 0, .int 0, .int 0, .int 0, .int 0, .long 0, .ref q17, .ref q18, .int 0, .int 0, .int 0, .int 0, .ref q19, .int 0, .int 0, .ref q20, .ref q21, .ref q22, .int 0, .int (-9), .int 0])), (q1, .inl (g.2.2.1 0, 7, .inl (fun _ => 0))), (q2, .inl (g.2.2.1 0, 168, .inl (fun _ => 0))), (q3, .inl (g.2.2.1 0, 6, .inl (fun _ => 0))), (q4, .inl (g.2.2.1 0, 6, .inl (fun _ => 0))), (q5, .inl (g.2.2.1 0, 6, .inl (fun _ => 0))), (q6, .inl (g.2.2.1 0, 16, .inl (fun _ => 0))), (q7, .inl (g.2.2.1 0, 16, .inl (fun _ => 0))), (q8, .inl (g.2.2.1 1, 28, .inr (.inl (fun _ => 0)))), (q9, .inl (g.2.2.1 0, 72, .inl (fun _ => 0))), (q10, .inl (g.2.2.1 0, 3, .inl (fun _ => 0))), (q11, .inl (g.2.2.1 0, 16, .inl (fun _ => 0))), (q12, .inl (g.2.2.1 0, 16, .inl (fun _ => 0))), (q13, .inl (g.2.2.1 0, 16, .inl (fun _ => 0))), (q14, .inl (g.2.2.1 0, 16, .inl (fun _ => 0))), (q15, .inl (g.2.2.1 1, 190, .inr (.inl (fun _ => 0)))), (q16, .inl (g.2.2.1 1, 190, .inr (.inl (fun _ => 0)))), (q17, .inl (g.2.2.1 0, 112, .inl (fun _ => 0))), (q18, .inl (g.2.2.1 0, 3, .inl (fun _ => 0))), (q19, .inl (g.2.2.1 0, 500, .inl (fun _ => 0))), (q20, .inl (g.2.2.1 0, 3, .inl (upd (upd (upd (fun _ => 0) 0 (-9)) 1 (-9)) 2 (-9)))), (q21, .inl (g.2.2.1 0, 120, .inl (fun _ => 0))), (q22, .inl (g.2.2.1 0, 190, .inl (fun _ => 0)))]) rfl ?_
  refine u_iinc hB 3 [(0, .ref q0), (1, .int 3)] 1 [1, 0] dX11_init_203 rfl (by decide) (by decide) rfl ?_
  refine u_goto (tgt := 190) hB dX11_init_206 rfl ?_
  refine u_iload_n hB 1 dX11_init_190 rfl rfl ?_
  refine u_iconst hB 3 dX11_init_191 (by decide) ?_
  refine u_geY (tgt := 209) hB dX11_init_192 rfl (by decide) ?_
  exact u_vret (fun i => ([q1, q2, q3, q4, q5, q6, q7, q8, q9, q10, q11, q12, q13, q14, q15, q16, q17, q18, q19, q20, q21, q22] : List Nat).getD i 0) hB hK hR rfl (by decide) (by decide) dX11_init_209
