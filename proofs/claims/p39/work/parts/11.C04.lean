def f_L_comes_j218 (sc0 : Nat × (Nat → Int32)) (p2 : Int32) (s1 : Int32) (s2 : Int32) (h : pq_H) : Option (Bool × pq_H) :=
  (f_L_cell sc0 p2).bind fun r220 => (f_L_pick (r220 >>> (26 &&& 31)) 10).bind fun r228 => bd2 (f_X10_turn s1 s2 r228 h) fun r231 h231 => if r231 = 0 then (some (true, h231)) else (some (false, h231))
def f_L_comes_j183 (sc0 : Nat × (Nat → Int32)) (p2 : Int32) (v4 : Int32) (h : pq_H) : Option (Bool × pq_H) :=
  (f_L_cell sc0 p2).bind fun r188 => (f_L_pick (r188 >>> (20 &&& 31)) 3).bind fun r195 => if r195 = 0 then ((f_L_cell sc0 p2).bind fun r203 => (f_L_pick (r203 >>> (22 &&& 31)) 6).bind fun r211 => f_L_comes_j218 sc0 p2 v4 r211 h) else (f_L_comes_j218 sc0 p2 v4 0 h)
def f_L_comes_j172 (w85 : Int32 → pq_H → Option (Bool × pq_H)) (v6 : Int32) (s0 : Int32) (s1 : Int32) (h : pq_H) : Option (Bool × pq_H) :=
  if s0 = s1 then (w85 (v6 + 1) h) else (some (false, h))
def f_L_comes_j150 (v4 : Int32) (w85 : Int32 → pq_H → Option (Bool × pq_H)) (v6 : Int32) (s0 : Int32) (h : pq_H) : Option (Bool × pq_H) :=
  bd2 (f_X10_change v4 v6 s0 h) fun r159 h159 => if v6 = 0 then (f_L_comes_j172 w85 v6 r159 1 h159) else (f_L_comes_j172 w85 v6 r159 0 h159)
def f_L_comes_l85 (sc0 : Nat × (Nat → Int32)) (p2 : Int32) (v4 : Int32) (v5 : Int32) (w85 : Int32 → pq_H → Option (Bool × pq_H)) (v6 : Int32) (h : pq_H) : Option (Bool × pq_H) :=
  if v5 ≤ v6 then (f_L_comes_j183 sc0 p2 v4 h) else ((f_L_cell sc0 (p2 + v6)).bind fun r97 => (f_L_pick r97 4).bind fun r105 => if r105 = 0 then (f_L_comes_j150 v4 w85 v6 0 h) else ((f_L_pick (r97 >>> (2 &&& 31)) 5).bind fun r120 => if r120 = 0 then ((f_L_pick (r97 >>> (6 &&& 31)) 20).bind fun r133 => f_L_comes_j150 v4 w85 v6 (-r133) h) else ((f_L_pick (r97 >>> (6 &&& 31)) 60).bind fun r147 => f_L_comes_j150 v4 w85 v6 r147 h)))
def f_L_comes_j22 (sc0 : Nat × (Nat → Int32)) (p2 : Int32) (p3 : Int32) (h : pq_H) : Option (Bool × pq_H) :=
  bd2 (f_X10_letter (48 + (if 1 < p3 then p3 else 1)) h) fun r31 h31 => bd2 (f_X10_form h31) fun r36 h36 => if r36 < 0 then (some (false, h36)) else (bd2 (f_X10_of r36 2 h36) fun r61 h61 => if r61 = p3 then (bd2 (f_X10_of r36 3 h61) fun r72 h72 => if r72 = (((p3 + 1) * (p3 + 2)) / 2) then (lp (fun _ _ => none) (f_L_comes_l85 sc0 p2 r36 (((p3 + 1) * (p3 + 2)) / 2)) 1000 0 h72) else (some (false, h72))) else (some (false, h61)))
def f_L_comes_j11 (sc0 : Nat × (Nat → Int32)) (p2 : Int32) (p3 : Int32) (h : pq_H) : Option (Bool × pq_H) :=
  if p3 ≤ 0 then (f_L_comes_j22 sc0 p2 p3 h) else (bd2 (f_X10_letter 94 h) fun r18 h18 => f_L_comes_j22 sc0 p2 p3 h18)
def f_L_comes (sc0 : Nat × (Nat → Int32)) (p2 : Int32) (p3 : Int32) (h : pq_H) : Option (Bool × pq_H) :=
  if p3 ≤ 0 then (f_L_comes_j11 sc0 p2 p3 h) else (bd2 (f_X10_letter 97 h) fun r7 h7 => f_L_comes_j11 sc0 p2 p3 h7)
set_option maxRecDepth 100000 in
set_option maxHeartbeats 4000000 in
theorem c_L_comes (g : pq_g) {A : Nat → Prop} (hA : pq_A (SC g) A) (l : Launch) (p2 : Int32) (p3 : Int32) (h : pq_H) {rr : Bool} {hh : pq_H} (e : f_L_comes g.2.2.2.2 p2 p3 h = some (rr, hh)) : pq_M (SC g) A l yL_comes cL_comes 9 (some .boolean) 7 156 [.ref ((SC g).1.2.1 55), .ref g.2.2.2.1, .int p2, .int p3] h (some (.int (b2i rr))) hh := by
  refine pq_met hA l (own := RL) 7 156 _ [(0, .ref ((SC g).1.2.1 55)), (1, .ref g.2.2.2.1), (2, .int p2), (3, .int p3)] h _ hh (by decide +kernel) rfl (Nat.le_of_ble_eq_true rfl) rfl (fun X hXl hXA hB hK hR => ?_)
  refine V.cast (F' := f_L_comes g.2.2.2.2 p2 p3 h) (res' := (rr, hh)) (fun _ => e) ?_
  have hn218 : ∀ (s1 : Int32) (s2 : Int32) (h : pq_H), V X (SC g) (rr, hh) 9 218 [(1, .ref g.2.2.2.1), (2, .int p2)] [.int s2, .int s1, .ref ((SC g).1.2.1 55)] h (f_L_comes_j218 g.2.2.2.2 p2 s1 s2 h) := by
    intro s1 s2 h
    unfold f_L_comes_j218
    refine v_aload_n hB 0 dL_comes_218 rfl rfl ?_
    refine v_iload_n hB 1 dL_comes_219 rfl rfl ?_
    refine v_bRi (fun r220 e220 => v_callS hB hK hR.rm [.ref g.2.2.2.1, .int p2] [.int s2, .int s1, .ref ((SC g).1.2.1 55)] lb_L_cell lv_L_27 (c_L_cell g hK.A X.1.2.1 p2 h e220) dL_comes_220 rfl rfl (Nat.le_of_ble_eq_true rfl) (by decide) (by decide)) (fun r220 => ?_)
    refine v_bipush hB 26 dL_comes_223 (by decide) ?_
    refine v_ishr hB dL_comes_225 ?_
    refine v_bipush hB 10 dL_comes_226 (by decide) ?_
    refine v_bRi (fun r228 e228 => v_callS hB hK hR.rm [.int (r220 >>> (26 &&& 31)), .int 10] [.int s2, .int s1, .ref ((SC g).1.2.1 55)] lb_L_pick lv_L_33 (c_L_pick g hK.A X.1.2.1 (r220 >>> (26 &&& 31)) 10 h e228) dL_comes_228 rfl rfl (Nat.le_of_ble_eq_true rfl) (by decide) (by decide)) (fun r228 => ?_)
    refine v_bWi (fun r231 h231 e231 => v_callV hB hK hR.rm [.int s1, .int s2, .int r228] [] (oC_55 g) lb_X10_turn lv_L_40 (c_X10_turn g hK.A X.1.2.1 s1 s2 r228 h e231) dL_comes_231 rfl rfl (Nat.le_of_ble_eq_true rfl) (by decide) (by decide)) (fun r231 h231 => ?_)
    refine v_if_ne (tgt := 241) hB dL_comes_234 rfl ?_ ?_
    · refine v_iconst hB 0 dL_comes_241 (by decide) ?_
      exact v_retWz (x := false) hB hK hR dL_comes_242
    · refine v_iconst hB 1 dL_comes_237 (by decide) ?_
      refine v_goto (tgt := 242) hB dL_comes_238 rfl ?_
      exact v_retWz (x := true) hB hK hR dL_comes_242
  have hn183 : ∀ (v4 : Int32) (h : pq_H), V X (SC g) (rr, hh) 9 183 [(0, .ref ((SC g).1.2.1 55)), (1, .ref g.2.2.2.1), (2, .int p2), (4, .int v4)] [] h (f_L_comes_j183 g.2.2.2.2 p2 v4 h) := by
    intro v4 h
    unfold f_L_comes_j183
    refine v_aload_n hB 0 dL_comes_183 rfl rfl ?_
    refine v_iload hB 3 dL_comes_184 rfl ?_
    refine v_aload_n hB 1 dL_comes_186 rfl rfl ?_
    refine v_iload_n hB 2 dL_comes_187 rfl rfl ?_
    refine v_bRi (fun r188 e188 => v_callS hB hK hR.rm [.ref g.2.2.2.1, .int p2] [.int v4, .ref ((SC g).1.2.1 55)] lb_L_cell lv_L_27 (c_L_cell g hK.A X.1.2.1 p2 h e188) dL_comes_188 rfl rfl (Nat.le_of_ble_eq_true rfl) (by decide) (by decide)) (fun r188 => ?_)
    refine v_bipush hB 20 dL_comes_191 (by decide) ?_
    refine v_ishr hB dL_comes_193 ?_
    refine v_iconst hB 3 dL_comes_194 (by decide) ?_
    refine v_bRi (fun r195 e195 => v_callS hB hK hR.rm [.int (r188 >>> (20 &&& 31)), .int 3] [.int v4, .ref ((SC g).1.2.1 55)] lb_L_pick lv_L_33 (c_L_pick g hK.A X.1.2.1 (r188 >>> (20 &&& 31)) 3 h e195) dL_comes_195 rfl rfl (Nat.le_of_ble_eq_true rfl) (by decide) (by decide)) (fun r195 => ?_)
    refine v_if_ne (tgt := 217) hB dL_comes_198 rfl ?_ ?_
    · refine v_iconst hB 0 dL_comes_217 (by decide) ?_
      exact V.sub [1, 2] rfl (hn218 v4 0 h)
    · refine v_aload_n hB 1 dL_comes_201 rfl rfl ?_
      refine v_iload_n hB 2 dL_comes_202 rfl rfl ?_
      refine v_bRi (fun r203 e203 => v_callS hB hK hR.rm [.ref g.2.2.2.1, .int p2] [.int v4, .ref ((SC g).1.2.1 55)] lb_L_cell lv_L_27 (c_L_cell g hK.A X.1.2.1 p2 h e203) dL_comes_203 rfl rfl (Nat.le_of_ble_eq_true rfl) (by decide) (by decide)) (fun r203 => ?_)
      refine v_bipush hB 22 dL_comes_206 (by decide) ?_
      refine v_ishr hB dL_comes_208 ?_
      refine v_bipush hB 6 dL_comes_209 (by decide) ?_
      refine v_bRi (fun r211 e211 => v_callS hB hK hR.rm [.int (r203 >>> (22 &&& 31)), .int 6] [.int v4, .ref ((SC g).1.2.1 55)] lb_L_pick lv_L_33 (c_L_pick g hK.A X.1.2.1 (r203 >>> (22 &&& 31)) 6 h e211) dL_comes_211 rfl rfl (Nat.le_of_ble_eq_true rfl) (by decide) (by decide)) (fun r211 => ?_)
      refine v_goto (tgt := 218) hB dL_comes_214 rfl ?_
      exact V.sub [1, 2] rfl (hn218 v4 r211 h)
  have hn85 : ∀ (v4 : Int32) (v5 : Int32) (n : Nat), ∀ (v6 : Int32) (h : pq_H), V X (SC g) (rr, hh) 9 85 [(0, .ref ((SC g).1.2.1 55)), (1, .ref g.2.2.2.1), (2, .int p2), (4, .int v4), (5, .int v5), (6, .int v6)] [] h (lp (fun _ _ => none) (f_L_comes_l85 g.2.2.2.2 p2 v4 v5) n v6 h) := by
    intro v4 v5
    refine lp_ind (fun (w85 : Int32 → pq_H → Option (Bool × pq_H)) => ∀ (v6 : Int32) (h : pq_H), V X (SC g) (rr, hh) 9 85 [(0, .ref ((SC g).1.2.1 55)), (1, .ref g.2.2.2.1), (2, .int p2), (4, .int v4), (5, .int v5), (6, .int v6)] [] h (w85 v6 h)) (fun _ _ => V.none _ _ _ _) (fun w85 ih85 => ?_)
    have hn172 : ∀ (v6 : Int32) (s0 : Int32) (s1 : Int32) (h : pq_H), V X (SC g) (rr, hh) 9 172 [(0, .ref ((SC g).1.2.1 55)), (1, .ref g.2.2.2.1), (2, .int p2), (4, .int v4), (5, .int v5), (6, .int v6)] [.int s1, .int s0] h (f_L_comes_j172 w85 v6 s0 s1 h) := by
      intro v6 s0 s1 h
      unfold f_L_comes_j172
      refine v_icmp_eq (tgt := 177) hB dL_comes_172 rfl ?_ ?_
      · refine v_iinc hB (v6 + 1) [(0, .ref ((SC g).1.2.1 55)), (1, .ref g.2.2.2.1), (2, .int p2), (4, .int v4), (5, .int v5), (6, .int (v6 + 1))] 5 [1, 2, 3, 4, 5, 0] dL_comes_177 rfl rfl (by decide) rfl ?_
        refine v_goto (tgt := 85) hB dL_comes_180 rfl ?_
        exact V.sub [0, 1, 2, 3, 4, 5] rfl (ih85 (v6 + 1) h)
      · refine v_iconst hB 0 dL_comes_175 (by decide) ?_
        exact v_retWz (x := false) hB hK hR dL_comes_176
    have hn150 : ∀ (v6 : Int32) (s0 : Int32) (h : pq_H), V X (SC g) (rr, hh) 9 150 [(0, .ref ((SC g).1.2.1 55)), (1, .ref g.2.2.2.1), (2, .int p2), (4, .int v4), (5, .int v5), (6, .int v6)] [.int s0] h (f_L_comes_j150 v4 w85 v6 s0 h) := by
      intro v6 s0 h
      unfold f_L_comes_j150
      refine v_istore hB [(0, .ref ((SC g).1.2.1 55)), (1, .ref g.2.2.2.1), (2, .int p2), (4, .int v4), (5, .int v5), (6, .int v6), (8, .int s0)] [1, 2, 3, 4, 5, 6, 0] dL_comes_150 (by decide) rfl ?_
      refine v_aload_n hB 0 dL_comes_152 rfl rfl ?_
      refine v_iload hB 3 dL_comes_153 rfl ?_
      refine v_iload hB 5 dL_comes_155 rfl ?_
      refine v_iload hB 6 dL_comes_157 rfl ?_
      refine v_bWi (fun r159 h159 e159 => v_callV hB hK hR.rm [.int v4, .int v6, .int s0] [] (oC_55 g) lb_X10_change lv_L_36 (c_X10_change g hK.A X.1.2.1 v4 v6 s0 h e159) dL_comes_159 rfl rfl (Nat.le_of_ble_eq_true rfl) (by decide) (by decide)) (fun r159 h159 => ?_)
      refine v_iload hB 5 dL_comes_162 rfl ?_
      refine v_if_ne (tgt := 171) hB dL_comes_164 rfl ?_ ?_
      · refine v_iconst hB 0 dL_comes_171 (by decide) ?_
        exact V.sub [0, 1, 2, 3, 4, 5] rfl (hn172 v6 r159 0 h159)
      · refine v_iconst hB 1 dL_comes_167 (by decide) ?_
        refine v_goto (tgt := 172) hB dL_comes_168 rfl ?_
        exact V.sub [0, 1, 2, 3, 4, 5] rfl (hn172 v6 r159 1 h159)
    intro v6 h
    unfold f_L_comes_l85
    refine v_iload hB 5 dL_comes_85 rfl ?_
    refine v_iload hB 4 dL_comes_87 rfl ?_
    refine v_icmp_ge (tgt := 183) hB dL_comes_89 rfl ?_ ?_
    · exact V.sub [0, 1, 2, 3] rfl (hn183 v4 h)
    · refine v_aload_n hB 1 dL_comes_92 rfl rfl ?_
      refine v_iload_n hB 2 dL_comes_93 rfl rfl ?_
      refine v_iload hB 5 dL_comes_94 rfl ?_
      refine v_iadd hB dL_comes_96 ?_
      refine v_bRi (fun r97 e97 => v_callS hB hK hR.rm [.ref g.2.2.2.1, .int (p2 + v6)] [] lb_L_cell lv_L_27 (c_L_cell g hK.A X.1.2.1 (p2 + v6) h e97) dL_comes_97 rfl rfl (Nat.le_of_ble_eq_true rfl) (by decide) (by decide)) (fun r97 => ?_)
      refine v_istore hB [(0, .ref ((SC g).1.2.1 55)), (1, .ref g.2.2.2.1), (2, .int p2), (4, .int v4), (5, .int v5), (6, .int v6), (7, .int r97)] [1, 2, 3, 4, 5, 6, 0] dL_comes_100 (by decide) rfl ?_
      refine v_iload hB 6 dL_comes_102 rfl ?_
      refine v_iconst hB 4 dL_comes_104 (by decide) ?_
      refine v_bRi (fun r105 e105 => v_callS hB hK hR.rm [.int r97, .int 4] [] lb_L_pick lv_L_33 (c_L_pick g hK.A X.1.2.1 r97 4 h e105) dL_comes_105 rfl rfl (Nat.le_of_ble_eq_true rfl) (by decide) (by decide)) (fun r105 => ?_)
      refine v_if_ne (tgt := 115) hB dL_comes_108 rfl ?_ ?_
      · refine v_iload hB 6 dL_comes_115 rfl ?_
        refine v_iconst hB 2 dL_comes_117 (by decide) ?_
        refine v_ishr hB dL_comes_118 ?_
        refine v_iconst hB 5 dL_comes_119 (by decide) ?_
        refine v_bRi (fun r120 e120 => v_callS hB hK hR.rm [.int (r97 >>> (2 &&& 31)), .int 5] [] lb_L_pick lv_L_33 (c_L_pick g hK.A X.1.2.1 (r97 >>> (2 &&& 31)) 5 h e120) dL_comes_120 rfl rfl (Nat.le_of_ble_eq_true rfl) (by decide) (by decide)) (fun r120 => ?_)
        refine v_if_ne (tgt := 140) hB dL_comes_123 rfl ?_ ?_
        · refine v_iload hB 6 dL_comes_140 rfl ?_
          refine v_bipush hB 6 dL_comes_142 (by decide) ?_
          refine v_ishr hB dL_comes_144 ?_
          refine v_bipush hB 60 dL_comes_145 (by decide) ?_
          refine v_bRi (fun r147 e147 => v_callS hB hK hR.rm [.int (r97 >>> (6 &&& 31)), .int 60] [] lb_L_pick lv_L_33 (c_L_pick g hK.A X.1.2.1 (r97 >>> (6 &&& 31)) 60 h e147) dL_comes_147 rfl rfl (Nat.le_of_ble_eq_true rfl) (by decide) (by decide)) (fun r147 => ?_)
          exact V.sub [0, 1, 2, 3, 4, 5] rfl (hn150 v6 r147 h)
        · refine v_iload hB 6 dL_comes_126 rfl ?_
          refine v_bipush hB 6 dL_comes_128 (by decide) ?_
          refine v_ishr hB dL_comes_130 ?_
          refine v_bipush hB 20 dL_comes_131 (by decide) ?_
          refine v_bRi (fun r133 e133 => v_callS hB hK hR.rm [.int (r97 >>> (6 &&& 31)), .int 20] [] lb_L_pick lv_L_33 (c_L_pick g hK.A X.1.2.1 (r97 >>> (6 &&& 31)) 20 h e133) dL_comes_133 rfl rfl (Nat.le_of_ble_eq_true rfl) (by decide) (by decide)) (fun r133 => ?_)
          refine v_ineg hB dL_comes_136 ?_
          refine v_goto (tgt := 150) hB dL_comes_137 rfl ?_
          exact V.sub [0, 1, 2, 3, 4, 5] rfl (hn150 v6 (-r133) h)
      · refine v_iconst hB 0 dL_comes_111 (by decide) ?_
        refine v_goto (tgt := 150) hB dL_comes_112 rfl ?_
        exact V.sub [0, 1, 2, 3, 4, 5] rfl (hn150 v6 0 h)
  have hn22 : ∀ (h : pq_H), V X (SC g) (rr, hh) 9 22 [(0, .ref ((SC g).1.2.1 55)), (1, .ref g.2.2.2.1), (2, .int p2), (3, .int p3)] [] h (f_L_comes_j22 g.2.2.2.2 p2 p3 h) := by
    intro h
    unfold f_L_comes_j22
    refine v_aload_n hB 0 dL_comes_22 rfl rfl ?_
    refine v_bipush hB 48 dL_comes_23 (by decide) ?_
    refine v_iconst hB 1 dL_comes_25 (by decide) ?_
    refine v_iload_n hB 3 dL_comes_26 rfl rfl ?_
    refine v_mmax hB hR.rm lk_L_14 (by decide) (Nat.le_of_ble_eq_true rfl) dL_comes_27 ?_
    refine v_iadd hB dL_comes_30 ?_
    refine v_bWi (fun r31 h31 e31 => v_callV hB hK hR.rm [.int (48 + (if 1 < p3 then p3 else 1))] [] (oC_55 g) lb_X10_letter lv_L_8 (c_X10_letter g hK.A X.1.2.1 (48 + (if 1 < p3 then p3 else 1)) h e31) dL_comes_31 rfl rfl (Nat.le_of_ble_eq_true rfl) (by decide) (by decide)) (fun r31 h31 => ?_)
    refine v_pop hB dL_comes_34 rfl ?_
    refine v_aload_n hB 0 dL_comes_35 rfl rfl ?_
    refine v_bWi (fun r36 h36 e36 => v_callV hB hK hR.rm [] [] (oC_55 g) lb_X10_form lv_L_20 (c_X10_form g hK.A X.1.2.1 h31 e36) dL_comes_36 rfl rfl (Nat.le_of_ble_eq_true rfl) (by decide) (by decide)) (fun r36 h36 => ?_)
    refine v_istore hB [(0, .ref ((SC g).1.2.1 55)), (1, .ref g.2.2.2.1), (2, .int p2), (3, .int p3), (4, .int r36)] [1, 2, 3, 4, 0] dL_comes_39 (by decide) rfl ?_
    refine v_iload_n hB 3 dL_comes_41 rfl rfl ?_
    refine v_iconst hB 1 dL_comes_42 (by decide) ?_
    refine v_iadd hB dL_comes_43 ?_
    refine v_iload_n hB 3 dL_comes_44 rfl rfl ?_
    refine v_iconst hB 2 dL_comes_45 (by decide) ?_
    refine v_iadd hB dL_comes_46 ?_
    refine v_imul hB dL_comes_47 ?_
    refine v_iconst hB 2 dL_comes_48 (by decide) ?_
    refine v_idiv hB dL_comes_49 (by decide) ?_
    refine v_istore hB [(0, .ref ((SC g).1.2.1 55)), (1, .ref g.2.2.2.1), (2, .int p2), (3, .int p3), (4, .int r36), (5, .int (((p3 + 1) * (p3 + 2)) / 2))] [1, 2, 3, 4, 5, 0] dL_comes_50 (by decide) rfl ?_
    refine v_iload hB 4 dL_comes_52 rfl ?_
    refine v_if_lt (tgt := 80) hB dL_comes_54 rfl ?_ ?_
    · refine v_iconst hB 0 dL_comes_80 (by decide) ?_
      exact v_retWz (x := false) hB hK hR dL_comes_81
    · refine v_aload_n hB 0 dL_comes_57 rfl rfl ?_
      refine v_iload hB 4 dL_comes_58 rfl ?_
      refine v_iconst hB 2 dL_comes_60 (by decide) ?_
      refine v_bWi (fun r61 h61 e61 => v_callV hB hK hR.rm [.int r36, .int 2] [] (oC_55 g) lb_X10_of lv_L_24 (c_X10_of g hK.A X.1.2.1 r36 2 h36 e61) dL_comes_61 rfl rfl (Nat.le_of_ble_eq_true rfl) (by decide) (by decide)) (fun r61 h61 => ?_)
      refine v_iload_n hB 3 dL_comes_64 rfl rfl ?_
      refine v_icmp_ne (tgt := 80) hB dL_comes_65 rfl ?_ ?_
      · refine v_iconst hB 0 dL_comes_80 (by decide) ?_
        exact v_retWz (x := false) hB hK hR dL_comes_81
      · refine v_aload_n hB 0 dL_comes_68 rfl rfl ?_
        refine v_iload hB 4 dL_comes_69 rfl ?_
        refine v_iconst hB 3 dL_comes_71 (by decide) ?_
        refine v_bWi (fun r72 h72 e72 => v_callV hB hK hR.rm [.int r36, .int 3] [] (oC_55 g) lb_X10_of lv_L_24 (c_X10_of g hK.A X.1.2.1 r36 3 h61 e72) dL_comes_72 rfl rfl (Nat.le_of_ble_eq_true rfl) (by decide) (by decide)) (fun r72 h72 => ?_)
        refine v_iload hB 5 dL_comes_75 rfl ?_
        refine v_icmp_eq (tgt := 82) hB dL_comes_77 rfl ?_ ?_
        · refine v_iconst hB 0 dL_comes_82 (by decide) ?_
          refine v_istore hB [(0, .ref ((SC g).1.2.1 55)), (1, .ref g.2.2.2.1), (2, .int p2), (3, .int p3), (4, .int r36), (5, .int (((p3 + 1) * (p3 + 2)) / 2)), (6, .int 0)] [1, 2, 3, 4, 5, 6, 0] dL_comes_83 (by decide) rfl ?_
          exact V.sub [0, 1, 2, 4, 5, 6] rfl (hn85 r36 (((p3 + 1) * (p3 + 2)) / 2) 1000 0 h72)
        · refine v_iconst hB 0 dL_comes_80 (by decide) ?_
          exact v_retWz (x := false) hB hK hR dL_comes_81
  have hn11 : ∀ (h : pq_H), V X (SC g) (rr, hh) 9 11 [(0, .ref ((SC g).1.2.1 55)), (1, .ref g.2.2.2.1), (2, .int p2), (3, .int p3)] [] h (f_L_comes_j11 g.2.2.2.2 p2 p3 h) := by
    intro h
    unfold f_L_comes_j11
    refine v_iload_n hB 3 dL_comes_11 rfl rfl ?_
    refine v_if_le (tgt := 22) hB dL_comes_12 rfl ?_ ?_
    · exact V.sub [0, 1, 2, 3] rfl (hn22 h)
    · refine v_aload_n hB 0 dL_comes_15 rfl rfl ?_
      refine v_bipush hB 94 dL_comes_16 (by decide) ?_
      refine v_bWi (fun r18 h18 e18 => v_callV hB hK hR.rm [.int 94] [] (oC_55 g) lb_X10_letter lv_L_8 (c_X10_letter g hK.A X.1.2.1 94 h e18) dL_comes_18 rfl rfl (Nat.le_of_ble_eq_true rfl) (by decide) (by decide)) (fun r18 h18 => ?_)
      refine v_pop hB dL_comes_21 rfl ?_
      exact V.sub [0, 1, 2, 3] rfl (hn22 h18)
  unfold f_L_comes
  refine v_iload_n hB 3 dL_comes_0 rfl rfl ?_
  refine v_if_le (tgt := 11) hB dL_comes_1 rfl ?_ ?_
  · exact V.sub [0, 1, 2, 3] rfl (hn11 h)
  · refine v_aload_n hB 0 dL_comes_4 rfl rfl ?_
    refine v_bipush hB 97 dL_comes_5 (by decide) ?_
    refine v_bWi (fun r7 h7 e7 => v_callV hB hK hR.rm [.int 97] [] (oC_55 g) lb_X10_letter lv_L_8 (c_X10_letter g hK.A X.1.2.1 97 h e7) dL_comes_7 rfl rfl (Nat.le_of_ble_eq_true rfl) (by decide) (by decide)) (fun r7 h7 => ?_)
    refine v_pop hB dL_comes_10 rfl ?_
    exact V.sub [0, 1, 2, 3] rfl (hn11 h7)

def f_L_lifts_j301 (s0 : Int32) (s1 : Int32) (h : pq_H) : Option (Bool × pq_H) :=
  if s0 = s1 then (some (true, h)) else (some (false, h))
def f_L_lifts_j249 (p1 : Int32) (p2 : Int32) (h : pq_H) : Option (Bool × pq_H) :=
  bd2 (f_X10_proof p1 p2 h) fun r252 h252 => bd2 (f_X10_least p1 p2 1 h252) fun r261 h261 => if r261 < 0 then (bd2 (f_X10_least p1 p2 0 h261) fun r275 h275 => if r275 < 0 then (bd2 (f_X10_failing p1 p2 0 0 h275) fun r290 h290 => if r290 ≤ 0 then (f_L_lifts_j301 r252 3 h290) else (f_L_lifts_j301 r252 2 h290)) else (f_L_lifts_j301 r252 1 h275)) else (f_L_lifts_j301 r252 0 h261)
def f_L_lifts_j210 (p1 : Int32) (p2 : Int32) (h : pq_H) : Option (Bool × pq_H) :=
  bd2 (f_X10_least p1 p2 1 h) fun r214 h214 => if r214 < 0 then (f_L_lifts_j249 p1 p2 h214) else (bd2 (f_X10_least p1 p2 0 h214) fun r224 h224 => if r224 < 0 then (some (false, h224)) else (bd2 (f_X10_least p1 p2 0 h224) fun r234 h234 => bd2 (f_X10_least p1 p2 1 h234) fun r241 h241 => if r234 ≤ r241 then (f_L_lifts_j249 p1 p2 h241) else (some (false, h241))))
def f_L_lifts_j204 (w2 : Int32 → pq_H → Option (Bool × pq_H)) (v3 : Int32) (h : pq_H) : Option (Bool × pq_H) :=
  w2 (v3 + 1) h
def f_L_lifts_j157 (p1 : Int32) (p2 : Int32) (w2 : Int32 → pq_H → Option (Bool × pq_H)) (v3 : Int32) (v5 : Int32) (h : pq_H) : Option (Bool × pq_H) :=
  if v5 ≤ 1 then (f_L_lifts_j204 w2 v3 h) else (if v3 = 0 then (bd2 (f_X10_lowest p1 p2 (v5 - 1) 0 h) fun r175 h175 => if 0 ≤ r175 then (f_L_lifts_j204 w2 v3 h175) else (some (false, h175))) else (bd2 (f_X10_lowest p1 p2 (v5 - 1) 0 h) fun r194 h194 => if 0 < r194 then (f_L_lifts_j204 w2 v3 h194) else (some (false, h194))))
def f_L_lifts_j115 (p1 : Int32) (p2 : Int32) (w2 : Int32 → pq_H → Option (Bool × pq_H)) (v3 : Int32) (v5 : Int32) (h : pq_H) : Option (Bool × pq_H) :=
  if v5 ≤ 0 then (f_L_lifts_j157 p1 p2 w2 v3 v5 h) else (if v3 = 0 then (bd2 (f_X10_lowest p1 p2 v5 0 h) fun r130 h130 => if r130 < 0 then (f_L_lifts_j157 p1 p2 w2 v3 v5 h130) else (some (false, h130))) else (bd2 (f_X10_lowest p1 p2 v5 0 h) fun r147 h147 => if r147 ≤ 0 then (f_L_lifts_j157 p1 p2 w2 v3 v5 h147) else (some (false, h147))))
def f_L_lifts_j96 (p1 : Int32) (p2 : Int32) (w2 : Int32 → pq_H → Option (Bool × pq_H)) (v3 : Int32) (v4 : Int32) (v5 : Int32) (h : pq_H) : Option (Bool × pq_H) :=
  if 0 ≤ v4 then (f_L_lifts_j115 p1 p2 w2 v3 v5 h) else (bd2 (f_X10_fault p1 p2 12 v3 h) fun r107 h107 => if 0 ≤ r107 then (f_L_lifts_j115 p1 p2 w2 v3 v5 h107) else (some (false, h107)))
def f_L_lifts_j75 (p1 : Int32) (p2 : Int32) (w2 : Int32 → pq_H → Option (Bool × pq_H)) (v3 : Int32) (v4 : Int32) (v5 : Int32) (h : pq_H) : Option (Bool × pq_H) :=
  if v4 ≤ 0 then (f_L_lifts_j96 p1 p2 w2 v3 v4 v5 h) else (bd2 (f_X10_fault p1 p2 (v4 - 1) v3 h) fun r88 h88 => if 0 ≤ r88 then (f_L_lifts_j96 p1 p2 w2 v3 v4 v5 h88) else (some (false, h88)))
def f_L_lifts_l2 (p1 : Int32) (p2 : Int32) (w2 : Int32 → pq_H → Option (Bool × pq_H)) (v3 : Int32) (h : pq_H) : Option (Bool × pq_H) :=
  if 2 ≤ v3 then (f_L_lifts_j210 p1 p2 h) else (bd2 (f_X10_least p1 p2 v3 h) fun r11 h11 => bd2 (f_X10_failing p1 p2 v3 0 h11) fun r21 h21 => if r11 < 0 then (f_L_lifts_j96 p1 p2 w2 v3 r11 r21 h21) else (if r21 = (-9) then (bd2 (f_X10_fault p1 p2 r11 v3 h21) fun r44 h44 => if r44 = (-9) then (if 12 ≤ r11 then (f_L_lifts_j75 p1 p2 w2 v3 r11 r21 h44) else (bd2 (f_X10_fault p1 p2 (r11 + 1) v3 h44) fun r67 h67 => if r67 = (-9) then (f_L_lifts_j75 p1 p2 w2 v3 r11 r21 h67) else (some (false, h67)))) else (some (false, h44))) else (some (false, h21))))
def f_L_lifts (p1 : Int32) (p2 : Int32) (h : pq_H) : Option (Bool × pq_H) :=
  lp (fun _ _ => none) (f_L_lifts_l2 p1 p2) 1000 0 h
set_option maxRecDepth 100000 in
set_option maxHeartbeats 4000000 in
theorem c_L_lifts (g : pq_g) {A : Nat → Prop} (hA : pq_A (SC g) A) (l : Launch) (p1 : Int32) (p2 : Int32) (h : pq_H) {rr : Bool} {hh : pq_H} (e : f_L_lifts p1 p2 h = some (rr, hh)) : pq_M (SC g) A l yL_lifts cL_lifts 6 (some .boolean) 6 142 [.ref ((SC g).1.2.1 55), .int p1, .int p2] h (some (.int (b2i rr))) hh := by
  refine pq_met hA l (own := RL) 6 142 _ [(0, .ref ((SC g).1.2.1 55)), (1, .int p1), (2, .int p2)] h _ hh (by decide +kernel) rfl (Nat.le_of_ble_eq_true rfl) rfl (fun X hXl hXA hB hK hR => ?_)
  refine V.cast (F' := f_L_lifts p1 p2 h) (res' := (rr, hh)) (fun _ => e) ?_
  have hn301 : ∀ (s0 : Int32) (s1 : Int32) (h : pq_H), V X (SC g) (rr, hh) 6 301 [] [.int s1, .int s0] h (f_L_lifts_j301 s0 s1 h) := by
    intro s0 s1 h
    unfold f_L_lifts_j301
    refine v_icmp_ne (tgt := 308) hB dL_lifts_301 rfl ?_ ?_
    · refine v_iconst hB 0 dL_lifts_308 (by decide) ?_
      exact v_retWz (x := false) hB hK hR dL_lifts_309
    · refine v_iconst hB 1 dL_lifts_304 (by decide) ?_
      refine v_goto (tgt := 309) hB dL_lifts_305 rfl ?_
      exact v_retWz (x := true) hB hK hR dL_lifts_309
  have hn249 : ∀ (h : pq_H), V X (SC g) (rr, hh) 6 249 [(0, .ref ((SC g).1.2.1 55)), (1, .int p1), (2, .int p2)] [] h (f_L_lifts_j249 p1 p2 h) := by
    intro h
    unfold f_L_lifts_j249
    refine v_aload_n hB 0 dL_lifts_249 rfl rfl ?_
    refine v_iload_n hB 1 dL_lifts_250 rfl rfl ?_
    refine v_iload_n hB 2 dL_lifts_251 rfl rfl ?_
    refine v_bWi (fun r252 h252 e252 => v_callV hB hK hR.rm [.int p1, .int p2] [] (oC_55 g) lb_X10_proof lv_L_57 (c_X10_proof g hK.A X.1.2.1 p1 p2 h e252) dL_lifts_252 rfl rfl (Nat.le_of_ble_eq_true rfl) (by decide) (by decide)) (fun r252 h252 => ?_)
    refine v_istore_n hB [(0, .ref ((SC g).1.2.1 55)), (1, .int p1), (2, .int p2), (3, .int r252)] [1, 2, 3, 0] dL_lifts_255 rfl (by decide) rfl ?_
    refine v_iload_n hB 3 dL_lifts_256 rfl rfl ?_
    refine v_aload_n hB 0 dL_lifts_257 rfl rfl ?_
    refine v_iload_n hB 1 dL_lifts_258 rfl rfl ?_
    refine v_iload_n hB 2 dL_lifts_259 rfl rfl ?_
    refine v_iconst hB 1 dL_lifts_260 (by decide) ?_
    refine v_bWi (fun r261 h261 e261 => v_callV hB hK hR.rm [.int p1, .int p2, .int 1] [.int r252] (oC_55 g) lb_X10_least lv_L_43 (c_X10_least g hK.A X.1.2.1 p1 p2 1 h252 e261) dL_lifts_261 rfl rfl (Nat.le_of_ble_eq_true rfl) (by decide) (by decide)) (fun r261 h261 => ?_)
    refine v_if_lt (tgt := 271) hB dL_lifts_264 rfl ?_ ?_
    · refine v_aload_n hB 0 dL_lifts_271 rfl rfl ?_
      refine v_iload_n hB 1 dL_lifts_272 rfl rfl ?_
      refine v_iload_n hB 2 dL_lifts_273 rfl rfl ?_
      refine v_iconst hB 0 dL_lifts_274 (by decide) ?_
      refine v_bWi (fun r275 h275 e275 => v_callV hB hK hR.rm [.int p1, .int p2, .int 0] [.int r252] (oC_55 g) lb_X10_least lv_L_43 (c_X10_least g hK.A X.1.2.1 p1 p2 0 h261 e275) dL_lifts_275 rfl rfl (Nat.le_of_ble_eq_true rfl) (by decide) (by decide)) (fun r275 h275 => ?_)
      refine v_if_lt (tgt := 285) hB dL_lifts_278 rfl ?_ ?_
      · refine v_aload_n hB 0 dL_lifts_285 rfl rfl ?_
        refine v_iload_n hB 1 dL_lifts_286 rfl rfl ?_
        refine v_iload_n hB 2 dL_lifts_287 rfl rfl ?_
        refine v_iconst hB 0 dL_lifts_288 (by decide) ?_
        refine v_iconst hB 0 dL_lifts_289 (by decide) ?_
        refine v_bWi (fun r290 h290 e290 => v_callV hB hK hR.rm [.int p1, .int p2, .int 0, .int 0] [.int r252] (oC_55 g) lb_X10_failing lv_L_46 (c_X10_failing g hK.A X.1.2.1 p1 p2 0 0 h275 e290) dL_lifts_290 rfl rfl (Nat.le_of_ble_eq_true rfl) (by decide) (by decide)) (fun r290 h290 => ?_)
        refine v_if_le (tgt := 300) hB dL_lifts_293 rfl ?_ ?_
        · refine v_iconst hB 3 dL_lifts_300 (by decide) ?_
          exact V.sub [] rfl (hn301 r252 3 h290)
        · refine v_iconst hB 2 dL_lifts_296 (by decide) ?_
          refine v_goto (tgt := 301) hB dL_lifts_297 rfl ?_
          exact V.sub [] rfl (hn301 r252 2 h290)
      · refine v_iconst hB 1 dL_lifts_281 (by decide) ?_
        refine v_goto (tgt := 301) hB dL_lifts_282 rfl ?_
        exact V.sub [] rfl (hn301 r252 1 h275)
    · refine v_iconst hB 0 dL_lifts_267 (by decide) ?_
      refine v_goto (tgt := 301) hB dL_lifts_268 rfl ?_
      exact V.sub [] rfl (hn301 r252 0 h261)
  have hn210 : ∀ (h : pq_H), V X (SC g) (rr, hh) 6 210 [(0, .ref ((SC g).1.2.1 55)), (1, .int p1), (2, .int p2)] [] h (f_L_lifts_j210 p1 p2 h) := by
    intro h
    unfold f_L_lifts_j210
    refine v_aload_n hB 0 dL_lifts_210 rfl rfl ?_
    refine v_iload_n hB 1 dL_lifts_211 rfl rfl ?_
    refine v_iload_n hB 2 dL_lifts_212 rfl rfl ?_
    refine v_iconst hB 1 dL_lifts_213 (by decide) ?_
    refine v_bWi (fun r214 h214 e214 => v_callV hB hK hR.rm [.int p1, .int p2, .int 1] [] (oC_55 g) lb_X10_least lv_L_43 (c_X10_least g hK.A X.1.2.1 p1 p2 1 h e214) dL_lifts_214 rfl rfl (Nat.le_of_ble_eq_true rfl) (by decide) (by decide)) (fun r214 h214 => ?_)
    refine v_if_lt (tgt := 249) hB dL_lifts_217 rfl ?_ ?_
    · exact V.sub [0, 1, 2] rfl (hn249 h214)
    · refine v_aload_n hB 0 dL_lifts_220 rfl rfl ?_
      refine v_iload_n hB 1 dL_lifts_221 rfl rfl ?_
      refine v_iload_n hB 2 dL_lifts_222 rfl rfl ?_
      refine v_iconst hB 0 dL_lifts_223 (by decide) ?_
      refine v_bWi (fun r224 h224 e224 => v_callV hB hK hR.rm [.int p1, .int p2, .int 0] [] (oC_55 g) lb_X10_least lv_L_43 (c_X10_least g hK.A X.1.2.1 p1 p2 0 h214 e224) dL_lifts_224 rfl rfl (Nat.le_of_ble_eq_true rfl) (by decide) (by decide)) (fun r224 h224 => ?_)
      refine v_if_lt (tgt := 247) hB dL_lifts_227 rfl ?_ ?_
      · refine v_iconst hB 0 dL_lifts_247 (by decide) ?_
        exact v_retWz (x := false) hB hK hR dL_lifts_248
      · refine v_aload_n hB 0 dL_lifts_230 rfl rfl ?_
        refine v_iload_n hB 1 dL_lifts_231 rfl rfl ?_
        refine v_iload_n hB 2 dL_lifts_232 rfl rfl ?_
        refine v_iconst hB 0 dL_lifts_233 (by decide) ?_
        refine v_bWi (fun r234 h234 e234 => v_callV hB hK hR.rm [.int p1, .int p2, .int 0] [] (oC_55 g) lb_X10_least lv_L_43 (c_X10_least g hK.A X.1.2.1 p1 p2 0 h224 e234) dL_lifts_234 rfl rfl (Nat.le_of_ble_eq_true rfl) (by decide) (by decide)) (fun r234 h234 => ?_)
        refine v_aload_n hB 0 dL_lifts_237 rfl rfl ?_
        refine v_iload_n hB 1 dL_lifts_238 rfl rfl ?_
        refine v_iload_n hB 2 dL_lifts_239 rfl rfl ?_
        refine v_iconst hB 1 dL_lifts_240 (by decide) ?_
        refine v_bWi (fun r241 h241 e241 => v_callV hB hK hR.rm [.int p1, .int p2, .int 1] [.int r234] (oC_55 g) lb_X10_least lv_L_43 (c_X10_least g hK.A X.1.2.1 p1 p2 1 h234 e241) dL_lifts_241 rfl rfl (Nat.le_of_ble_eq_true rfl) (by decide) (by decide)) (fun r241 h241 => ?_)
        refine v_icmp_le (tgt := 249) hB dL_lifts_244 rfl ?_ ?_
        · exact V.sub [0, 1, 2] rfl (hn249 h241)
        · refine v_iconst hB 0 dL_lifts_247 (by decide) ?_
          exact v_retWz (x := false) hB hK hR dL_lifts_248
  have hn2 : ∀ (n : Nat), ∀ (v3 : Int32) (h : pq_H), V X (SC g) (rr, hh) 6 2 [(0, .ref ((SC g).1.2.1 55)), (1, .int p1), (2, .int p2), (3, .int v3)] [] h (lp (fun _ _ => none) (f_L_lifts_l2 p1 p2) n v3 h) := by
    refine lp_ind (fun (w2 : Int32 → pq_H → Option (Bool × pq_H)) => ∀ (v3 : Int32) (h : pq_H), V X (SC g) (rr, hh) 6 2 [(0, .ref ((SC g).1.2.1 55)), (1, .int p1), (2, .int p2), (3, .int v3)] [] h (w2 v3 h)) (fun _ _ => V.none _ _ _ _) (fun w2 ih2 => ?_)
    have hn204 : ∀ (v3 : Int32) (h : pq_H), V X (SC g) (rr, hh) 6 204 [(0, .ref ((SC g).1.2.1 55)), (1, .int p1), (2, .int p2), (3, .int v3)] [] h (f_L_lifts_j204 w2 v3 h) := by
      intro v3 h
      unfold f_L_lifts_j204
      refine v_iinc hB (v3 + 1) [(0, .ref ((SC g).1.2.1 55)), (1, .int p1), (2, .int p2), (3, .int (v3 + 1))] 3 [1, 2, 3, 0] dL_lifts_204 rfl rfl (by decide) rfl ?_
      refine v_goto (tgt := 2) hB dL_lifts_207 rfl ?_
      exact V.sub [0, 1, 2, 3] rfl (ih2 (v3 + 1) h)
    have hn157 : ∀ (v3 : Int32) (v5 : Int32) (h : pq_H), V X (SC g) (rr, hh) 6 157 [(0, .ref ((SC g).1.2.1 55)), (1, .int p1), (2, .int p2), (3, .int v3), (5, .int v5)] [] h (f_L_lifts_j157 p1 p2 w2 v3 v5 h) := by
      intro v3 v5 h
      unfold f_L_lifts_j157
      refine v_iload hB 4 dL_lifts_157 rfl ?_
      refine v_iconst hB 1 dL_lifts_159 (by decide) ?_
      refine v_icmp_le (tgt := 204) hB dL_lifts_160 rfl ?_ ?_
      · exact V.sub [0, 1, 2, 3] rfl (hn204 v3 h)
      · refine v_iload_n hB 3 dL_lifts_163 rfl rfl ?_
        refine v_if_ne (tgt := 186) hB dL_lifts_164 rfl ?_ ?_
        · refine v_aload_n hB 0 dL_lifts_186 rfl rfl ?_
          refine v_iload_n hB 1 dL_lifts_187 rfl rfl ?_
          refine v_iload_n hB 2 dL_lifts_188 rfl rfl ?_
          refine v_iload hB 4 dL_lifts_189 rfl ?_
          refine v_iconst hB 1 dL_lifts_191 (by decide) ?_
          refine v_isub hB dL_lifts_192 ?_
          refine v_iconst hB 0 dL_lifts_193 (by decide) ?_
          refine v_bWj (fun r194 h194 e194 => v_callV hB hK hR.rm [.int p1, .int p2, .int (v5 - 1), .int 0] [] (oC_55 g) lb_X10_lowest lv_L_53 (c_X10_lowest g hK.A X.1.2.1 p1 p2 (v5 - 1) 0 h e194) dL_lifts_194 rfl rfl (Nat.le_of_ble_eq_true rfl) (by decide) (by decide)) (fun r194 h194 => ?_)
          refine v_lconst hB 0 dL_lifts_197 (by decide) ?_
          refine v_lcmp_gt (tgt := 204) hB dL_lifts_198 dL_lifts_199 rfl ?_ ?_
          · exact V.sub [0, 1, 2, 3] rfl (hn204 v3 h194)
          · refine v_iconst hB 0 dL_lifts_202 (by decide) ?_
            exact v_retWz (x := false) hB hK hR dL_lifts_203
        · refine v_aload_n hB 0 dL_lifts_167 rfl rfl ?_
          refine v_iload_n hB 1 dL_lifts_168 rfl rfl ?_
          refine v_iload_n hB 2 dL_lifts_169 rfl rfl ?_
          refine v_iload hB 4 dL_lifts_170 rfl ?_
          refine v_iconst hB 1 dL_lifts_172 (by decide) ?_
          refine v_isub hB dL_lifts_173 ?_
          refine v_iconst hB 0 dL_lifts_174 (by decide) ?_
          refine v_bWj (fun r175 h175 e175 => v_callV hB hK hR.rm [.int p1, .int p2, .int (v5 - 1), .int 0] [] (oC_55 g) lb_X10_lowest lv_L_53 (c_X10_lowest g hK.A X.1.2.1 p1 p2 (v5 - 1) 0 h e175) dL_lifts_175 rfl rfl (Nat.le_of_ble_eq_true rfl) (by decide) (by decide)) (fun r175 h175 => ?_)
          refine v_lconst hB 0 dL_lifts_178 (by decide) ?_
          refine v_lcmp_ge (tgt := 204) hB dL_lifts_179 dL_lifts_180 rfl ?_ ?_
          · exact V.sub [0, 1, 2, 3] rfl (hn204 v3 h175)
          · refine v_goto (tgt := 202) hB dL_lifts_183 rfl ?_
            refine v_iconst hB 0 dL_lifts_202 (by decide) ?_
            exact v_retWz (x := false) hB hK hR dL_lifts_203
    have hn115 : ∀ (v3 : Int32) (v5 : Int32) (h : pq_H), V X (SC g) (rr, hh) 6 115 [(0, .ref ((SC g).1.2.1 55)), (1, .int p1), (2, .int p2), (3, .int v3), (5, .int v5)] [] h (f_L_lifts_j115 p1 p2 w2 v3 v5 h) := by
      intro v3 v5 h
      unfold f_L_lifts_j115
      refine v_iload hB 4 dL_lifts_115 rfl ?_
      refine v_if_le (tgt := 157) hB dL_lifts_117 rfl ?_ ?_
      · exact V.sub [0, 1, 2, 3, 4] rfl (hn157 v3 v5 h)
      · refine v_iload_n hB 3 dL_lifts_120 rfl rfl ?_
        refine v_if_ne (tgt := 141) hB dL_lifts_121 rfl ?_ ?_
        · refine v_aload_n hB 0 dL_lifts_141 rfl rfl ?_
          refine v_iload_n hB 1 dL_lifts_142 rfl rfl ?_
          refine v_iload_n hB 2 dL_lifts_143 rfl rfl ?_
          refine v_iload hB 4 dL_lifts_144 rfl ?_
          refine v_iconst hB 0 dL_lifts_146 (by decide) ?_
          refine v_bWj (fun r147 h147 e147 => v_callV hB hK hR.rm [.int p1, .int p2, .int v5, .int 0] [] (oC_55 g) lb_X10_lowest lv_L_53 (c_X10_lowest g hK.A X.1.2.1 p1 p2 v5 0 h e147) dL_lifts_147 rfl rfl (Nat.le_of_ble_eq_true rfl) (by decide) (by decide)) (fun r147 h147 => ?_)
          refine v_lconst hB 0 dL_lifts_150 (by decide) ?_
          refine v_lcmp_le (tgt := 157) hB dL_lifts_151 dL_lifts_152 rfl ?_ ?_
          · exact V.sub [0, 1, 2, 3, 4] rfl (hn157 v3 v5 h147)
          · refine v_iconst hB 0 dL_lifts_155 (by decide) ?_
            exact v_retWz (x := false) hB hK hR dL_lifts_156
        · refine v_aload_n hB 0 dL_lifts_124 rfl rfl ?_
          refine v_iload_n hB 1 dL_lifts_125 rfl rfl ?_
          refine v_iload_n hB 2 dL_lifts_126 rfl rfl ?_
          refine v_iload hB 4 dL_lifts_127 rfl ?_
          refine v_iconst hB 0 dL_lifts_129 (by decide) ?_
          refine v_bWj (fun r130 h130 e130 => v_callV hB hK hR.rm [.int p1, .int p2, .int v5, .int 0] [] (oC_55 g) lb_X10_lowest lv_L_53 (c_X10_lowest g hK.A X.1.2.1 p1 p2 v5 0 h e130) dL_lifts_130 rfl rfl (Nat.le_of_ble_eq_true rfl) (by decide) (by decide)) (fun r130 h130 => ?_)
          refine v_lconst hB 0 dL_lifts_133 (by decide) ?_
          refine v_lcmp_lt (tgt := 157) hB dL_lifts_134 dL_lifts_135 rfl ?_ ?_
          · exact V.sub [0, 1, 2, 3, 4] rfl (hn157 v3 v5 h130)
          · refine v_goto (tgt := 155) hB dL_lifts_138 rfl ?_
            refine v_iconst hB 0 dL_lifts_155 (by decide) ?_
            exact v_retWz (x := false) hB hK hR dL_lifts_156
    have hn96 : ∀ (v3 : Int32) (v4 : Int32) (v5 : Int32) (h : pq_H), V X (SC g) (rr, hh) 6 96 [(0, .ref ((SC g).1.2.1 55)), (1, .int p1), (2, .int p2), (3, .int v3), (4, .int v4), (5, .int v5)] [] h (f_L_lifts_j96 p1 p2 w2 v3 v4 v5 h) := by
      intro v3 v4 v5 h
      unfold f_L_lifts_j96
      refine v_iload hB 4 dL_lifts_96 rfl ?_
      refine v_if_ge (tgt := 115) hB dL_lifts_98 rfl ?_ ?_
      · exact V.sub [0, 1, 2, 3, 5] rfl (hn115 v3 v5 h)
      · refine v_aload_n hB 0 dL_lifts_101 rfl rfl ?_
        refine v_iload_n hB 1 dL_lifts_102 rfl rfl ?_
        refine v_iload_n hB 2 dL_lifts_103 rfl rfl ?_
        refine v_bipush hB 12 dL_lifts_104 (by decide) ?_
        refine v_iload_n hB 3 dL_lifts_106 rfl rfl ?_
        refine v_bWi (fun r107 h107 e107 => v_callV hB hK hR.rm [.int p1, .int p2, .int 12, .int v3] [] (oC_55 g) lb_X10_fault lv_L_50 (c_X10_fault g hK.A X.1.2.1 p1 p2 12 v3 h e107) dL_lifts_107 rfl rfl (Nat.le_of_ble_eq_true rfl) (by decide) (by decide)) (fun r107 h107 => ?_)
        refine v_if_ge (tgt := 115) hB dL_lifts_110 rfl ?_ ?_
        · exact V.sub [0, 1, 2, 3, 5] rfl (hn115 v3 v5 h107)
        · refine v_iconst hB 0 dL_lifts_113 (by decide) ?_
          exact v_retWz (x := false) hB hK hR dL_lifts_114
    have hn75 : ∀ (v3 : Int32) (v4 : Int32) (v5 : Int32) (h : pq_H), V X (SC g) (rr, hh) 6 75 [(0, .ref ((SC g).1.2.1 55)), (1, .int p1), (2, .int p2), (3, .int v3), (4, .int v4), (5, .int v5)] [] h (f_L_lifts_j75 p1 p2 w2 v3 v4 v5 h) := by
      intro v3 v4 v5 h
      unfold f_L_lifts_j75
      refine v_iload hB 4 dL_lifts_75 rfl ?_
      refine v_if_le (tgt := 96) hB dL_lifts_77 rfl ?_ ?_
      · exact V.sub [0, 1, 2, 3, 4, 5] rfl (hn96 v3 v4 v5 h)
      · refine v_aload_n hB 0 dL_lifts_80 rfl rfl ?_
        refine v_iload_n hB 1 dL_lifts_81 rfl rfl ?_
        refine v_iload_n hB 2 dL_lifts_82 rfl rfl ?_
        refine v_iload hB 4 dL_lifts_83 rfl ?_
        refine v_iconst hB 1 dL_lifts_85 (by decide) ?_
        refine v_isub hB dL_lifts_86 ?_
        refine v_iload_n hB 3 dL_lifts_87 rfl rfl ?_
        refine v_bWi (fun r88 h88 e88 => v_callV hB hK hR.rm [.int p1, .int p2, .int (v4 - 1), .int v3] [] (oC_55 g) lb_X10_fault lv_L_50 (c_X10_fault g hK.A X.1.2.1 p1 p2 (v4 - 1) v3 h e88) dL_lifts_88 rfl rfl (Nat.le_of_ble_eq_true rfl) (by decide) (by decide)) (fun r88 h88 => ?_)
        refine v_if_ge (tgt := 96) hB dL_lifts_91 rfl ?_ ?_
        · exact V.sub [0, 1, 2, 3, 4, 5] rfl (hn96 v3 v4 v5 h88)
        · refine v_iconst hB 0 dL_lifts_94 (by decide) ?_
          exact v_retWz (x := false) hB hK hR dL_lifts_95
    intro v3 h
    unfold f_L_lifts_l2
    refine v_iload_n hB 3 dL_lifts_2 rfl rfl ?_
    refine v_iconst hB 2 dL_lifts_3 (by decide) ?_
    refine v_icmp_ge (tgt := 210) hB dL_lifts_4 rfl ?_ ?_
    · exact V.sub [0, 1, 2] rfl (hn210 h)
    · refine v_aload_n hB 0 dL_lifts_7 rfl rfl ?_
      refine v_iload_n hB 1 dL_lifts_8 rfl rfl ?_
      refine v_iload_n hB 2 dL_lifts_9 rfl rfl ?_
      refine v_iload_n hB 3 dL_lifts_10 rfl rfl ?_
      refine v_bWi (fun r11 h11 e11 => v_callV hB hK hR.rm [.int p1, .int p2, .int v3] [] (oC_55 g) lb_X10_least lv_L_43 (c_X10_least g hK.A X.1.2.1 p1 p2 v3 h e11) dL_lifts_11 rfl rfl (Nat.le_of_ble_eq_true rfl) (by decide) (by decide)) (fun r11 h11 => ?_)
      refine v_istore hB [(0, .ref ((SC g).1.2.1 55)), (1, .int p1), (2, .int p2), (3, .int v3), (4, .int r11)] [1, 2, 3, 4, 0] dL_lifts_14 (by decide) rfl ?_
      refine v_aload_n hB 0 dL_lifts_16 rfl rfl ?_
      refine v_iload_n hB 1 dL_lifts_17 rfl rfl ?_
      refine v_iload_n hB 2 dL_lifts_18 rfl rfl ?_
      refine v_iload_n hB 3 dL_lifts_19 rfl rfl ?_
      refine v_iconst hB 0 dL_lifts_20 (by decide) ?_
      refine v_bWi (fun r21 h21 e21 => v_callV hB hK hR.rm [.int p1, .int p2, .int v3, .int 0] [] (oC_55 g) lb_X10_failing lv_L_46 (c_X10_failing g hK.A X.1.2.1 p1 p2 v3 0 h11 e21) dL_lifts_21 rfl rfl (Nat.le_of_ble_eq_true rfl) (by decide) (by decide)) (fun r21 h21 => ?_)
      refine v_istore hB [(0, .ref ((SC g).1.2.1 55)), (1, .int p1), (2, .int p2), (3, .int v3), (4, .int r11), (5, .int r21)] [1, 2, 3, 4, 5, 0] dL_lifts_24 (by decide) rfl ?_
      refine v_iload hB 4 dL_lifts_26 rfl ?_
      refine v_if_lt (tgt := 96) hB dL_lifts_28 rfl ?_ ?_
      · exact V.sub [0, 1, 2, 3, 4, 5] rfl (hn96 v3 r11 r21 h21)
      · refine v_iload hB 5 dL_lifts_31 rfl ?_
        refine v_bipush hB (-9) dL_lifts_33 (by decide) ?_
        refine v_icmp_ne (tgt := 94) hB dL_lifts_35 rfl ?_ ?_
        · refine v_iconst hB 0 dL_lifts_94 (by decide) ?_
          exact v_retWz (x := false) hB hK hR dL_lifts_95
        · refine v_aload_n hB 0 dL_lifts_38 rfl rfl ?_
          refine v_iload_n hB 1 dL_lifts_39 rfl rfl ?_
          refine v_iload_n hB 2 dL_lifts_40 rfl rfl ?_
          refine v_iload hB 4 dL_lifts_41 rfl ?_
          refine v_iload_n hB 3 dL_lifts_43 rfl rfl ?_
          refine v_bWi (fun r44 h44 e44 => v_callV hB hK hR.rm [.int p1, .int p2, .int r11, .int v3] [] (oC_55 g) lb_X10_fault lv_L_50 (c_X10_fault g hK.A X.1.2.1 p1 p2 r11 v3 h21 e44) dL_lifts_44 rfl rfl (Nat.le_of_ble_eq_true rfl) (by decide) (by decide)) (fun r44 h44 => ?_)
          refine v_bipush hB (-9) dL_lifts_47 (by decide) ?_
          refine v_icmp_ne (tgt := 94) hB dL_lifts_49 rfl ?_ ?_
          · refine v_iconst hB 0 dL_lifts_94 (by decide) ?_
            exact v_retWz (x := false) hB hK hR dL_lifts_95
          · refine v_iload hB 4 dL_lifts_52 rfl ?_
            refine v_bipush hB 12 dL_lifts_54 (by decide) ?_
            refine v_icmp_ge (tgt := 75) hB dL_lifts_56 rfl ?_ ?_
            · exact V.sub [0, 1, 2, 3, 4, 5] rfl (hn75 v3 r11 r21 h44)
            · refine v_aload_n hB 0 dL_lifts_59 rfl rfl ?_
              refine v_iload_n hB 1 dL_lifts_60 rfl rfl ?_
              refine v_iload_n hB 2 dL_lifts_61 rfl rfl ?_
              refine v_iload hB 4 dL_lifts_62 rfl ?_
              refine v_iconst hB 1 dL_lifts_64 (by decide) ?_
              refine v_iadd hB dL_lifts_65 ?_
              refine v_iload_n hB 3 dL_lifts_66 rfl rfl ?_
              refine v_bWi (fun r67 h67 e67 => v_callV hB hK hR.rm [.int p1, .int p2, .int (r11 + 1), .int v3] [] (oC_55 g) lb_X10_fault lv_L_50 (c_X10_fault g hK.A X.1.2.1 p1 p2 (r11 + 1) v3 h44 e67) dL_lifts_67 rfl rfl (Nat.le_of_ble_eq_true rfl) (by decide) (by decide)) (fun r67 h67 => ?_)
              refine v_bipush hB (-9) dL_lifts_70 (by decide) ?_
              refine v_icmp_ne (tgt := 94) hB dL_lifts_72 rfl ?_ ?_
              · refine v_iconst hB 0 dL_lifts_94 (by decide) ?_
                exact v_retWz (x := false) hB hK hR dL_lifts_95
              · exact V.sub [0, 1, 2, 3, 4, 5] rfl (hn75 v3 r11 r21 h67)
  unfold f_L_lifts
  refine v_iconst hB 0 dL_lifts_0 (by decide) ?_
  refine v_istore_n hB [(0, .ref ((SC g).1.2.1 55)), (1, .int p1), (2, .int p2), (3, .int 0)] [1, 2, 3, 0] dL_lifts_1 rfl (by decide) rfl ?_
  exact V.sub [0, 1, 2, 3] rfl (hn2 1000 0 h)

def f_L_reads_j129 (p2 : Int32) (v3 : Int32) (h : pq_H) : Option (Bool × pq_H) :=
  bd2 (f_X10_spelled p2 (-1) h) fun r132 h132 => if r132 = v3 then (bd2 (f_X10_drop h132) fun r140 h140 => if r140 = p2 then (some (true, h140)) else (some (false, h140))) else (some (false, h132))
def f_L_reads_l93 (p1 : Int32) (p2 : Int32) (v3 : Int32) (w93 : Int32 → pq_H → Option (Bool × pq_H)) (v4 : Int32) (h : pq_H) : Option (Bool × pq_H) :=
  bd2 (f_X10_of p1 3 h) fun r98 h98 => if r98 ≤ v4 then (f_L_reads_j129 p2 v3 h98) else (bd2 (f_X10_coefficient p2 v4 h98) fun r108 h108 => bd2 (f_X10_coefficient p1 v4 h108) fun r115 h115 => if r108 = r115 then (w93 (v4 + 1) h115) else (some (false, h115)))
def f_L_reads_j65 (p1 : Int32) (p2 : Int32) (v3 : Int32) (h : pq_H) : Option (Bool × pq_H) :=
  bd2 (f_X10_form h) fun r66 h66 => if r66 = p2 then (bd2 (f_X10_of p2 2 h66) fun r76 h76 => bd2 (f_X10_of p1 2 h76) fun r82 h82 => if r76 = r82 then (lp (fun _ _ => none) (f_L_reads_l93 p1 p2 v3) 1000 0 h82) else (some (false, h82))) else (some (false, h66))
def f_L_reads_l33 (p1 : Int32) (p2 : Int32) (v3 : Int32) (w33 : Int32 → pq_H → Option (Bool × pq_H)) (v4 : Int32) (h : pq_H) : Option (Bool × pq_H) :=
  if v3 ≤ v4 then (f_L_reads_j65 p1 p2 v3 h) else (bd2 (f_X10_spelled p1 v4 h) fun r44 h44 => bd2 (f_X10_letter r44 h44) fun r47 h47 => if r47 = (v4 + 1) then (w33 (v4 + 1) h47) else (some (false, h47)))
def f_L_reads (p1 : Int32) (p2 : Int32) (h : pq_H) : Option (Bool × pq_H) :=
  bd2 (f_X10_spelled p1 (-1) h) fun r3 h3 => if 72 < r3 then (some (true, h3)) else (bd2 (f_X10_of p1 4 h3) fun r16 h16 => bd2 (f_X10_of p1 3 h16) fun r22 h22 => if r16 = r22 then (some (true, h22)) else (lp (fun _ _ => none) (f_L_reads_l33 p1 p2 r3) 1000 0 h22))
set_option maxRecDepth 100000 in
set_option maxHeartbeats 4000000 in
theorem c_L_reads (g : pq_g) {A : Nat → Prop} (hA : pq_A (SC g) A) (l : Launch) (p1 : Int32) (p2 : Int32) (h : pq_H) {rr : Bool} {hh : pq_H} (e : f_L_reads p1 p2 h = some (rr, hh)) : pq_M (SC g) A l yL_reads cL_reads 5 (some .boolean) 7 156 [.ref ((SC g).1.2.1 55), .int p1, .int p2] h (some (.int (b2i rr))) hh := by
  refine pq_met hA l (own := RL) 7 156 _ [(0, .ref ((SC g).1.2.1 55)), (1, .int p1), (2, .int p2)] h _ hh (by decide +kernel) rfl (Nat.le_of_ble_eq_true rfl) rfl (fun X hXl hXA hB hK hR => ?_)
  refine V.cast (F' := f_L_reads p1 p2 h) (res' := (rr, hh)) (fun _ => e) ?_
  have hn129 : ∀ (v3 : Int32) (h : pq_H), V X (SC g) (rr, hh) 5 129 [(0, .ref ((SC g).1.2.1 55)), (2, .int p2), (3, .int v3)] [] h (f_L_reads_j129 p2 v3 h) := by
    intro v3 h
    unfold f_L_reads_j129
    refine v_aload_n hB 0 dL_reads_129 rfl rfl ?_
    refine v_iload_n hB 1 dL_reads_130 rfl rfl ?_
    refine v_iconst hB (-1) dL_reads_131 (by decide) ?_
    refine v_bWi (fun r132 h132 e132 => v_callV hB hK hR.rm [.int p2, .int (-1)] [] (oC_55 g) lb_X10_spelled lv_L_60 (c_X10_spelled g hK.A X.1.2.1 p2 (-1) h e132) dL_reads_132 rfl rfl (Nat.le_of_ble_eq_true rfl) (by decide) (by decide)) (fun r132 h132 => ?_)
    refine v_iload_n hB 2 dL_reads_135 rfl rfl ?_
    refine v_icmp_ne (tgt := 151) hB dL_reads_136 rfl ?_ ?_
    · refine v_iconst hB 0 dL_reads_151 (by decide) ?_
      exact v_retWz (x := false) hB hK hR dL_reads_152
    · refine v_aload_n hB 0 dL_reads_139 rfl rfl ?_
      refine v_bWi (fun r140 h140 e140 => v_callV hB hK hR.rm [] [] (oC_55 g) lb_X10_drop lv_L_66 (c_X10_drop g hK.A X.1.2.1 h132 e140) dL_reads_140 rfl rfl (Nat.le_of_ble_eq_true rfl) (by decide) (by decide)) (fun r140 h140 => ?_)
      refine v_iload_n hB 1 dL_reads_143 rfl rfl ?_
      refine v_icmp_ne (tgt := 151) hB dL_reads_144 rfl ?_ ?_
      · refine v_iconst hB 0 dL_reads_151 (by decide) ?_
        exact v_retWz (x := false) hB hK hR dL_reads_152
      · refine v_iconst hB 1 dL_reads_147 (by decide) ?_
        refine v_goto (tgt := 152) hB dL_reads_148 rfl ?_
        exact v_retWz (x := true) hB hK hR dL_reads_152
  have hn93 : ∀ (v3 : Int32) (n : Nat), ∀ (v4 : Int32) (h : pq_H), V X (SC g) (rr, hh) 5 93 [(0, .ref ((SC g).1.2.1 55)), (1, .int p1), (2, .int p2), (3, .int v3), (4, .int v4)] [] h (lp (fun _ _ => none) (f_L_reads_l93 p1 p2 v3) n v4 h) := by
    intro v3
    refine lp_ind (fun (w93 : Int32 → pq_H → Option (Bool × pq_H)) => ∀ (v4 : Int32) (h : pq_H), V X (SC g) (rr, hh) 5 93 [(0, .ref ((SC g).1.2.1 55)), (1, .int p1), (2, .int p2), (3, .int v3), (4, .int v4)] [] h (w93 v4 h)) (fun _ _ => V.none _ _ _ _) (fun w93 ih93 => ?_)
    intro v4 h
    unfold f_L_reads_l93
    refine v_iload hB 4 dL_reads_93 rfl ?_
    refine v_aload_n hB 0 dL_reads_95 rfl rfl ?_
    refine v_iload_n hB 1 dL_reads_96 rfl rfl ?_
    refine v_iconst hB 3 dL_reads_97 (by decide) ?_
    refine v_bWi (fun r98 h98 e98 => v_callV hB hK hR.rm [.int p1, .int 3] [.int v4] (oC_55 g) lb_X10_of lv_L_24 (c_X10_of g hK.A X.1.2.1 p1 3 h e98) dL_reads_98 rfl rfl (Nat.le_of_ble_eq_true rfl) (by decide) (by decide)) (fun r98 h98 => ?_)
    refine v_icmp_ge (tgt := 129) hB dL_reads_101 rfl ?_ ?_
    · exact V.sub [0, 2, 3] rfl (hn129 v3 h98)
    · refine v_aload_n hB 0 dL_reads_104 rfl rfl ?_
      refine v_iload_n hB 2 dL_reads_105 rfl rfl ?_
      refine v_iload hB 4 dL_reads_106 rfl ?_
      refine v_bWi (fun r108 h108 e108 => v_callV hB hK hR.rm [.int p2, .int v4] [] (oC_55 g) lb_X10_coefficient lv_L_63 (c_X10_coefficient g hK.A X.1.2.1 p2 v4 h98 e108) dL_reads_108 rfl rfl (Nat.le_of_ble_eq_true rfl) (by decide) (by decide)) (fun r108 h108 => ?_)
      refine v_aload_n hB 0 dL_reads_111 rfl rfl ?_
      refine v_iload_n hB 1 dL_reads_112 rfl rfl ?_
      refine v_iload hB 4 dL_reads_113 rfl ?_
      refine v_bWi (fun r115 h115 e115 => v_callV hB hK hR.rm [.int p1, .int v4] [.int r108] (oC_55 g) lb_X10_coefficient lv_L_63 (c_X10_coefficient g hK.A X.1.2.1 p1 v4 h108 e115) dL_reads_115 rfl rfl (Nat.le_of_ble_eq_true rfl) (by decide) (by decide)) (fun r115 h115 => ?_)
      refine v_icmp_eq (tgt := 123) hB dL_reads_118 rfl ?_ ?_
      · refine v_iinc hB (v4 + 1) [(0, .ref ((SC g).1.2.1 55)), (1, .int p1), (2, .int p2), (3, .int v3), (4, .int (v4 + 1))] 4 [1, 2, 3, 4, 0] dL_reads_123 rfl rfl (by decide) rfl ?_
        refine v_goto (tgt := 93) hB dL_reads_126 rfl ?_
        exact V.sub [0, 1, 2, 3, 4] rfl (ih93 (v4 + 1) h115)
      · refine v_iconst hB 0 dL_reads_121 (by decide) ?_
        exact v_retWz (x := false) hB hK hR dL_reads_122
  have hn65 : ∀ (v3 : Int32) (h : pq_H), V X (SC g) (rr, hh) 5 65 [(0, .ref ((SC g).1.2.1 55)), (1, .int p1), (2, .int p2), (3, .int v3)] [] h (f_L_reads_j65 p1 p2 v3 h) := by
    intro v3 h
    unfold f_L_reads_j65
    refine v_aload_n hB 0 dL_reads_65 rfl rfl ?_
    refine v_bWi (fun r66 h66 e66 => v_callV hB hK hR.rm [] [] (oC_55 g) lb_X10_form lv_L_20 (c_X10_form g hK.A X.1.2.1 h e66) dL_reads_66 rfl rfl (Nat.le_of_ble_eq_true rfl) (by decide) (by decide)) (fun r66 h66 => ?_)
    refine v_iload_n hB 2 dL_reads_69 rfl rfl ?_
    refine v_icmp_ne (tgt := 88) hB dL_reads_70 rfl ?_ ?_
    · refine v_iconst hB 0 dL_reads_88 (by decide) ?_
      exact v_retWz (x := false) hB hK hR dL_reads_89
    · refine v_aload_n hB 0 dL_reads_73 rfl rfl ?_
      refine v_iload_n hB 2 dL_reads_74 rfl rfl ?_
      refine v_iconst hB 2 dL_reads_75 (by decide) ?_
      refine v_bWi (fun r76 h76 e76 => v_callV hB hK hR.rm [.int p2, .int 2] [] (oC_55 g) lb_X10_of lv_L_24 (c_X10_of g hK.A X.1.2.1 p2 2 h66 e76) dL_reads_76 rfl rfl (Nat.le_of_ble_eq_true rfl) (by decide) (by decide)) (fun r76 h76 => ?_)
      refine v_aload_n hB 0 dL_reads_79 rfl rfl ?_
      refine v_iload_n hB 1 dL_reads_80 rfl rfl ?_
      refine v_iconst hB 2 dL_reads_81 (by decide) ?_
      refine v_bWi (fun r82 h82 e82 => v_callV hB hK hR.rm [.int p1, .int 2] [.int r76] (oC_55 g) lb_X10_of lv_L_24 (c_X10_of g hK.A X.1.2.1 p1 2 h76 e82) dL_reads_82 rfl rfl (Nat.le_of_ble_eq_true rfl) (by decide) (by decide)) (fun r82 h82 => ?_)
      refine v_icmp_eq (tgt := 90) hB dL_reads_85 rfl ?_ ?_
      · refine v_iconst hB 0 dL_reads_90 (by decide) ?_
        refine v_istore hB [(0, .ref ((SC g).1.2.1 55)), (1, .int p1), (2, .int p2), (3, .int v3), (4, .int 0)] [1, 2, 3, 4, 0] dL_reads_91 (by decide) rfl ?_
        exact V.sub [0, 1, 2, 3, 4] rfl (hn93 v3 1000 0 h82)
      · refine v_iconst hB 0 dL_reads_88 (by decide) ?_
        exact v_retWz (x := false) hB hK hR dL_reads_89
  have hn33 : ∀ (v3 : Int32) (n : Nat), ∀ (v4 : Int32) (h : pq_H), V X (SC g) (rr, hh) 5 33 [(0, .ref ((SC g).1.2.1 55)), (1, .int p1), (2, .int p2), (3, .int v3), (4, .int v4)] [] h (lp (fun _ _ => none) (f_L_reads_l33 p1 p2 v3) n v4 h) := by
    intro v3
    refine lp_ind (fun (w33 : Int32 → pq_H → Option (Bool × pq_H)) => ∀ (v4 : Int32) (h : pq_H), V X (SC g) (rr, hh) 5 33 [(0, .ref ((SC g).1.2.1 55)), (1, .int p1), (2, .int p2), (3, .int v3), (4, .int v4)] [] h (w33 v4 h)) (fun _ _ => V.none _ _ _ _) (fun w33 ih33 => ?_)
    intro v4 h
    unfold f_L_reads_l33
    refine v_iload hB 4 dL_reads_33 rfl ?_
    refine v_iload_n hB 3 dL_reads_35 rfl rfl ?_
    refine v_icmp_ge (tgt := 65) hB dL_reads_36 rfl ?_ ?_
    · exact V.sub [0, 1, 2, 3] rfl (hn65 v3 h)
    · refine v_aload_n hB 0 dL_reads_39 rfl rfl ?_
      refine v_aload_n hB 0 dL_reads_40 rfl rfl ?_
      refine v_iload_n hB 1 dL_reads_41 rfl rfl ?_
      refine v_iload hB 4 dL_reads_42 rfl ?_
      refine v_bWi (fun r44 h44 e44 => v_callV hB hK hR.rm [.int p1, .int v4] [.ref ((SC g).1.2.1 55)] (oC_55 g) lb_X10_spelled lv_L_60 (c_X10_spelled g hK.A X.1.2.1 p1 v4 h e44) dL_reads_44 rfl rfl (Nat.le_of_ble_eq_true rfl) (by decide) (by decide)) (fun r44 h44 => ?_)
      refine v_bWi (fun r47 h47 e47 => v_callV hB hK hR.rm [.int r44] [] (oC_55 g) lb_X10_letter lv_L_8 (c_X10_letter g hK.A X.1.2.1 r44 h44 e47) dL_reads_47 rfl rfl (Nat.le_of_ble_eq_true rfl) (by decide) (by decide)) (fun r47 h47 => ?_)
      refine v_iload hB 4 dL_reads_50 rfl ?_
      refine v_iconst hB 1 dL_reads_52 (by decide) ?_
      refine v_iadd hB dL_reads_53 ?_
      refine v_icmp_eq (tgt := 59) hB dL_reads_54 rfl ?_ ?_
      · refine v_iinc hB (v4 + 1) [(0, .ref ((SC g).1.2.1 55)), (1, .int p1), (2, .int p2), (3, .int v3), (4, .int (v4 + 1))] 4 [1, 2, 3, 4, 0] dL_reads_59 rfl rfl (by decide) rfl ?_
        refine v_goto (tgt := 33) hB dL_reads_62 rfl ?_
        exact V.sub [0, 1, 2, 3, 4] rfl (ih33 (v4 + 1) h47)
      · refine v_iconst hB 0 dL_reads_57 (by decide) ?_
        exact v_retWz (x := false) hB hK hR dL_reads_58
  unfold f_L_reads
  refine v_aload_n hB 0 dL_reads_0 rfl rfl ?_
  refine v_iload_n hB 1 dL_reads_1 rfl rfl ?_
  refine v_iconst hB (-1) dL_reads_2 (by decide) ?_
  refine v_bWi (fun r3 h3 e3 => v_callV hB hK hR.rm [.int p1, .int (-1)] [] (oC_55 g) lb_X10_spelled lv_L_60 (c_X10_spelled g hK.A X.1.2.1 p1 (-1) h e3) dL_reads_3 rfl rfl (Nat.le_of_ble_eq_true rfl) (by decide) (by decide)) (fun r3 h3 => ?_)
  refine v_istore_n hB [(0, .ref ((SC g).1.2.1 55)), (1, .int p1), (2, .int p2), (3, .int r3)] [1, 2, 3, 0] dL_reads_6 rfl (by decide) rfl ?_
  refine v_iload_n hB 3 dL_reads_7 rfl rfl ?_
  refine v_bipush hB 72 dL_reads_8 (by decide) ?_
  refine v_icmp_gt (tgt := 28) hB dL_reads_10 rfl ?_ ?_
  · refine v_iconst hB 1 dL_reads_28 (by decide) ?_
    exact v_retWz (x := true) hB hK hR dL_reads_29
  · refine v_aload_n hB 0 dL_reads_13 rfl rfl ?_
    refine v_iload_n hB 1 dL_reads_14 rfl rfl ?_
    refine v_iconst hB 4 dL_reads_15 (by decide) ?_
    refine v_bWi (fun r16 h16 e16 => v_callV hB hK hR.rm [.int p1, .int 4] [] (oC_55 g) lb_X10_of lv_L_24 (c_X10_of g hK.A X.1.2.1 p1 4 h3 e16) dL_reads_16 rfl rfl (Nat.le_of_ble_eq_true rfl) (by decide) (by decide)) (fun r16 h16 => ?_)
    refine v_aload_n hB 0 dL_reads_19 rfl rfl ?_
    refine v_iload_n hB 1 dL_reads_20 rfl rfl ?_
    refine v_iconst hB 3 dL_reads_21 (by decide) ?_
    refine v_bWi (fun r22 h22 e22 => v_callV hB hK hR.rm [.int p1, .int 3] [.int r16] (oC_55 g) lb_X10_of lv_L_24 (c_X10_of g hK.A X.1.2.1 p1 3 h16 e22) dL_reads_22 rfl rfl (Nat.le_of_ble_eq_true rfl) (by decide) (by decide)) (fun r22 h22 => ?_)
    refine v_icmp_ne (tgt := 30) hB dL_reads_25 rfl ?_ ?_
    · refine v_iconst hB 0 dL_reads_30 (by decide) ?_
      refine v_istore hB [(0, .ref ((SC g).1.2.1 55)), (1, .int p1), (2, .int p2), (3, .int r3), (4, .int 0)] [1, 2, 3, 4, 0] dL_reads_31 (by decide) rfl ?_
      exact V.sub [0, 1, 2, 3, 4] rfl (hn33 r3 1000 0 h22)
    · refine v_iconst hB 1 dL_reads_28 (by decide) ?_
      exact v_retWz (x := true) hB hK hR dL_reads_29

def f_L_walls_j250 (w202 : Int32 → pq_H → Option (Bool × pq_H)) (v5 : Int32) (v6 : Int32) (h : pq_H) : Option (Bool × pq_H) :=
  if (-9) ≤ v6 then (w202 (v5 + 1) h) else (some (false, h))
def f_L_walls_l202 (v2 : Int32) (v3 : Int64) (w202 : Int32 → pq_H → Option (Bool × pq_H)) (v5 : Int32) (h : pq_H) : Option (Bool × pq_H) :=
  if 2 ≤ v5 then (some (true, h)) else (bd2 (f_X10_wallsLeast 0 v5 h) fun r212 h212 => if r212 < 0 then (f_L_walls_j250 w202 v5 r212 h212) else (if r212 < (v2 - 1) then (some (false, h212)) else (if v5 = 0 then (if 0 ≤ v3 then (f_L_walls_j250 w202 v5 r212 h212) else (some (false, h212))) else (if v3 ≤ 0 then (some (false, h212)) else (f_L_walls_j250 w202 v5 r212 h212)))))
def f_L_walls_j199 (v2 : Int32) (v3 : Int64) (h : pq_H) : Option (Bool × pq_H) :=
  lp (fun _ _ => none) (f_L_walls_l202 v2 v3) 1000 0 h
def f_L_walls_j193 (w88 : Int32 → pq_H → Option (Bool × pq_H)) (v5 : Int32) (h : pq_H) : Option (Bool × pq_H) :=
  w88 (v5 + 1) h
def f_L_walls_l142 (w88 : Int32 → pq_H → Option (Bool × pq_H)) (v5 : Int32) (w142 : Int32 → pq_H → Option (Bool × pq_H)) (v6 : Int32) (h : pq_H) : Option (Bool × pq_H) :=
  if v5 < v6 then (f_L_walls_j193 w88 v5 h) else (bd2 (f_X10_walls 0 (v5 + 1) v6 h) fun r157 h157 => bd2 (f_X10_walls 0 v5 (v6 - 1) h157) fun r168 h168 => bd2 (f_X10_walls 0 v5 v6 h168) fun r177 h177 => if r157 = (r168 + r177) then (w142 (v6 + 1) h177) else (some (false, h177)))
def f_L_walls_j136 (v2 : Int32) (v3 : Int64) (h : pq_H) : Option (Bool × pq_H) :=
  f_L_walls_j199 v2 v3 h
def f_L_walls_l88 (v2 : Int32) (v3 : Int64) (w88 : Int32 → pq_H → Option (Bool × pq_H)) (v5 : Int32) (h : pq_H) : Option (Bool × pq_H) :=
  if 17 ≤ v5 then (f_L_walls_j199 v2 v3 h) else (bd2 (f_X10_walls 0 v5 0 h) fun r100 h100 => bd2 (f_X10_look 0 0 h100) fun r106 h106 => if r100 = r106 then (bd2 (f_X10_walls 0 v5 v5 h106) fun r119 h119 => if r119 = v3 then (if v5 = 16 then (f_L_walls_j136 v2 v3 h119) else (lp (fun _ _ => none) (f_L_walls_l142 w88 v5) 1000 1 h119)) else (some (false, h119))) else (some (false, h106)))
def f_L_walls_j83 (v2 : Int32) (v3 : Int64) (h : pq_H) : Option (Bool × pq_H) :=
  lp (fun _ _ => none) (f_L_walls_l88 v2 v3) 1000 (v2 - 1) h
def f_L_walls_l31 (sc0 : Nat × (Nat → Int32)) (v2 : Int32) (w31 : Int64 → Int32 → pq_H → Option (Bool × pq_H)) (v3 : Int64) (v5 : Int32) (h : pq_H) : Option (Bool × pq_H) :=
  if v2 ≤ v5 then (f_L_walls_j83 v2 v3 h) else ((f_L_cell sc0 (51 + v5)).bind fun r43 => (f_L_pick r43 60).bind fun r48 => bd2 (f_X10_put 0 v5 (r48 - 15) h) fun r62 h62 => if r62 = 1 then (w31 (v3 + ((r48 - 15).toInt64)) (v5 + 1) h62) else (some (false, h62)))
def f_L_walls (sc0 : Nat × (Nat → Int32)) (h : pq_H) : Option (Bool × pq_H) :=
  (f_L_cell sc0 50).bind fun r4 => (f_L_pick r4 9).bind fun r9 => bd2 (f_X10_list 0 (1 + r9) h) fun r19 h19 => if r19 = 1 then (lp (fun _ _ _ => none) (f_L_walls_l31 sc0 (1 + r9)) 1000 0 0 h19) else (some (false, h19))
set_option maxRecDepth 100000 in
set_option maxHeartbeats 4000000 in
theorem c_L_walls (g : pq_g) {A : Nat → Prop} (hA : pq_A (SC g) A) (l : Launch) (h : pq_H) {rr : Bool} {hh : pq_H} (e : f_L_walls g.2.2.2.2 h = some (rr, hh)) : pq_M (SC g) A l yL_walls cL_walls 7 (some .boolean) 4 97 [.ref ((SC g).1.2.1 55), .ref g.2.2.2.1] h (some (.int (b2i rr))) hh := by
  refine pq_met hA l (own := RL) 4 97 _ [(0, .ref ((SC g).1.2.1 55)), (1, .ref g.2.2.2.1)] h _ hh (by decide +kernel) rfl (Nat.le_of_ble_eq_true rfl) rfl (fun X hXl hXA hB hK hR => ?_)
  refine V.cast (F' := f_L_walls g.2.2.2.2 h) (res' := (rr, hh)) (fun _ => e) ?_
  have hn202 : ∀ (v2 : Int32) (v3 : Int64) (n : Nat), ∀ (v5 : Int32) (h : pq_H), V X (SC g) (rr, hh) 7 202 [(0, .ref ((SC g).1.2.1 55)), (2, .int v2), (3, .long v3), (5, .int v5)] [] h (lp (fun _ _ => none) (f_L_walls_l202 v2 v3) n v5 h) := by
    intro v2 v3
    refine lp_ind (fun (w202 : Int32 → pq_H → Option (Bool × pq_H)) => ∀ (v5 : Int32) (h : pq_H), V X (SC g) (rr, hh) 7 202 [(0, .ref ((SC g).1.2.1 55)), (2, .int v2), (3, .long v3), (5, .int v5)] [] h (w202 v5 h)) (fun _ _ => V.none _ _ _ _) (fun w202 ih202 => ?_)
    have hn250 : ∀ (v5 : Int32) (v6 : Int32) (h : pq_H), V X (SC g) (rr, hh) 7 250 [(0, .ref ((SC g).1.2.1 55)), (2, .int v2), (3, .long v3), (5, .int v5), (6, .int v6)] [] h (f_L_walls_j250 w202 v5 v6 h) := by
      intro v5 v6 h
      unfold f_L_walls_j250
      refine v_iload hB 4 dL_walls_250 rfl ?_
      refine v_bipush hB (-9) dL_walls_252 (by decide) ?_
      refine v_icmp_ge (tgt := 259) hB dL_walls_254 rfl ?_ ?_
      · refine v_iinc hB (v5 + 1) [(0, .ref ((SC g).1.2.1 55)), (2, .int v2), (3, .long v3), (5, .int (v5 + 1)), (6, .int v6)] 3 [1, 2, 3, 0, 4] dL_walls_259 rfl rfl (by decide) rfl ?_
        refine v_goto (tgt := 202) hB dL_walls_262 rfl ?_
        exact V.sub [0, 1, 2, 3] rfl (ih202 (v5 + 1) h)
      · refine v_iconst hB 0 dL_walls_257 (by decide) ?_
        exact v_retWz (x := false) hB hK hR dL_walls_258
    intro v5 h
    unfold f_L_walls_l202
    refine v_iload hB 3 dL_walls_202 rfl ?_
    refine v_iconst hB 2 dL_walls_204 (by decide) ?_
    refine v_icmp_ge (tgt := 265) hB dL_walls_205 rfl ?_ ?_
    · refine v_iconst hB 1 dL_walls_265 (by decide) ?_
      exact v_retWz (x := true) hB hK hR dL_walls_266
    · refine v_aload_n hB 0 dL_walls_208 rfl rfl ?_
      refine v_iconst hB 0 dL_walls_209 (by decide) ?_
      refine v_iload hB 3 dL_walls_210 rfl ?_
      refine v_bWi (fun r212 h212 e212 => v_callV hB hK hR.rm [.int 0, .int v5] [] (oC_55 g) lb_X10_wallsLeast lv_L_83 (c_X10_wallsLeast g hK.A X.1.2.1 0 v5 h e212) dL_walls_212 rfl rfl (Nat.le_of_ble_eq_true rfl) (by decide) (by decide)) (fun r212 h212 => ?_)
      refine v_istore hB [(0, .ref ((SC g).1.2.1 55)), (2, .int v2), (3, .long v3), (5, .int v5), (6, .int r212)] [1, 2, 3, 4, 0] dL_walls_215 (by decide) rfl ?_
      refine v_iload hB 4 dL_walls_217 rfl ?_
      refine v_if_lt (tgt := 250) hB dL_walls_219 rfl ?_ ?_
      · exact V.sub [0, 1, 2, 3, 4] rfl (hn250 v5 r212 h212)
      · refine v_iload hB 4 dL_walls_222 rfl ?_
        refine v_iload_n hB 1 dL_walls_224 rfl rfl ?_
        refine v_iconst hB 1 dL_walls_225 (by decide) ?_
        refine v_isub hB dL_walls_226 ?_
        refine v_icmp_lt (tgt := 257) hB dL_walls_227 rfl ?_ ?_
        · refine v_iconst hB 0 dL_walls_257 (by decide) ?_
          exact v_retWz (x := false) hB hK hR dL_walls_258
        · refine v_iload hB 3 dL_walls_230 rfl ?_
          refine v_if_ne (tgt := 244) hB dL_walls_232 rfl ?_ ?_
          · refine v_lload_n hB 2 dL_walls_244 rfl rfl ?_
            refine v_lconst hB 0 dL_walls_245 (by decide) ?_
            refine v_lcmp_le (tgt := 257) hB dL_walls_246 dL_walls_247 rfl ?_ ?_
            · refine v_iconst hB 0 dL_walls_257 (by decide) ?_
              exact v_retWz (x := false) hB hK hR dL_walls_258
            · exact V.sub [0, 1, 2, 3, 4] rfl (hn250 v5 r212 h212)
          · refine v_lload_n hB 2 dL_walls_235 rfl rfl ?_
            refine v_lconst hB 0 dL_walls_236 (by decide) ?_
            refine v_lcmp_ge (tgt := 250) hB dL_walls_237 dL_walls_238 rfl ?_ ?_
            · exact V.sub [0, 1, 2, 3, 4] rfl (hn250 v5 r212 h212)
            · refine v_goto (tgt := 257) hB dL_walls_241 rfl ?_
              refine v_iconst hB 0 dL_walls_257 (by decide) ?_
              exact v_retWz (x := false) hB hK hR dL_walls_258
  have hn199 : ∀ (v2 : Int32) (v3 : Int64) (h : pq_H), V X (SC g) (rr, hh) 7 199 [(0, .ref ((SC g).1.2.1 55)), (2, .int v2), (3, .long v3)] [] h (f_L_walls_j199 v2 v3 h) := by
    intro v2 v3 h
    unfold f_L_walls_j199
    refine v_iconst hB 0 dL_walls_199 (by decide) ?_
    refine v_istore hB [(0, .ref ((SC g).1.2.1 55)), (2, .int v2), (3, .long v3), (5, .int 0)] [1, 2, 3, 0] dL_walls_200 (by decide) rfl ?_
    exact V.sub [0, 1, 2, 3] rfl (hn202 v2 v3 1000 0 h)
  have hn136 : ∀ (v2 : Int32) (v3 : Int64) (h : pq_H), V X (SC g) (rr, hh) 7 136 [(0, .ref ((SC g).1.2.1 55)), (2, .int v2), (3, .long v3)] [] h (f_L_walls_j136 v2 v3 h) := by
    intro v2 v3 h
    unfold f_L_walls_j136
    refine v_goto (tgt := 199) hB dL_walls_136 rfl ?_
    exact V.sub [0, 1, 2] rfl (hn199 v2 v3 h)
  have hn88 : ∀ (v2 : Int32) (v3 : Int64) (n : Nat), ∀ (v5 : Int32) (h : pq_H), V X (SC g) (rr, hh) 7 88 [(0, .ref ((SC g).1.2.1 55)), (2, .int v2), (3, .long v3), (5, .int v5)] [] h (lp (fun _ _ => none) (f_L_walls_l88 v2 v3) n v5 h) := by
    intro v2 v3
    refine lp_ind (fun (w88 : Int32 → pq_H → Option (Bool × pq_H)) => ∀ (v5 : Int32) (h : pq_H), V X (SC g) (rr, hh) 7 88 [(0, .ref ((SC g).1.2.1 55)), (2, .int v2), (3, .long v3), (5, .int v5)] [] h (w88 v5 h)) (fun _ _ => V.none _ _ _ _) (fun w88 ih88 => ?_)
    have hn193 : ∀ (v5 : Int32) (h : pq_H), V X (SC g) (rr, hh) 7 193 [(0, .ref ((SC g).1.2.1 55)), (2, .int v2), (3, .long v3), (5, .int v5)] [] h (f_L_walls_j193 w88 v5 h) := by
      intro v5 h
      unfold f_L_walls_j193
      refine v_iinc hB (v5 + 1) [(0, .ref ((SC g).1.2.1 55)), (2, .int v2), (3, .long v3), (5, .int (v5 + 1))] 3 [1, 2, 3, 0] dL_walls_193 rfl rfl (by decide) rfl ?_
      refine v_goto (tgt := 88) hB dL_walls_196 rfl ?_
      exact V.sub [0, 1, 2, 3] rfl (ih88 (v5 + 1) h)
    have hn142 : ∀ (v5 : Int32) (n : Nat), ∀ (v6 : Int32) (h : pq_H), V X (SC g) (rr, hh) 7 142 [(0, .ref ((SC g).1.2.1 55)), (2, .int v2), (3, .long v3), (5, .int v5), (6, .int v6)] [] h (lp (fun _ _ => none) (f_L_walls_l142 w88 v5) n v6 h) := by
      intro v5
      refine lp_ind (fun (w142 : Int32 → pq_H → Option (Bool × pq_H)) => ∀ (v6 : Int32) (h : pq_H), V X (SC g) (rr, hh) 7 142 [(0, .ref ((SC g).1.2.1 55)), (2, .int v2), (3, .long v3), (5, .int v5), (6, .int v6)] [] h (w142 v6 h)) (fun _ _ => V.none _ _ _ _) (fun w142 ih142 => ?_)
      intro v6 h
      unfold f_L_walls_l142
      refine v_iload hB 4 dL_walls_142 rfl ?_
      refine v_iload hB 3 dL_walls_144 rfl ?_
      refine v_icmp_gt (tgt := 193) hB dL_walls_146 rfl ?_ ?_
      · exact V.sub [0, 1, 2, 3] rfl (hn193 v5 h)
      · refine v_aload_n hB 0 dL_walls_149 rfl rfl ?_
        refine v_iconst hB 0 dL_walls_150 (by decide) ?_
        refine v_iload hB 3 dL_walls_151 rfl ?_
        refine v_iconst hB 1 dL_walls_153 (by decide) ?_
        refine v_iadd hB dL_walls_154 ?_
        refine v_iload hB 4 dL_walls_155 rfl ?_
        refine v_bWj (fun r157 h157 e157 => v_callV hB hK hR.rm [.int 0, .int (v5 + 1), .int v6] [] (oC_55 g) lb_X10_walls lv_L_75 (c_X10_walls g hK.A X.1.2.1 0 (v5 + 1) v6 h e157) dL_walls_157 rfl rfl (Nat.le_of_ble_eq_true rfl) (by decide) (by decide)) (fun r157 h157 => ?_)
        refine v_aload_n hB 0 dL_walls_160 rfl rfl ?_
        refine v_iconst hB 0 dL_walls_161 (by decide) ?_
        refine v_iload hB 3 dL_walls_162 rfl ?_
        refine v_iload hB 4 dL_walls_164 rfl ?_
        refine v_iconst hB 1 dL_walls_166 (by decide) ?_
        refine v_isub hB dL_walls_167 ?_
        refine v_bWj (fun r168 h168 e168 => v_callV hB hK hR.rm [.int 0, .int v5, .int (v6 - 1)] [.long r157] (oC_55 g) lb_X10_walls lv_L_75 (c_X10_walls g hK.A X.1.2.1 0 v5 (v6 - 1) h157 e168) dL_walls_168 rfl rfl (Nat.le_of_ble_eq_true rfl) (by decide) (by decide)) (fun r168 h168 => ?_)
        refine v_aload_n hB 0 dL_walls_171 rfl rfl ?_
        refine v_iconst hB 0 dL_walls_172 (by decide) ?_
        refine v_iload hB 3 dL_walls_173 rfl ?_
        refine v_iload hB 4 dL_walls_175 rfl ?_
        refine v_bWj (fun r177 h177 e177 => v_callV hB hK hR.rm [.int 0, .int v5, .int v6] [.long r168, .long r157] (oC_55 g) lb_X10_walls lv_L_75 (c_X10_walls g hK.A X.1.2.1 0 v5 v6 h168 e177) dL_walls_177 rfl rfl (Nat.le_of_ble_eq_true rfl) (by decide) (by decide)) (fun r177 h177 => ?_)
        refine v_ladd hB dL_walls_180 ?_
        refine v_lcmp_eq (tgt := 187) hB dL_walls_181 dL_walls_182 rfl ?_ ?_
        · refine v_iinc hB (v6 + 1) [(0, .ref ((SC g).1.2.1 55)), (2, .int v2), (3, .long v3), (5, .int v5), (6, .int (v6 + 1))] 4 [1, 2, 3, 4, 0] dL_walls_187 rfl rfl (by decide) rfl ?_
          refine v_goto (tgt := 142) hB dL_walls_190 rfl ?_
          exact V.sub [0, 1, 2, 3, 4] rfl (ih142 (v6 + 1) h177)
        · refine v_iconst hB 0 dL_walls_185 (by decide) ?_
          exact v_retWz (x := false) hB hK hR dL_walls_186
    intro v5 h
    unfold f_L_walls_l88
    refine v_iload hB 3 dL_walls_88 rfl ?_
    refine v_bipush hB 17 dL_walls_90 (by decide) ?_
    refine v_icmp_ge (tgt := 199) hB dL_walls_92 rfl ?_ ?_
    · exact V.sub [0, 1, 2] rfl (hn199 v2 v3 h)
    · refine v_aload_n hB 0 dL_walls_95 rfl rfl ?_
      refine v_iconst hB 0 dL_walls_96 (by decide) ?_
      refine v_iload hB 3 dL_walls_97 rfl ?_
      refine v_iconst hB 0 dL_walls_99 (by decide) ?_
      refine v_bWj (fun r100 h100 e100 => v_callV hB hK hR.rm [.int 0, .int v5, .int 0] [] (oC_55 g) lb_X10_walls lv_L_75 (c_X10_walls g hK.A X.1.2.1 0 v5 0 h e100) dL_walls_100 rfl rfl (Nat.le_of_ble_eq_true rfl) (by decide) (by decide)) (fun r100 h100 => ?_)
      refine v_aload_n hB 0 dL_walls_103 rfl rfl ?_
      refine v_iconst hB 0 dL_walls_104 (by decide) ?_
      refine v_iconst hB 0 dL_walls_105 (by decide) ?_
      refine v_bWj (fun r106 h106 e106 => v_callV hB hK hR.rm [.int 0, .int 0] [.long r100] (oC_55 g) lb_X10_look lv_L_79 (c_X10_look g hK.A X.1.2.1 0 0 h100 e106) dL_walls_106 rfl rfl (Nat.le_of_ble_eq_true rfl) (by decide) (by decide)) (fun r106 h106 => ?_)
      refine v_lcmp_ne (tgt := 127) hB dL_walls_109 dL_walls_110 rfl ?_ ?_
      · refine v_iconst hB 0 dL_walls_127 (by decide) ?_
        exact v_retWz (x := false) hB hK hR dL_walls_128
      · refine v_aload_n hB 0 dL_walls_113 rfl rfl ?_
        refine v_iconst hB 0 dL_walls_114 (by decide) ?_
        refine v_iload hB 3 dL_walls_115 rfl ?_
        refine v_iload hB 3 dL_walls_117 rfl ?_
        refine v_bWj (fun r119 h119 e119 => v_callV hB hK hR.rm [.int 0, .int v5, .int v5] [] (oC_55 g) lb_X10_walls lv_L_75 (c_X10_walls g hK.A X.1.2.1 0 v5 v5 h106 e119) dL_walls_119 rfl rfl (Nat.le_of_ble_eq_true rfl) (by decide) (by decide)) (fun r119 h119 => ?_)
        refine v_lload_n hB 2 dL_walls_122 rfl rfl ?_
        refine v_lcmp_eq (tgt := 129) hB dL_walls_123 dL_walls_124 rfl ?_ ?_
        · refine v_iload hB 3 dL_walls_129 rfl ?_
          refine v_bipush hB 16 dL_walls_131 (by decide) ?_
          refine v_icmp_ne (tgt := 139) hB dL_walls_133 rfl ?_ ?_
          · refine v_iconst hB 1 dL_walls_139 (by decide) ?_
            refine v_istore hB [(0, .ref ((SC g).1.2.1 55)), (2, .int v2), (3, .long v3), (5, .int v5), (6, .int 1)] [1, 2, 3, 4, 0] dL_walls_140 (by decide) rfl ?_
            exact V.sub [0, 1, 2, 3, 4] rfl (hn142 v5 1000 1 h119)
          · exact V.sub [0, 1, 2] rfl (hn136 v2 v3 h119)
        · refine v_iconst hB 0 dL_walls_127 (by decide) ?_
          exact v_retWz (x := false) hB hK hR dL_walls_128
  have hn83 : ∀ (v2 : Int32) (v3 : Int64) (h : pq_H), V X (SC g) (rr, hh) 7 83 [(0, .ref ((SC g).1.2.1 55)), (2, .int v2), (3, .long v3)] [] h (f_L_walls_j83 v2 v3 h) := by
    intro v2 v3 h
    unfold f_L_walls_j83
    refine v_iload_n hB 1 dL_walls_83 rfl rfl ?_
    refine v_iconst hB 1 dL_walls_84 (by decide) ?_
    refine v_isub hB dL_walls_85 ?_
    refine v_istore hB [(0, .ref ((SC g).1.2.1 55)), (2, .int v2), (3, .long v3), (5, .int (v2 - 1))] [1, 2, 3, 0] dL_walls_86 (by decide) rfl ?_
    exact V.sub [0, 1, 2, 3] rfl (hn88 v2 v3 1000 (v2 - 1) h)
  have hn31 : ∀ (v2 : Int32) (n : Nat), ∀ (v3 : Int64) (v5 : Int32) (h : pq_H), V X (SC g) (rr, hh) 7 31 [(0, .ref ((SC g).1.2.1 55)), (1, .ref g.2.2.2.1), (2, .int v2), (3, .long v3), (5, .int v5)] [] h (lp (fun _ _ _ => none) (f_L_walls_l31 g.2.2.2.2 v2) n v3 v5 h) := by
    intro v2
    refine lp_ind (fun (w31 : Int64 → Int32 → pq_H → Option (Bool × pq_H)) => ∀ (v3 : Int64) (v5 : Int32) (h : pq_H), V X (SC g) (rr, hh) 7 31 [(0, .ref ((SC g).1.2.1 55)), (1, .ref g.2.2.2.1), (2, .int v2), (3, .long v3), (5, .int v5)] [] h (w31 v3 v5 h)) (fun _ _ _ => V.none _ _ _ _) (fun w31 ih31 => ?_)
    intro v3 v5 h
    unfold f_L_walls_l31
    refine v_iload hB 4 dL_walls_31 rfl ?_
    refine v_iload_n hB 2 dL_walls_33 rfl rfl ?_
    refine v_icmp_ge (tgt := 83) hB dL_walls_34 rfl ?_ ?_
    · exact V.sub [0, 2, 3] rfl (hn83 v2 v3 h)
    · refine v_aload_n hB 1 dL_walls_37 rfl rfl ?_
      refine v_bipush hB 51 dL_walls_38 (by decide) ?_
      refine v_iload hB 4 dL_walls_40 rfl ?_
      refine v_iadd hB dL_walls_42 ?_
      refine v_bRi (fun r43 e43 => v_callS hB hK hR.rm [.ref g.2.2.2.1, .int (51 + v5)] [] lb_L_cell lv_L_27 (c_L_cell g hK.A X.1.2.1 (51 + v5) h e43) dL_walls_43 rfl rfl (Nat.le_of_ble_eq_true rfl) (by decide) (by decide)) (fun r43 => ?_)
      refine v_bipush hB 60 dL_walls_46 (by decide) ?_
      refine v_bRi (fun r48 e48 => v_callS hB hK hR.rm [.int r43, .int 60] [] lb_L_pick lv_L_33 (c_L_pick g hK.A X.1.2.1 r43 60 h e48) dL_walls_48 rfl rfl (Nat.le_of_ble_eq_true rfl) (by decide) (by decide)) (fun r48 => ?_)
      refine v_bipush hB 15 dL_walls_51 (by decide) ?_
      refine v_isub hB dL_walls_53 ?_
      refine v_istore hB [(0, .ref ((SC g).1.2.1 55)), (1, .ref g.2.2.2.1), (2, .int v2), (3, .long v3), (5, .int v5), (6, .int (r48 - 15))] [1, 2, 3, 4, 5, 0] dL_walls_54 (by decide) rfl ?_
      refine v_aload_n hB 0 dL_walls_56 rfl rfl ?_
      refine v_iconst hB 0 dL_walls_57 (by decide) ?_
      refine v_iload hB 4 dL_walls_58 rfl ?_
      refine v_iload hB 5 dL_walls_60 rfl ?_
      refine v_bWi (fun r62 h62 e62 => v_callV hB hK hR.rm [.int 0, .int v5, .int (r48 - 15)] [] (oC_55 g) lb_X10_put lv_L_72 (c_X10_put g hK.A X.1.2.1 0 v5 (r48 - 15) h e62) dL_walls_62 rfl rfl (Nat.le_of_ble_eq_true rfl) (by decide) (by decide)) (fun r62 h62 => ?_)
      refine v_iconst hB 1 dL_walls_65 (by decide) ?_
      refine v_icmp_eq (tgt := 71) hB dL_walls_66 rfl ?_ ?_
      · refine v_lload_n hB 3 dL_walls_71 rfl rfl ?_
        refine v_iload hB 5 dL_walls_72 rfl ?_
        refine v_i2l hB dL_walls_74 ?_
        refine v_ladd hB dL_walls_75 ?_
        refine v_lstore_n hB [(0, .ref ((SC g).1.2.1 55)), (1, .ref g.2.2.2.1), (2, .int v2), (3, .long (v3 + ((r48 - 15).toInt64))), (5, .int v5), (6, .int (r48 - 15))] [1, 2, 3, 0, 4, 5] dL_walls_76 rfl (by decide) rfl ?_
        refine v_iinc hB (v5 + 1) [(0, .ref ((SC g).1.2.1 55)), (1, .ref g.2.2.2.1), (2, .int v2), (3, .long (v3 + ((r48 - 15).toInt64))), (5, .int (v5 + 1)), (6, .int (r48 - 15))] 4 [1, 2, 3, 4, 0, 5] dL_walls_77 rfl rfl (by decide) rfl ?_
        refine v_goto (tgt := 31) hB dL_walls_80 rfl ?_
        exact V.sub [0, 1, 2, 3, 4] rfl (ih31 (v3 + ((r48 - 15).toInt64)) (v5 + 1) h62)
      · refine v_iconst hB 0 dL_walls_69 (by decide) ?_
        exact v_retWz (x := false) hB hK hR dL_walls_70
  unfold f_L_walls
  refine v_iconst hB 1 dL_walls_0 (by decide) ?_
  refine v_aload_n hB 1 dL_walls_1 rfl rfl ?_
  refine v_bipush hB 50 dL_walls_2 (by decide) ?_
  refine v_bRi (fun r4 e4 => v_callS hB hK hR.rm [.ref g.2.2.2.1, .int 50] [.int 1] lb_L_cell lv_L_27 (c_L_cell g hK.A X.1.2.1 50 h e4) dL_walls_4 rfl rfl (Nat.le_of_ble_eq_true rfl) (by decide) (by decide)) (fun r4 => ?_)
  refine v_bipush hB 9 dL_walls_7 (by decide) ?_
  refine v_bRi (fun r9 e9 => v_callS hB hK hR.rm [.int r4, .int 9] [.int 1] lb_L_pick lv_L_33 (c_L_pick g hK.A X.1.2.1 r4 9 h e9) dL_walls_9 rfl rfl (Nat.le_of_ble_eq_true rfl) (by decide) (by decide)) (fun r9 => ?_)
  refine v_iadd hB dL_walls_12 ?_
  refine v_istore_n hB [(0, .ref ((SC g).1.2.1 55)), (1, .ref g.2.2.2.1), (2, .int (1 + r9))] [1, 2, 0] dL_walls_13 rfl (by decide) rfl ?_
  refine v_lconst hB 0 dL_walls_14 (by decide) ?_
  refine v_lstore_n hB [(0, .ref ((SC g).1.2.1 55)), (1, .ref g.2.2.2.1), (2, .int (1 + r9)), (3, .long 0)] [1, 2, 3, 0] dL_walls_15 rfl (by decide) rfl ?_
  refine v_aload_n hB 0 dL_walls_16 rfl rfl ?_
  refine v_iconst hB 0 dL_walls_17 (by decide) ?_
  refine v_iload_n hB 2 dL_walls_18 rfl rfl ?_
  refine v_bWi (fun r19 h19 e19 => v_callV hB hK hR.rm [.int 0, .int (1 + r9)] [] (oC_55 g) lb_X10_list lv_L_69 (c_X10_list g hK.A X.1.2.1 0 (1 + r9) h e19) dL_walls_19 rfl rfl (Nat.le_of_ble_eq_true rfl) (by decide) (by decide)) (fun r19 h19 => ?_)
  refine v_iconst hB 1 dL_walls_22 (by decide) ?_
  refine v_icmp_eq (tgt := 28) hB dL_walls_23 rfl ?_ ?_
  · refine v_iconst hB 0 dL_walls_28 (by decide) ?_
    refine v_istore hB [(0, .ref ((SC g).1.2.1 55)), (1, .ref g.2.2.2.1), (2, .int (1 + r9)), (3, .long 0), (5, .int 0)] [1, 2, 3, 4, 0] dL_walls_29 (by decide) rfl ?_
    exact V.sub [0, 1, 2, 3, 4] rfl (hn31 (1 + r9) 1000 0 0 h19)
  · refine v_iconst hB 0 dL_walls_26 (by decide) ?_
    exact v_retWz (x := false) hB hK hR dL_walls_27

