set_option maxRecDepth 8000 in
theorem lb_J0_length_8abf5 : pq_LB yJ0_length_8abf5 cJ0_length_8abf5 1 (some .int) 0 := ⟨pq_t1 13 rfl rfl, pq_t2 143 rfl rfl, by decide +kernel, by decide +kernel, by decide +kernel⟩
theorem dJ0_length_8abf5_0 : decode cJ0_length_8abf5 0 = .ok (.aload_n 0, 1) := by decide +kernel
theorem dJ0_length_8abf5_1 : decode cJ0_length_8abf5 1 = .ok (.getfield 9, 3) := by decide +kernel
theorem dJ0_length_8abf5_4 : decode cJ0_length_8abf5 4 = .ok (.arraylength, 1) := by decide +kernel
theorem dJ0_length_8abf5_5 : decode cJ0_length_8abf5 5 = .ok (.aload_n 0, 1) := by decide +kernel
theorem dJ0_length_8abf5_6 : decode cJ0_length_8abf5 6 = .ok (.invokevirtual 335, 3) := by decide +kernel
theorem dJ0_length_8abf5_9 : decode cJ0_length_8abf5 9 = .ok (.ishr, 1) := by decide +kernel
theorem dJ0_length_8abf5_10 : decode cJ0_length_8abf5 10 = .ok (.ireturn, 1) := by decide +kernel
set_option maxRecDepth 8000 in
theorem lb_J0_charAt_5068e : pq_LB yJ0_charAt_5068e cJ0_charAt_5068e 2 (some .char) 1 := ⟨pq_t1 13 rfl rfl, pq_t2 158 rfl rfl, by decide +kernel, by decide +kernel, by decide +kernel⟩
theorem dJ0_charAt_5068e_0 : decode cJ0_charAt_5068e 0 = .ok (.aload_n 0, 1) := by decide +kernel
theorem dJ0_charAt_5068e_1 : decode cJ0_charAt_5068e 1 = .ok (.invokevirtual 492, 3) := by decide +kernel
theorem dJ0_charAt_5068e_4 : decode cJ0_charAt_5068e 4 = .ok (.ifCond .eq 12, 3) := by decide +kernel
theorem dJ0_charAt_5068e_7 : decode cJ0_charAt_5068e 7 = .ok (.aload_n 0, 1) := by decide +kernel
theorem dJ0_charAt_5068e_8 : decode cJ0_charAt_5068e 8 = .ok (.getfield 9, 3) := by decide +kernel
theorem dJ0_charAt_5068e_11 : decode cJ0_charAt_5068e 11 = .ok (.iload_n 1, 1) := by decide +kernel
theorem dJ0_charAt_5068e_12 : decode cJ0_charAt_5068e 12 = .ok (.invokestatic 495, 3) := by decide +kernel
theorem dJ0_charAt_5068e_15 : decode cJ0_charAt_5068e 15 = .ok (.ireturn, 1) := by decide +kernel
theorem dJ0_charAt_5068e_16 : decode cJ0_charAt_5068e 16 = .ok (.aload_n 0, 1) := by decide +kernel
theorem dJ0_charAt_5068e_17 : decode cJ0_charAt_5068e 17 = .ok (.getfield 9, 3) := by decide +kernel
theorem dJ0_charAt_5068e_20 : decode cJ0_charAt_5068e 20 = .ok (.iload_n 1, 1) := by decide +kernel
theorem dJ0_charAt_5068e_21 : decode cJ0_charAt_5068e 21 = .ok (.invokestatic 498, 3) := by decide +kernel
theorem dJ0_charAt_5068e_24 : decode cJ0_charAt_5068e 24 = .ok (.ireturn, 1) := by decide +kernel
set_option maxRecDepth 8000 in
theorem lb_J0_coder_7d493 : pq_LB yJ0_coder_7d493 cJ0_coder_7d493 1 (some .byte) 0 := ⟨pq_t1 13 rfl rfl, pq_t2 147 rfl rfl, by decide +kernel, by decide +kernel, by decide +kernel⟩
theorem dJ0_coder_7d493_0 : decode cJ0_coder_7d493 0 = .ok (.getstatic 38, 3) := by decide +kernel
theorem dJ0_coder_7d493_3 : decode cJ0_coder_7d493 3 = .ok (.ifCond .eq 10, 3) := by decide +kernel
theorem dJ0_coder_7d493_6 : decode cJ0_coder_7d493 6 = .ok (.aload_n 0, 1) := by decide +kernel
theorem dJ0_coder_7d493_7 : decode cJ0_coder_7d493 7 = .ok (.getfield 15, 3) := by decide +kernel
theorem dJ0_coder_7d493_10 : decode cJ0_coder_7d493 10 = .ok (.goto 4, 3) := by decide +kernel
theorem dJ0_coder_7d493_13 : decode cJ0_coder_7d493 13 = .ok (.iconst 1, 1) := by decide +kernel
theorem dJ0_coder_7d493_14 : decode cJ0_coder_7d493 14 = .ok (.ireturn, 1) := by decide +kernel
set_option maxRecDepth 8000 in
theorem lb_J0_isLatin1_aae02 : pq_LB yJ0_isLatin1_aae02 cJ0_isLatin1_aae02 1 (some .boolean) 0 := ⟨pq_t1 13 rfl rfl, pq_t2 162 rfl rfl, by decide +kernel, by decide +kernel, by decide +kernel⟩
theorem dJ0_isLatin1_aae02_0 : decode cJ0_isLatin1_aae02 0 = .ok (.getstatic 38, 3) := by decide +kernel
theorem dJ0_isLatin1_aae02_3 : decode cJ0_isLatin1_aae02 3 = .ok (.ifCond .eq 14, 3) := by decide +kernel
theorem dJ0_isLatin1_aae02_6 : decode cJ0_isLatin1_aae02 6 = .ok (.aload_n 0, 1) := by decide +kernel
theorem dJ0_isLatin1_aae02_7 : decode cJ0_isLatin1_aae02 7 = .ok (.getfield 15, 3) := by decide +kernel
theorem dJ0_isLatin1_aae02_10 : decode cJ0_isLatin1_aae02 10 = .ok (.ifCond .ne 7, 3) := by decide +kernel
theorem dJ0_isLatin1_aae02_13 : decode cJ0_isLatin1_aae02 13 = .ok (.iconst 1, 1) := by decide +kernel
theorem dJ0_isLatin1_aae02_14 : decode cJ0_isLatin1_aae02 14 = .ok (.goto 4, 3) := by decide +kernel
theorem dJ0_isLatin1_aae02_17 : decode cJ0_isLatin1_aae02 17 = .ok (.iconst 0, 1) := by decide +kernel
theorem dJ0_isLatin1_aae02_18 : decode cJ0_isLatin1_aae02 18 = .ok (.ireturn, 1) := by decide +kernel
set_option maxRecDepth 8000 in
theorem lb_J1_charAt_3b067 : pq_LB yJ1_charAt_3b067 cJ1_charAt_3b067 2 (some .char) 2 := ⟨pq_t1 14 rfl rfl, pq_t2 165 rfl rfl, by decide +kernel, by decide +kernel, by decide +kernel⟩
theorem dJ1_charAt_3b067_0 : decode cJ1_charAt_3b067 0 = .ok (.iload_n 1, 1) := by decide +kernel
theorem dJ1_charAt_3b067_1 : decode cJ1_charAt_3b067 1 = .ok (.aload_n 0, 1) := by decide +kernel
theorem dJ1_charAt_3b067_2 : decode cJ1_charAt_3b067 2 = .ok (.arraylength, 1) := by decide +kernel
theorem dJ1_charAt_3b067_3 : decode cJ1_charAt_3b067 3 = .ok (.invokestatic 9, 3) := by decide +kernel
theorem dJ1_charAt_3b067_6 : decode cJ1_charAt_3b067 6 = .ok (.aload_n 0, 1) := by decide +kernel
theorem dJ1_charAt_3b067_7 : decode cJ1_charAt_3b067 7 = .ok (.iload_n 1, 1) := by decide +kernel
theorem dJ1_charAt_3b067_8 : decode cJ1_charAt_3b067 8 = .ok (.baload, 1) := by decide +kernel
theorem dJ1_charAt_3b067_9 : decode cJ1_charAt_3b067 9 = .ok (.sipush 255, 3) := by decide +kernel
theorem dJ1_charAt_3b067_12 : decode cJ1_charAt_3b067 12 = .ok (.iand, 1) := by decide +kernel
theorem dJ1_charAt_3b067_13 : decode cJ1_charAt_3b067 13 = .ok (.i2c, 1) := by decide +kernel
theorem dJ1_charAt_3b067_14 : decode cJ1_charAt_3b067 14 = .ok (.ireturn, 1) := by decide +kernel
set_option maxRecDepth 8000 in
theorem lb_J0_checkIndex_df160 : pq_LB yJ0_checkIndex_df160 cJ0_checkIndex_df160 2 none 2 := ⟨pq_t1 13 rfl rfl, pq_t2 168 rfl rfl, by decide +kernel, by decide +kernel, by decide +kernel⟩
theorem dJ0_checkIndex_df160_0 : decode cJ0_checkIndex_df160 0 = .ok (.iload_n 0, 1) := by decide +kernel
theorem dJ0_checkIndex_df160_1 : decode cJ0_checkIndex_df160 1 = .ok (.iload_n 1, 1) := by decide +kernel
theorem dJ0_checkIndex_df160_2 : decode cJ0_checkIndex_df160 2 = .ok (.getstatic 1053, 3) := by decide +kernel
theorem dJ0_checkIndex_df160_5 : decode cJ0_checkIndex_df160 5 = .ok (.invokestatic 1059, 3) := by decide +kernel
theorem dJ0_checkIndex_df160_8 : decode cJ0_checkIndex_df160 8 = .ok (.pop, 1) := by decide +kernel
theorem dJ0_checkIndex_df160_9 : decode cJ0_checkIndex_df160 9 = .ok (.return_, 1) := by decide +kernel
set_option maxRecDepth 8000 in
theorem lb_J3_checkIndex_8e157 : pq_LB yJ3_checkIndex_8e157 cJ3_checkIndex_8e157 3 (some .int) 3 := ⟨pq_t1 15 rfl rfl, pq_t2 173 rfl rfl, by decide +kernel, by decide +kernel, by decide +kernel⟩
theorem dJ3_checkIndex_8e157_0 : decode cJ3_checkIndex_8e157 0 = .ok (.iload_n 0, 1) := by decide +kernel
theorem dJ3_checkIndex_8e157_1 : decode cJ3_checkIndex_8e157 1 = .ok (.ifCond .lt 8, 3) := by decide +kernel
theorem dJ3_checkIndex_8e157_4 : decode cJ3_checkIndex_8e157 4 = .ok (.iload_n 0, 1) := by decide +kernel
theorem dJ3_checkIndex_8e157_5 : decode cJ3_checkIndex_8e157 5 = .ok (.iload_n 1, 1) := by decide +kernel
theorem dJ3_checkIndex_8e157_6 : decode cJ3_checkIndex_8e157 6 = .ok (.if_icmp .lt 10, 3) := by decide +kernel
theorem dJ3_checkIndex_8e157_9 : decode cJ3_checkIndex_8e157 9 = .ok (.aload_n 2, 1) := by decide +kernel
theorem dJ3_checkIndex_8e157_10 : decode cJ3_checkIndex_8e157 10 = .ok (.iload_n 0, 1) := by decide +kernel
theorem dJ3_checkIndex_8e157_11 : decode cJ3_checkIndex_8e157 11 = .ok (.iload_n 1, 1) := by decide +kernel
theorem dJ3_checkIndex_8e157_12 : decode cJ3_checkIndex_8e157 12 = .ok (.invokestatic 95, 3) := by decide +kernel
theorem dJ3_checkIndex_8e157_15 : decode cJ3_checkIndex_8e157 15 = .ok (.athrow, 1) := by decide +kernel
theorem dJ3_checkIndex_8e157_16 : decode cJ3_checkIndex_8e157 16 = .ok (.iload_n 0, 1) := by decide +kernel
theorem dJ3_checkIndex_8e157_17 : decode cJ3_checkIndex_8e157 17 = .ok (.ireturn, 1) := by decide +kernel
set_option maxRecDepth 8000 in
theorem lv_J0_335 : Cond.methodLink RJ0 335 yJ0_coder_7d493 ∈ pq_G ∧ Cond.instanceMethod yJ0_coder_7d493 ∈ pq_G ∧ Cond.selects yJ0_coder_7d493.cls yJ0_coder_7d493 yJ0_coder_7d493 ∈ pq_G := ⟨pq_t2 144 rfl rfl, pq_t2 145 rfl rfl, pq_t2 146 rfl rfl⟩
set_option maxRecDepth 8000 in
theorem lv_J0_492 : Cond.methodLink RJ0 492 yJ0_isLatin1_aae02 ∈ pq_G ∧ Cond.instanceMethod yJ0_isLatin1_aae02 ∈ pq_G ∧ Cond.selects yJ0_isLatin1_aae02.cls yJ0_isLatin1_aae02 yJ0_isLatin1_aae02 ∈ pq_G := ⟨pq_t2 159 rfl rfl, pq_t2 160 rfl rfl, pq_t2 161 rfl rfl⟩
set_option maxRecDepth 8000 in
theorem lv_J0_495 : Cond.methodLink RJ0 495 yJ1_charAt_3b067 ∈ pq_G ∧ Cond.static yJ1_charAt_3b067 ∈ pq_G := ⟨pq_t2 163 rfl rfl, pq_t2 164 rfl rfl⟩
set_option maxRecDepth 8000 in
theorem lv_J1_9 : Cond.methodLink RJ1 9 yJ0_checkIndex_df160 ∈ pq_G ∧ Cond.static yJ0_checkIndex_df160 ∈ pq_G := ⟨pq_t2 166 rfl rfl, pq_t2 167 rfl rfl⟩
set_option maxRecDepth 8000 in
theorem lv_J0_1059 : Cond.methodLink RJ0 1059 yJ3_checkIndex_8e157 ∈ pq_G ∧ Cond.static yJ3_checkIndex_8e157 ∈ pq_G := ⟨pq_t2 171 rfl rfl, pq_t2 172 rfl rfl⟩
set_option maxRecDepth 8000 in
theorem li_J0_length_8abf5 : Cond.instanceMethod yJ0_length_8abf5 ∈ pq_G ∧ Cond.selects yJ0_length_8abf5.cls yJ0_length_8abf5 yJ0_length_8abf5 ∈ pq_G := ⟨pq_t2 141 rfl rfl, pq_t2 142 rfl rfl⟩
set_option maxRecDepth 8000 in
theorem li_J0_charAt_5068e : Cond.instanceMethod yJ0_charAt_5068e ∈ pq_G ∧ Cond.selects yJ0_charAt_5068e.cls yJ0_charAt_5068e yJ0_charAt_5068e ∈ pq_G := ⟨pq_t2 156 rfl rfl, pq_t2 157 rfl rfl⟩
set_option maxRecDepth 8000 in
theorem ks_comp : Cond.fieldLink RJ0 38 "java/lang/String" "COMPACT_STRINGS" "Z" ∈ pq_G := pq_t2 148 rfl rfl
set_option maxRecDepth 8000 in
theorem ks_val : Cond.fieldLink RJ0 9 "java/lang/String" "value" "[B" ∈ pq_G := pq_t7 61 rfl rfl
set_option maxRecDepth 8000 in
theorem ks_cod : Cond.fieldLink RJ0 15 "java/lang/String" "coder" "B" ∈ pq_G := pq_t7 62 rfl rfl
set_option maxRecDepth 8000 in
theorem ks_sio : Cond.fieldLink RJ0 1053 "jdk/internal/util/Preconditions" "SIOOBE_FORMATTER" "Ljava/util/function/BiFunction;" ∈ pq_G := pq_t2 169 rfl rfl
section STR
variable {X : pq_X} {g : pq_g} {S : pq_S} {α : Type} {res : α} {nL pc : Nat} {L : List (Nat × Value)} {st : List Value} {h : pq_H} {F : Option α} {b : ByteArray} {own : String}
theorem pq_hS (hK : pq_K X S) {H : Heap} {locs : List Loc} (hS : va_S X.2.2.2.1 X.2.2.2.2 H locs) : va_S X.2.2.2.1 X.1.2.2.2.2.heap H locs := by
  have hS1 := hS
  rw [hK.2.2.1] at hS1
  exact hS1
theorem v_ifeqN (hB : pq_B X b nL own) {a : Int32} (hne : ¬ a = 0) {off : Int} {tgt : Nat} (d : decode b pc = .ok (.ifCond .eq off, 3)) (ht : (pc : Int) + off = (tgt : Int)) (k : V X S res nL (pc + 3) L st h F) : V X S res nL pc L (.int a :: st) h F := fun e ls H locs hl hP hS => lv_if_eq hB.1 hB.2.1 d ht (fun z => absurd z hne) (fun _ => k e ls H locs hl hP hS)
theorem v_ifneN (hB : pq_B X b nL own) {a : Int32} (hne : a = 0) {off : Int} {tgt : Nat} (d : decode b pc = .ok (.ifCond .ne off, 3)) (ht : (pc : Int) + off = (tgt : Int)) (k : V X S res nL (pc + 3) L st h F) : V X S res nL pc L (.int a :: st) h F := fun e ls H locs hl hP hS => lv_if_ne hB.1 hB.2.1 d ht (fun z => absurd hne z) (fun _ => k e ls H locs hl hP hS)
theorem v_ifltN (hB : pq_B X b nL own) {a : Int32} (hne : ¬ a < 0) {off : Int} {tgt : Nat} (d : decode b pc = .ok (.ifCond .lt off, 3)) (ht : (pc : Int) + off = (tgt : Int)) (k : V X S res nL (pc + 3) L st h F) : V X S res nL pc L (.int a :: st) h F := fun e ls H locs hl hP hS => lv_if_lt hB.1 hB.2.1 d ht (fun z => absurd z hne) (fun _ => k e ls H locs hl hP hS)
theorem v_icmpltY (hB : pq_B X b nL own) {a c : Int32} (hne : a < c) {off : Int} {tgt : Nat} (d : decode b pc = .ok (.if_icmp .lt off, 3)) (ht : (pc : Int) + off = (tgt : Int)) (k : V X S res nL tgt L st h F) : V X S res nL pc L (.int c :: .int a :: st) h F := fun e ls H locs hl hP hS => lv_icmp_lt hB.1 hB.2.1 d ht (fun _ => k e ls H locs hl hP hS) (fun z => absurd hne z)
theorem v_comp (hB : pq_B X b nL RJ0) (hK : pq_K X (SC g)) (d : decode b pc = .ok (.getstatic 38, 3)) (kk : V X (SC g) res nL (pc + 3) L (.int 1 :: st) h F) : V X (SC g) res nL pc L st h F := fun e ls H locs hl hP hS => va_gets hB.1 hB.2.1 (envC_comp hK.2.2.2.1) (pq_hS hK hS) hB.2.2.2.1 (hB.2.2.2.2 _ ks_comp) (fun _ z => z) d (kk e ls H locs hl hP hS)
theorem v_sval (hB : pq_B X b nL RJ0) (hK : pq_K X (SC g)) {w : Nat} (hw : w < 5) (d : decode b pc = .ok (.getfield 9, 3)) (kk : V X (SC g) res nL (pc + 3) L (.ref (g.2.2.2.2.2 w) :: st) h F) : V X (SC g) res nL pc L (.ref (g.2.2.2.2.1 w) :: st) h F := fun e ls H locs hl hP hS => vk_getf hB.1 hB.2.1 ((envC_str hK.2.2.2.1).1 w hw).2.2.1 (pq_hS hK hS) hB.2.2.2.1 (hB.2.2.2.2 _ ks_val) (fun _ z => z) d (kk e ls H locs hl hP hS)
theorem v_scod (hB : pq_B X b nL RJ0) (hK : pq_K X (SC g)) {w : Nat} (hw : w < 5) (d : decode b pc = .ok (.getfield 15, 3)) (kk : V X (SC g) res nL (pc + 3) L (.int 0 :: st) h F) : V X (SC g) res nL pc L (.ref (g.2.2.2.2.1 w) :: st) h F := fun e ls H locs hl hP hS => vk_getf hB.1 hB.2.1 ((envC_str hK.2.2.2.1).1 w hw).2.1 (pq_hS hK hS) hB.2.2.2.1 (hB.2.2.2.2 _ ks_cod) (fun _ z => z) d (kk e ls H locs hl hP hS)
theorem v_slen (hB : pq_B X b nL own) (hK : pq_K X (SC g)) {w : Nat} (hw : w < 5) (d : decode b pc = .ok (.arraylength, 1)) (kk : V X (SC g) res nL (pc + 1) L (.int (nI (txL.getD w 0)) :: st) h F) : V X (SC g) res nL pc L (.ref (g.2.2.2.2.2 w) :: st) h F := fun e ls H locs hl hP hS => va_tlen hB.1 hB.2.1 ((envC_str hK.2.2.2.1).1 w hw).2.2.2 (pq_hS hK hS) rfl d (kk e ls H locs hl hP hS)
theorem v_sbyte (hB : pq_B X b nL own) (hK : pq_K X (SC g)) {w : Nat} (hw : w < 5) {i : Int32} (hi : inb i (txL.getD w 0) = true) (d : decode b pc = .ok (.baload, 1)) (kk : V X (SC g) res nL (pc + 1) L (.int ((txB.getD w []).getD i.toNatClampNeg 0) :: st) h F) : V X (SC g) res nL pc L (.int i :: .ref (g.2.2.2.2.2 w) :: st) h F := fun e ls H locs hl hP hS => va_tb hB.1 hB.2.1 ((envC_str hK.2.2.2.1).1 w hw).2.2.2 (pq_hS hK hS) (inb_in hi) rfl d (kk e ls H locs hl hP hS)
theorem v_i2c (hB : pq_B X b nL own) {a : Int32} (d : decode b pc = .ok (.i2c, 1)) (k : V X S res nL (pc + 1) L (.int (a.toUInt32 % 65536).toInt32 :: st) h F) : V X S res nL pc L (.int a :: st) h F := fun e ls H locs hl hP hS => lv_i2c hB.1 hB.2.1 d rfl (k e ls H locs hl hP hS)
theorem v_nret {x : Int32} {ty : FieldType} {rf rl : Nat} (hn : narrow ty (.int x) = .int x) (hB : pq_B X b nL own) (hK : pq_K X S) (hR : pq_R X S (some ty) rf rl (some (.int x)) h) (d : decode b pc = .ok (.ireturn, 1)) : V X S res nL pc L [.int x] h F := fun e ls H locs hl hP hS => by
  have hq := pq_end hK hR hP hS
  have hR2 := hR
  obtain ⟨-, h2, h3, h4⟩ := hR2
  rw [h4]
  exact W.zret hB.1 hB.2.1 h2 hn hq hS.2.2 d h3
theorem v_callVr {y : MethodName} {bb : ByteArray} {n : Nat} {ret : Option FieldType} {k idx rf rl RF RL a : Nat} {o : Option Value} {h' : pq_H} {st0 : List Value} (hB : pq_B X b nL own) (hK : pq_K X S) (hRm : pq_Rm X RF RL) (As : List Value) (st : List Value) (rc : ∀ (H : Heap) (locs : List Loc), va_S X.2.2.2.1 X.1.2.2.2.2.heap H locs → ∃ cell : Cell, H[a]? = some cell ∧ cell.vm.isStatics = false ∧ X.1.2.2.2.2.vm.findClass y.cls = some cell.cls) (lk : pq_LB y bb n ret k) (lv : Cond.methodLink own idx y ∈ pq_G ∧ Cond.instanceMethod y ∈ pq_G ∧ Cond.selects y.cls y y ∈ pq_G) (hM : pq_M S X.2.2.2.1 X.1.2.1 y bb n ret rf rl (.ref a :: As) h o h') (d : decode b pc = .ok (.invokevirtual idx, 3)) (hn : As.length = k) (hst : st0 = As.reverse ++ .ref a :: st) (hW : (st.map fun v => v.category).sum ≤ 8) (hr : rf + 1 ≤ RF) (hr2 : 8 + (n + 11) + rl ≤ RL) : pq_St X S nL pc L st0 h o.toList h' st := by
  intro α res F kk e ls H locs hl hP hS
  refine pq_call (S := S) (A := X.2.2.2.1) (o := o) (h' := h') (a := (Value.ref a :: As).toArray) (rest := st) ?_ hS (fun H1 locs1 hP1 hS1 => kk e ls H1 locs1 hl hP1 hS1)
  exact va_runV (As := As) (rest := st) (C := y.cls) ⟨hB.1, hB.2.1, hB.2.2.1, hB.2.2.2.1, hB.2.2.2.2⟩ hM ⟨pq_cb hB hRm lk lv.1 hr hr2, hB.2.2.2.2 _ lv.2.1, hB.2.2.2.2 _ lv.2.2⟩ ⟨pq_blind hK.A, rc H locs (pq_hS hK hS), fun U hU hW2 => ⟨rfl, pq_wd hK hP hS hU hW2⟩⟩ rfl hn hl.1 hst (lv_room hW) d ⟨Nat.zero_le _, Nat.zero_le _⟩
theorem v_srecv (hK : pq_K X (SC g)) {w : Nat} (hw : w < 5) : ∀ (H : Heap) (locs : List Loc), va_S X.2.2.2.1 X.1.2.2.2.2.heap H locs → ∃ cell : Cell, H[g.2.2.2.2.1 w]? = some cell ∧ cell.vm.isStatics = false ∧ X.1.2.2.2.2.vm.findClass "java/lang/String" = some cell.cls := fun H locs hS => vk_recv (envC_str hK.2.2.2.1) hw hS
end STR
theorem c_J0_coder (g : pq_g) {A : Nat → Prop} (hA : pq_A (SC g) A) (l : Launch) (w : Nat) (hw : w < 5) (h : pq_H) : pq_M (SC g) A l yJ0_coder_7d493 cJ0_coder_7d493 1 (some .byte) 0 0 [.ref (g.2.2.2.2.1 w)] h (some (.int 0)) h := by
  refine pq_met hA l (own := RJ0) 0 0 _ [(0, .ref (g.2.2.2.2.1 w))] h _ h (by decide +kernel) rfl (Nat.le_of_ble_eq_true rfl) rfl (fun X hXl hXA hB hK hR => ?_)
  refine v_comp hB hK dJ0_coder_7d493_0 ?_
  refine v_ifeqN (tgt := 13) hB (by decide) dJ0_coder_7d493_3 rfl ?_
  refine v_aload_n hB 0 dJ0_coder_7d493_6 rfl rfl ?_
  refine v_scod hB hK hw dJ0_coder_7d493_7 ?_
  refine v_goto (tgt := 14) hB dJ0_coder_7d493_10 rfl ?_
  exact v_nret rfl hB hK hR dJ0_coder_7d493_14
theorem c_J0_isLatin1 (g : pq_g) {A : Nat → Prop} (hA : pq_A (SC g) A) (l : Launch) (w : Nat) (hw : w < 5) (h : pq_H) : pq_M (SC g) A l yJ0_isLatin1_aae02 cJ0_isLatin1_aae02 1 (some .boolean) 0 0 [.ref (g.2.2.2.2.1 w)] h (some (.int 1)) h := by
  refine pq_met hA l (own := RJ0) 0 0 _ [(0, .ref (g.2.2.2.2.1 w))] h _ h (by decide +kernel) rfl (Nat.le_of_ble_eq_true rfl) rfl (fun X hXl hXA hB hK hR => ?_)
  refine v_comp hB hK dJ0_isLatin1_aae02_0 ?_
  refine v_ifeqN (tgt := 17) hB (by decide) dJ0_isLatin1_aae02_3 rfl ?_
  refine v_aload_n hB 0 dJ0_isLatin1_aae02_6 rfl rfl ?_
  refine v_scod hB hK hw dJ0_isLatin1_aae02_7 ?_
  refine v_ifneN (tgt := 17) hB rfl dJ0_isLatin1_aae02_10 rfl ?_
  refine v_iconst hB 1 dJ0_isLatin1_aae02_13 (by decide) ?_
  refine v_goto (tgt := 18) hB dJ0_isLatin1_aae02_14 rfl ?_
  exact v_nret rfl hB hK hR dJ0_isLatin1_aae02_18
theorem c_J0_length (g : pq_g) {A : Nat → Prop} (hA : pq_A (SC g) A) (l : Launch) (w : Nat) (hw : w < 5) (h : pq_H) : pq_M (SC g) A l yJ0_length_8abf5 cJ0_length_8abf5 1 (some .int) 1 20 [.ref (g.2.2.2.2.1 w)] h (some (.int (nI (txL.getD w 0)))) h := by
  refine pq_met hA l (own := RJ0) 1 20 _ [(0, .ref (g.2.2.2.2.1 w))] h _ h (by decide +kernel) rfl (Nat.le_of_ble_eq_true rfl) rfl (fun X hXl hXA hB hK hR => ?_)
  refine v_aload_n hB 0 dJ0_length_8abf5_0 rfl rfl ?_
  refine v_sval hB hK hw dJ0_length_8abf5_1 ?_
  refine v_slen hB hK hw dJ0_length_8abf5_4 ?_
  refine v_aload_n hB 0 dJ0_length_8abf5_5 rfl rfl ?_
  refine v_bT (v_callVr hB hK hR.rm [] [.int (nI (txL.getD w 0))] (v_srecv hK hw) lb_J0_coder_7d493 lv_J0_335 (c_J0_coder g hK.A X.1.2.1 w hw h) dJ0_length_8abf5_6 rfl rfl (Nat.le_of_ble_eq_true rfl) (by decide) (by decide)) ?_
  refine v_ishr hB dJ0_length_8abf5_9 ?_
  rw [sc_shr0 (by have : ∀ w, w < 5 → txL.getD w 0 < 2 ^ 31 := by decide
                  exact this w hw)]
  exact v_iret hB hK hR dJ0_length_8abf5_10
theorem c_J3_checkIndex (g : pq_g) {A : Nat → Prop} (hA : pq_A (SC g) A) (l : Launch) (i n : Int32) (v : Value) (hv : v.category = 1) (h0 : ¬ i < 0) (h1 : i < n) (h : pq_H) : pq_M (SC g) A l yJ3_checkIndex_8e157 cJ3_checkIndex_8e157 3 (some .int) 0 0 [.int i, .int n, v] h (some (.int i)) h := by
  refine pq_met hA l (own := RJ3) 0 0 _ [(0, .int i), (1, .int n), (2, v)] h _ h (by decide +kernel) rfl (by cases v <;> first | exact Nat.le_of_ble_eq_true rfl | (exact absurd hv (by simp [Value.category]))) rfl (fun X hXl hXA hB hK hR => ?_)
  refine v_iload_n hB 0 dJ3_checkIndex_8e157_0 rfl rfl ?_
  refine v_ifltN (tgt := 9) hB h0 dJ3_checkIndex_8e157_1 rfl ?_
  refine v_iload_n hB 0 dJ3_checkIndex_8e157_4 rfl rfl ?_
  refine v_iload_n hB 1 dJ3_checkIndex_8e157_5 rfl rfl ?_
  refine v_icmpltY (tgt := 16) hB h1 dJ3_checkIndex_8e157_6 rfl ?_
  refine v_iload_n hB 0 dJ3_checkIndex_8e157_16 rfl rfl ?_
  exact v_iret hB hK hR dJ3_checkIndex_8e157_17
theorem c_J0_checkIndex (g : pq_g) {A : Nat → Prop} (hA : pq_A (SC g) A) (l : Launch) (i n : Int32) (h0 : ¬ i < 0) (h1 : i < n) (h : pq_H) : pq_M (SC g) A l yJ0_checkIndex_df160 cJ0_checkIndex_df160 2 none 1 22 [.int i, .int n] h none h := by
  refine pq_met hA l (own := RJ0) 1 22 _ [(0, .int i), (1, .int n)] h _ h (by decide +kernel) rfl (Nat.le_of_ble_eq_true rfl) rfl (fun X hXl hXA hB hK hR => ?_)
  refine v_iload_n hB 0 dJ0_checkIndex_df160_0 rfl rfl ?_
  refine v_iload_n hB 1 dJ0_checkIndex_df160_1 rfl rfl ?_
  have k : ∀ v : Value, v.category = 1 → V X (SC g) () 2 5 [(0, .int i), (1, .int n)] [v, .int n, .int i] h (some ()) := fun v hv => by
    refine v_bT (v_callS hB hK hR.rm [.int i, .int n, v] [] lb_J3_checkIndex_8e157 lv_J0_1059 (c_J3_checkIndex g hK.A X.1.2.1 i n v hv h0 h1 h) dJ0_checkIndex_df160_5 rfl rfl (Nat.le_of_ble_eq_true rfl) (by decide) (by decide)) ?_
    refine v_pop hB dJ0_checkIndex_df160_8 rfl ?_
    exact v_vret hB hK hR dJ0_checkIndex_df160_9
  intro e ls H locs hl hP hS
  rcases envC_sio hK.2.2.2.1 with hz | ⟨t, hz⟩
  · exact va_gets hB.1 hB.2.1 hz (pq_hS hK hS) hB.2.2.2.1 (hB.2.2.2.2 _ ks_sio) (fun _ z => z) dJ0_checkIndex_df160_2 (k .null rfl e ls H locs hl hP hS)
  · exact va_gets hB.1 hB.2.1 hz (pq_hS hK hS) hB.2.2.2.1 (hB.2.2.2.2 _ ks_sio) (fun _ z => z) dJ0_checkIndex_df160_2 (k (.ref t) rfl e ls H locs hl hP hS)
theorem tx_char : ∀ w, w < 5 → ∀ j, j < txL.getD w 0 → ((((txB.getD w []).getD j 0) &&& 255).toUInt32 % 65536).toInt32 = (txB.getD w []).getD j 0 := by decide +kernel
theorem tx_nar : ∀ w, w < 5 → ∀ j, j < txL.getD w 0 → narrow .char (.int ((txB.getD w []).getD j 0)) = .int ((txB.getD w []).getD j 0) := by decide +kernel
theorem tx_lt : ∀ w, w < 5 → txL.getD w 0 < 100 := by decide
theorem inb_n0 {i : Int32} {n : Nat} (h : inb i n = true) : ¬ i < 0 := fun q => inb_in h (Or.inl q)
theorem inb_nI {i : Int32} {n : Nat} (hn : n < 2 ^ 31) (h : inb i n = true) : i < nI n := by
  obtain ⟨j, hj, rfl⟩ := vp_in_of (inb_in h) hn
  exact nI_lt hj hn
theorem c_J1_charAt (g : pq_g) {A : Nat → Prop} (hA : pq_A (SC g) A) (l : Launch) (w : Nat) (hw : w < 5) (i : Int32) (hi : inb i (txL.getD w 0) = true) (h : pq_H) : pq_M (SC g) A l yJ1_charAt_3b067 cJ1_charAt_3b067 2 (some .char) 2 43 [.ref (g.2.2.2.2.2 w), .int i] h (some (.int ((txB.getD w []).getD i.toNatClampNeg 0))) h := by
  refine pq_met hA l (own := RJ1) 2 43 _ [(0, .ref (g.2.2.2.2.2 w)), (1, .int i)] h _ h (by decide +kernel) rfl (Nat.le_of_ble_eq_true rfl) rfl (fun X hXl hXA hB hK hR => ?_)
  refine v_iload_n hB 1 dJ1_charAt_3b067_0 rfl rfl ?_
  refine v_aload_n hB 0 dJ1_charAt_3b067_1 rfl rfl ?_
  refine v_slen hB hK hw dJ1_charAt_3b067_2 ?_
  refine (v_callS hB hK hR.rm [.int i, .int (nI (txL.getD w 0))] [] lb_J0_checkIndex_df160 lv_J1_9 (c_J0_checkIndex g hK.A X.1.2.1 i _ (inb_n0 hi) (inb_nI (by have := tx_lt w hw; omega) hi) h) dJ1_charAt_3b067_3 rfl rfl (Nat.le_of_ble_eq_true rfl) (by decide) (by decide) : pq_St X (SC g) _ _ _ _ h [] h []) ?_
  refine v_aload_n hB 0 dJ1_charAt_3b067_6 rfl rfl ?_
  refine v_iload_n hB 1 dJ1_charAt_3b067_7 rfl rfl ?_
  refine v_sbyte hB hK hw hi dJ1_charAt_3b067_8 ?_
  refine v_sipush hB 255 dJ1_charAt_3b067_9 (by decide) ?_
  refine v_iand hB dJ1_charAt_3b067_12 ?_
  refine v_i2c hB dJ1_charAt_3b067_13 ?_
  rw [tx_char w hw _ (inb_lt hi)]
  exact v_nret (tx_nar w hw _ (inb_lt hi)) hB hK hR dJ1_charAt_3b067_14
theorem c_J0_charAt (g : pq_g) {A : Nat → Prop} (hA : pq_A (SC g) A) (l : Launch) (w : Nat) (hw : w < 5) (i : Int32) (hi : inb i (txL.getD w 0) = true) (h : pq_H) : pq_M (SC g) A l yJ0_charAt_5068e cJ0_charAt_5068e 2 (some .char) 3 64 [.ref (g.2.2.2.2.1 w), .int i] h (some (.int ((txB.getD w []).getD i.toNatClampNeg 0))) h := by
  refine pq_met hA l (own := RJ0) 3 64 _ [(0, .ref (g.2.2.2.2.1 w)), (1, .int i)] h _ h (by decide +kernel) rfl (Nat.le_of_ble_eq_true rfl) rfl (fun X hXl hXA hB hK hR => ?_)
  refine v_aload_n hB 0 dJ0_charAt_5068e_0 rfl rfl ?_
  refine v_bT (v_callVr hB hK hR.rm [] [] (v_srecv hK hw) lb_J0_isLatin1_aae02 lv_J0_492 (c_J0_isLatin1 g hK.A X.1.2.1 w hw h) dJ0_charAt_5068e_1 rfl rfl (Nat.le_of_ble_eq_true rfl) (by decide) (by decide)) ?_
  refine v_ifeqN (tgt := 16) hB (by decide) dJ0_charAt_5068e_4 rfl ?_
  refine v_aload_n hB 0 dJ0_charAt_5068e_7 rfl rfl ?_
  refine v_sval hB hK hw dJ0_charAt_5068e_8 ?_
  refine v_iload_n hB 1 dJ0_charAt_5068e_11 rfl rfl ?_
  refine v_bT (v_callS hB hK hR.rm [.ref (g.2.2.2.2.2 w), .int i] [] lb_J1_charAt_3b067 lv_J0_495 (c_J1_charAt g hK.A X.1.2.1 w hw i hi h) dJ0_charAt_5068e_12 rfl rfl (Nat.le_of_ble_eq_true rfl) (by decide) (by decide)) ?_
  exact v_nret (tx_nar w hw _ (inb_lt hi)) hB hK hR dJ0_charAt_5068e_15
section STR2
variable {X : pq_X} {g : pq_g} {α : Type} {res : α} {nL pc : Nat} {L : List (Nat × Value)} {st : List Value} {h : pq_H} {F : Option α} {b : ByteArray} {own : String}
theorem v_strlen {idx RF RL w : Nat} (hB : pq_B X b nL own) (hK : pq_K X (SC g)) (hRm : pq_Rm X RF RL) (lk : Cond.methodLink own idx yJ0_length_8abf5 ∈ pq_G) (hw : w < 5) (hr : 2 ≤ RF) (hr2 : 40 ≤ RL) (hW : (st.map fun v => v.category).sum ≤ 8) (d : decode b pc = .ok (.invokevirtual idx, 3)) (kk : V X (SC g) res nL (pc + 3) L (.int (nI (txL.getD w 0)) :: st) h F) : V X (SC g) res nL pc L (.ref (g.2.2.2.2.1 w) :: st) h F := v_bT (v_callVr hB hK hRm [] st (v_srecv hK hw) lb_J0_length_8abf5 ⟨lk, li_J0_length_8abf5⟩ (c_J0_length g hK.A X.1.2.1 w hw h) d rfl rfl hW hr hr2) kk
theorem v_strat {idx RF RL w : Nat} {i : Int32} (hB : pq_B X b nL own) (hK : pq_K X (SC g)) (hRm : pq_Rm X RF RL) (lk : Cond.methodLink own idx yJ0_charAt_5068e ∈ pq_G) (hw : w < 5) (hr : 4 ≤ RF) (hr2 : 85 ≤ RL) (hW : (st.map fun v => v.category).sum ≤ 8) (d : decode b pc = .ok (.invokevirtual idx, 3)) (kk : V X (SC g) res nL (pc + 3) L (.int ((txB.getD w []).getD i.toNatClampNeg 0) :: st) h F) : V X (SC g) res nL pc L (.int i :: .ref (g.2.2.2.2.1 w) :: st) h (gd (inb i (txL.getD w 0)) F) := fun e => by
  obtain ⟨c1, c2⟩ := gd_some e
  exact v_bT (v_callVr hB hK hRm [.int i] st (v_srecv hK hw) lb_J0_charAt_5068e ⟨lk, li_J0_charAt_5068e⟩ (c_J0_charAt g hK.A X.1.2.1 w hw i c1 h) d rfl rfl hW hr hr2) kk c2
end STR2
theorem dX0_textOf_0 : decode cX0_textOf 0 = .ok (.iload_n 0, 1) := by decide +kernel
theorem dX0_textOf_1 : decode cX0_textOf 1 = .ok (.tableswitch 43 0 3 #[31, 34, 37, 40], 31) := by decide +kernel
theorem dX0_textOf_32 : decode cX0_textOf 32 = .ok (.ldc 73, 2) := by decide +kernel
theorem dX0_textOf_34 : decode cX0_textOf 34 = .ok (.areturn, 1) := by decide +kernel
theorem dX0_textOf_35 : decode cX0_textOf 35 = .ok (.ldc 75, 2) := by decide +kernel
theorem dX0_textOf_37 : decode cX0_textOf 37 = .ok (.areturn, 1) := by decide +kernel
theorem dX0_textOf_38 : decode cX0_textOf 38 = .ok (.ldc 77, 2) := by decide +kernel
theorem dX0_textOf_40 : decode cX0_textOf 40 = .ok (.areturn, 1) := by decide +kernel
theorem dX0_textOf_41 : decode cX0_textOf 41 = .ok (.ldc 79, 2) := by decide +kernel
theorem dX0_textOf_43 : decode cX0_textOf 43 = .ok (.areturn, 1) := by decide +kernel
theorem dX0_textOf_44 : decode cX0_textOf 44 = .ok (.ldc 81, 2) := by decide +kernel
theorem dX0_textOf_46 : decode cX0_textOf 46 = .ok (.areturn, 1) := by decide +kernel
theorem c_X0_textOf (g : pq_g) {A : Nat → Prop} (hA : pq_A (SC g) A) (l : Launch) (p0 : Int32) (h : pq_H) : pq_M (SC g) A l yX0_textOf cX0_textOf 1 (some (.object "java/lang/String")) 0 0 [.int p0] h (some (.ref (g.2.2.2.2.1 (f_X0_textOf p0)))) h := by
  refine pq_met hA l (own := RX0) 0 0 _ [(0, .int p0)] h _ h (by decide +kernel) rfl (Nat.le_of_ble_eq_true rfl) rfl (fun X hXl hXA hB hK hR => ?_)
  refine v_iload_n hB 0 dX0_textOf_0 rfl rfl ?_
  by_cases n0 : p0 = 0
  · rw [show f_X0_textOf p0 = 0 by subst n0; rfl] at hR
    subst n0
    refine V.cast (F' := if (0 : Int32) = 0 then some () else none) (res' := ()) (fun _ => rfl) ?_
    refine v_tcase (tgt := 32) hB 0 dX0_textOf_1 (by decide) (by decide) rfl rfl ?_ (fun z => absurd rfl z)
    exact fun e ls H locs hl hP hS => va_ldcS hB.1 hB.2.1 hB.2.2.2.1 (vk_R.warm (State.WarmedH.refl _) (envC_t0 hK.2.2.2.1)) dX0_textOf_32 (v_aret (F := some ()) (res := ()) hB hK hR dX0_textOf_34 rfl ls H locs hl hP hS)
  by_cases n1 : p0 = 1
  · rw [show f_X0_textOf p0 = 1 by subst n1; rfl] at hR
    subst n1
    refine V.cast (F' := if (1 : Int32) = 1 then some () else none) (res' := ()) (fun _ => rfl) ?_
    refine v_tcase (tgt := 35) hB 1 dX0_textOf_1 (by decide) (by decide) rfl rfl ?_ (fun z => absurd rfl z)
    exact fun e ls H locs hl hP hS => va_ldcS hB.1 hB.2.1 hB.2.2.2.1 (vk_R.warm (State.WarmedH.refl _) (envC_t1 hK.2.2.2.1)) dX0_textOf_35 (v_aret (F := some ()) (res := ()) hB hK hR dX0_textOf_37 rfl ls H locs hl hP hS)
  by_cases n2 : p0 = 2
  · rw [show f_X0_textOf p0 = 2 by subst n2; rfl] at hR
    subst n2
    refine V.cast (F' := if (2 : Int32) = 2 then some () else none) (res' := ()) (fun _ => rfl) ?_
    refine v_tcase (tgt := 38) hB 2 dX0_textOf_1 (by decide) (by decide) rfl rfl ?_ (fun z => absurd rfl z)
    exact fun e ls H locs hl hP hS => va_ldcS hB.1 hB.2.1 hB.2.2.2.1 (vk_R.warm (State.WarmedH.refl _) (envC_t2 hK.2.2.2.1)) dX0_textOf_38 (v_aret (F := some ()) (res := ()) hB hK hR dX0_textOf_40 rfl ls H locs hl hP hS)
  by_cases n3 : p0 = 3
  · rw [show f_X0_textOf p0 = 3 by subst n3; rfl] at hR
    subst n3
    refine V.cast (F' := if (3 : Int32) = 3 then some () else none) (res' := ()) (fun _ => rfl) ?_
    refine v_tcase (tgt := 41) hB 3 dX0_textOf_1 (by decide) (by decide) rfl rfl ?_ (fun z => absurd rfl z)
    exact fun e ls H locs hl hP hS => va_ldcS hB.1 hB.2.1 hB.2.2.2.1 (vk_R.warm (State.WarmedH.refl _) (envC_t3 hK.2.2.2.1)) dX0_textOf_41 (v_aret (F := some ()) (res := ()) hB hK hR dX0_textOf_43 rfl ls H locs hl hP hS)
  have hf : f_X0_textOf p0 = 4 := by unfold f_X0_textOf; rw [if_neg n0, if_neg n1, if_neg n2, if_neg n3]
  rw [hf] at hR
  refine v_tdef (tgt := 44) hB dX0_textOf_1 (by have z0 := lv_neT n0 (a := 0) (by decide); have z1 := lv_neT n1 (a := 1) (by decide); have z2 := lv_neT n2 (a := 2) (by decide); have z3 := lv_neT n3 (a := 3) (by decide); omega) rfl ?_
  exact fun e ls H locs hl hP hS => va_ldcS hB.1 hB.2.1 hB.2.2.2.1 (vk_R.warm (State.WarmedH.refl _) (envC_t4 hK.2.2.2.1)) dX0_textOf_44 (v_aret (F := some ()) (res := ()) hB hK hR dX0_textOf_46 rfl ls H locs hl hP hS)
