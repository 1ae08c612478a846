/-! THE CLAIM OUT OF ONE WALK OF THE LAW'S BODY. Your part is whole_start (and what it stands on); all else here is the same for every law, but numbers. -/
def R_law : String := "FormsAboveNoughtLaw"
def lw_P (b : Addr) (xs : List Int32) (args : Array Value) (s : State) : Prop := args = #[.ref b] ∧ s.IntsAt b xs ∧ xs.length ≤ 2560 ∧ (Jvm.Cond.and given_1 narrow_1).before args s = true
def lw_Q (_ : Array Value) (s : State) (o : Outcome) (t : State) : Prop := o = .returned (some (.int 1)) ∧ Framed s o t [] 600000 7302250
def lw_Z (below : List Frame) (a : Array Value) (s : State) : State → Prop := fun t => ∃ o, t.status = .running ∧ Ended t below o ∧ lw_Q a s o t
/-- the law's own end, with 1 on the stack, nothing written that was there before, its room as the claim has it -/
theorem lw_ret {p : Program} {l : Launch} {e : Env} {s : State} {m : MethodId} {below : List Frame} {meth : Method} {c : Code} {b : Nat} (hx : p.tables.exec = Jvm.exec) (hb : c.code = code) (hr : meth.sig.returnType = ret) (hlocks : meth.locks = false) {pc : Nat} {H : Heap} {ls : Array Slot} (hdg : decode code pc = .ok (.ireturn, 1)) : W p l e room_1 s m #[Value.ref b] below meth c H [] 600000 7302250 (lw_Z below #[Value.ref b] s) (F0 m pc ls [.int 1]) := by
  intro T hT X
  obtain ⟨fs, hret, hrun, hended, hW, hframe⟩ := X.leave (v := some (.int 1)) (hlocks := hlocks) (fun h => by rw [hr] at h; cases h)
  have hmeth' : T.vm.method? m = some meth := X.method'
  refine ⟨T.setFrames fs, ?_, .returned (some (.int 1)), hrun, hended, rfl, ⟨_, rfl⟩, hW, hframe⟩
  jvm_step X.here [X.here.top, hx, hb, hdg, hmeth', hr, ret, narrow_b1]
  (try refine ⟨rfl, ?_⟩); (try refine ⟨rfl, ?_⟩)
  first | (intro acts; rw [hret _ acts rfl rfl rfl]) | rw [hret _ _ rfl rfl rfl]
  exact Steps.refl _
/-- what holds at the law's entry: the machine, the code, the tables' words (any of lw_tbl by 'hts w (by decide +kernel)'), the script of L ints xs at the cell b, what the Statement gives of the start (any of its parts by flat_of_before) -/
def lw_At (p : Program) (s : State) (m : MethodId) (meth : Method) (c : Code) (b L : Nat) (xs : Nat → Int32) : Prop :=
  p.tables.exec = Jvm.exec ∧ c.code = code ∧ meth.sig.returnType = ret ∧ c.maxLocals = 4 ∧ s.vm.findClass R_law = some m.cls ∧ (∀ w ∈ lw_tbl, w.before #[Value.ref b] s = true) ∧ va_X b L xs s s.heap ∧ b < s.heap.size ∧ meth.locks = false ∧ (Jvm.Cond.and given_1 narrow_1).before #[Value.ref b] s = true
theorem envC_narrow {g : pq_g} {A B : Nat → Prop} {U : State} {H : Heap} (h : envC g A U H) (hAB : ∀ q, B q → A q) : envC g B U H := by
  obtain ⟨h1, h2, h3, h4, h5, h6, h7, h8⟩ := h
  exact ⟨h1.narrow hAB, h2.narrow hAB, h3.narrow hAB, h4.narrow hAB, h5, h6, h7.narrow hAB, h8⟩
theorem envC_kept {g : pq_g} {A : Nat → Prop} {s U : State} {H H' : Heap} (hW : s.WarmedH U.vm) (hq : ∀ q : Nat, q < H.size → ¬ A q → H'[q]? = H[q]?) (h : envC g A s H) : envC g A U H' := by
  obtain ⟨h1, h2, h3, h4, h5, ⟨kA, kv, a1, a2, a3⟩, h7, h8, h9, h10, h11, h12⟩ := h
  have hvm := hW.alike
  obtain ⟨kA', b1, b2⟩ := hvm.2.2 _ _ a1
  obtain ⟨kv', c1, c2⟩ := hvm.2.2 _ _ a3
  exact ⟨(h1.moved hvm).kept hq, (h2.moved hvm).kept hq, (h3.moved hvm).kept hq, (h4.moved hvm).kept hq, fun q hq => va_Nw.warmM hW (h5 q hq), ⟨kA', kv', b1, by rw [b2]; exact a2, c1⟩, (h7.moved hvm).kept hq, h8.warm hW, h9.warm hW, h10.warm hW, h11.warm hW, h12.warm hW⟩
theorem sd_D {S : pq_S} {h h' : pq_H} {A : Nat → Prop} (hD : va_D A (pq_W S h)) : va_D A (pq_W S h') := by
  have key : ∀ (i : Nat) (x : Nat × va_E), (pq_W S h')[i]? = some x → ∃ y : Nat × va_E, (pq_W S h)[i]? = some y ∧ y.1 = x.1 := by
    intro i x hx
    have hi : i < S.1.1 := by
      have := (List.getElem?_eq_some_iff.mp hx).1
      simpa [pq_W] using this
    rw [pq_get hi rfl] at hx
    cases hx
    exact ⟨_, pq_get hi rfl, rfl⟩
  refine ⟨fun i j p q hp hq e => ?_, fun k q hk => ?_⟩
  · obtain ⟨p', h1, e1⟩ := key i p hp
    obtain ⟨q', h2, e2⟩ := key j q hq
    exact hD.1 i j p' q' h1 h2 (by rw [e1, e2]; exact e)
  · obtain ⟨y, h1, e1⟩ := key k q hk
    rw [← e1]
    exact hD.2 k y h1
theorem sd_own {S : pq_S} {h : pq_H} {A : Nat → Prop} (hD : va_D A (pq_W S h)) : va_D (fun x => ∃ p, p < S.1.1 ∧ S.1.2.1 p = x) (pq_W S h) := ⟨hD.1, fun k q hk => by
  have hi : k < S.1.1 := by
    have := (List.getElem?_eq_some_iff.mp hk).1
    simpa [pq_W] using this
  rw [pq_get hi rfl] at hk
  cases hk
  exact ⟨k, hi, rfl⟩⟩
theorem sd_in {S : pq_S} {h : pq_H} {A : Nat → Prop} (hD : va_D A (pq_W S h)) {x : Nat} (hx : ∃ p, p < S.1.1 ∧ S.1.2.1 p = x) : A x := by
  obtain ⟨p, hp, rfl⟩ := hx
  exact hD.2 p _ (pq_get hp rfl)
theorem va_P_left {D : va_G} {cl : List vw_C} {w1 w2 : va_W} {H : Heap} (h : va_P D cl (w1 ++ w2) H) : va_P D cl w1 H := fun k q hk => h k q (by
  have := (List.getElem?_eq_some_iff.mp hk).1
  rw [List.getElem?_append_left this]; exact hk)
theorem va_P_right {D : va_G} {cl : List vw_C} {w1 w2 : va_W} {H : Heap} (h : va_P D cl (w1 ++ w2) H) : va_P D cl w2 H := fun k q hk => h (w1.length + k) q (by
  rw [List.getElem?_append_right (by omega), show w1.length + k - w1.length = k by omega]; exact hk)
theorem va_D_left {A : Nat → Prop} {w1 w2 : va_W} (h : va_D A (w1 ++ w2)) : va_D A w1 := by
  have k : ∀ (i : Nat) (q : Nat × va_E), w1[i]? = some q → (w1 ++ w2)[i]? = some q := fun i q hk => by
    have := (List.getElem?_eq_some_iff.mp hk).1
    rw [List.getElem?_append_left this]; exact hk
  exact ⟨fun i j p q hp hq e => h.1 i j p q (k i p hp) (k j q hq) e, fun i q hq => h.2 i q (k i q hq)⟩
theorem va_D_right {A : Nat → Prop} {w1 w2 : va_W} (h : va_D A (w1 ++ w2)) : va_D A w2 := by
  have k : ∀ (i : Nat) (q : Nat × va_E), w2[i]? = some q → (w1 ++ w2)[w1.length + i]? = some q := fun i q hk => by
    rw [List.getElem?_append_right (by omega), show w1.length + i - w1.length = i by omega]; exact hk
  exact ⟨fun i j p q hp hq e => by have := h.1 _ _ p q (k i p hp) (k j q hq) e; omega, fun i q hq => h.2 _ q (k i q hq)⟩
theorem va_D_apart {A : Nat → Prop} {w1 w2 : va_W} (h : va_D A (w1 ++ w2)) {i j : Nat} {p q : Nat × va_E} (hi : w1[i]? = some p) (hj : w2[j]? = some q) : p.1 ≠ q.1 := fun e => by
  have hl := (List.getElem?_eq_some_iff.mp hi).1
  have h1 : (w1 ++ w2)[i]? = some p := by rw [List.getElem?_append_left hl]; exact hi
  have h2 : (w1 ++ w2)[w1.length + j]? = some q := by rw [List.getElem?_append_right (by omega), show w1.length + j - w1.length = j by omega]; exact hj
  have := h.1 _ _ p q h1 h2 e
  omega
section GS
variable {X : pq_X} {Y : pq_Y} {nL pc k n : Nat} {L : List (Nat × Value)} {ws : va_W} {st : List Value} {b : ByteArray} {own : String}
theorem g_new {idx ci N : Nat} {C : String} {T : u_T} (fs : List Value) (ty : Nat → FieldType) (hB : pq_B X b nL own) (hK : pq_KI X Y) (hR : X.1.2.2.2.1 = room_1) (hc : Y.2.1[ci]? = some (C, T, N)) (hin : ∀ w ∈ u_ws C T N, w ∈ pq_G) (hty : ∀ k, k < N → parseFieldDescriptor (T k).2.2.1 = some (ty k)) (h1 : Cond.classLink own idx C ∈ pq_G) (h2 : Cond.instantiable C N ∈ pq_G) (h3 : Cond.initialized C ∈ pq_G) (hfs : ∀ j, j < N → defaultValue (ty j) = vp_V fs j) (hcell : k + 1 ≤ 600000) (hslot : n + N ≤ 7302250) (d : decode b pc = .ok (.new idx, 3)) (kk : ∀ q, pq_U X Y nL (pc + 3) L (ws ++ [(q, .inr (ci, fs))]) (k + 1) (n + N) (.ref q :: st)) : pq_U X Y nL pc L ws k n st := fun ls H locs hl hP hD hS => va_new hB.1 hB.2.1 hB.2.2.2.2 hin ty hty hB.2.2.2.1 (hB.2.2.2.2 _ h1) (hB.2.2.2.2 _ h2) (hB.2.2.2.2 _ h3) hK.1 hP hD hS hK.2.2.1 hc hfs (by rw [hR]; exact hcell) (by rw [hR]; exact hslot) d (fun q H1 hP1 hD1 hS1 => kk q ls H1 locs hl hP1 hD1 hS1)
theorem g_call {y : MethodName} {bb : ByteArray} {nn idx rf rl mc ms : Nat} {Wc : (Nat → Nat) → va_W} {q : Nat} {e : va_E} {pre : va_W} (hB : pq_B X b nL own) (hK : pq_KI X Y) (hR : X.1.2.2.2.1 = room_1) (lk : pq_LB y bb nn none 0) (hn : y.name = "<init>") (lv : Cond.methodLink own idx y ∈ pq_G ∧ Cond.instanceMethod y ∈ pq_G) (hM : pq_N Y X.1.2.1 y bb nn rf rl mc ms q e Wc) (d : decode b pc = .ok (.invokespecial idx, 3)) (hW : (st.map fun v => v.category).sum ≤ 8) (hr : rf + 1 ≤ 12) (hr2 : 8 + (nn + 11) + rl ≤ 432) (hc : k + mc ≤ 600000) (hs : n + ms ≤ 7302250) (kk : ∀ a, pq_U X Y nL (pc + 3) L (pre ++ Wc a) (k + mc) (n + ms) st) : pq_U X Y nL pc L (pre ++ [(q, e)]) k n (.ref q :: st) := by
  refine u_callG (y := y) (bb := bb) (nn := nn) (idx := idx) (rf := rf) (rl := rl) (RF := 12) (RL := 432) (MC := 600000) (MS := 7302250) (W0 := fun _ => []) hK (fun ls H locs hl hP hD hS => ?_) kk
  have hB2 : pq_Rm X 12 432 := ⟨by rw [hR]; exact Nat.le_refl _, by rw [hR]; exact Nat.le_refl _⟩
  obtain ⟨l1, l2, l3, l4, l5⟩ := lk
  exact va_runI (As := []) (rest := st) ⟨hB.1, hB.2.1, hB.2.2.1, hB.2.2.2.1, hB.2.2.2.2⟩ (hM H.size) ⟨callB_of (Ts := pq_G) (ws' := pq_G) 0 hB.2.2.2.2 (pq_goodIn l2 (fun w hw => hw)) rfl rfl rfl (hB.2.2.2.2 _ l1) (hB.2.2.2.2 _ lv.1) ⟨l3, l4, l5⟩ ⟨Nat.le_trans hr hB2.1, Nat.le_trans hr2 hB2.2⟩, hn, hB.2.2.2.2 _ lv.2⟩ ⟨u_blind, fun U hU hW2 => u_pre (locs := locs) hK hP U hU hW2⟩ rfl rfl hl.1 rfl (lv_room hW) d ⟨by rw [hR]; exact hc, by rw [hR]; exact hs⟩
end GS
set_option maxRecDepth 8000 in
theorem lv_L_9 : Cond.methodLink RL 9 yX10_init ∈ pq_G := by first | exact pq_t1 21 rfl rfl | exact pq_in 0 rfl rfl
set_option maxRecDepth 8000 in
theorem lv_L_12 : Cond.methodLink RL 12 yX11_init ∈ pq_G := by first | exact pq_t4 196 rfl rfl | exact pq_in 0 rfl rfl
set_option maxRecDepth 100000 in
set_option maxHeartbeats 4000000 in
theorem law_start {Inv : pq_H → pq_H → Prop} (hAg : Ag Inv) (h0 : Inv hC0 hM0) {p : Program} {e : Env} {s : State} {m : MethodId} {below : List Frame} {meth : Method} {c : Code} (l : Launch) {b Ln : Nat} {xs : Nat → Int32} (hL : Ln ≤ 2560) (C0 : lw_At p s m meth c b Ln xs) : W p l e room_1 s m #[Value.ref b] below meth c s.heap [] 0 0 (lw_Z below #[Value.ref b] s) (entryFrame m ([Value.ref b] : List Value).toArray 4) := by
  obtain ⟨hx, hb, hr, hml, hown, hts, hX, hbl, hlocks, hgv⟩ := id C0
  obtain ⟨D, ty, kk0, hall⟩ := e_all hts hgv
  obtain ⟨X, eX⟩ : ∃ X : pq_X, X = ((p, l, e, room_1, s), (m, #[Value.ref b], below, meth, c), (lw_Z below #[Value.ref b] s, fun q => s.heap.size ≤ q, s.heap)) := ⟨_, rfl⟩
  have hB : pq_B X cL_law 4 RL := by subst eX; exact ⟨hx, hb, hml, hown, fun w hw => e_mem hts hw⟩
  have hK : pq_KI X (D, vwCl, pq_tys (fun _ => 0, D, ty, kk0)) := by subst eX; exact ⟨(hall (fun _ => 0)).1, rfl, fun q hq => hq, e_envI hts⟩
  have hR : X.1.2.2.2.1 = room_1 := by subst eX; rfl
  have hl := lv_entry ([.ref b]) (n := 4) (Nat.le_of_ble_eq_true rfl)
  rw [lg_entry_eq]
  generalize (lg_sl ([.ref b]) ++ List.replicate (4 - (lg_sl ([.ref b])).length) Slot.unset).toArray = ls at hl ⊢
  have hl : lv_has ls 4 [(0, .ref b)] := hl
  have key : pq_U X (D, vwCl, pq_tys (fun _ => 0, D, ty, kk0)) 4 0 [(0, .ref b)] [] 0 0 [] := by
    refine g_new (ci := 10) (C := RX10) (T := TX10) (N := 9) [.null, .null, .null, .null, .null, .null, .null, .null, .null] tyX10 hB hK hR rfl uw_X10 tyX10_ok k_cl_L_7 k_in_X10 k_ini_X10 (by decide) (by decide) (by decide) dL_law_0 (fun q1 => ?_)
    refine u_dup hB dL_law_3 rfl ?_
    refine g_call (pre := []) hB hK hR lb_X10_init rfl ⟨lv_L_9, li_X10_init⟩ (n_X10 (fun _ => 0, D, ty, kk0) X.1.2.1 q1) dL_law_4 (Nat.le_of_ble_eq_true rfl) (by decide) (by decide) (by decide) (by decide) (fun a1 => ?_)
    intro ls H locs hl hP hD hS
    refine lv_astore_n (lv' := [(1, .ref q1), (0, .ref b)]) hB.1 hB.2.1 dL_law_7 rfl hl (by decide) rfl (fun ls hl => ?_)
    have nx : pq_U X (D, vwCl, pq_tys (fun _ => 0, D, ty, kk0)) 4 8 [(1, .ref q1), (0, .ref b)] (W_X10 (fun _ => 0, D, ty, kk0) q1 a1) 83 1082 [] := by
      refine g_new (ci := 11) (C := RX11) (T := TX11) (N := 44) [.null, .null, .null, .null, .null, .int 0, .null, .null, .int 0, .null, .null, .int 0, .int 0, .null, .null, .null, .null, .null, .int 0, .null, .null, .int 0, .int 0, .int 0, .int 0, .int 0, .int 0, .int 0, .long 0, .null, .null, .int 0, .int 0, .int 0, .int 0, .null, .int 0, .int 0, .null, .null, .null, .int 0, .int 0, .int 0] tyX11 hB hK hR rfl uw_X11 tyX11_ok k_cl_L_10 k_in_X11 k_ini_X11 (by decide) (by decide) (by decide) dL_law_8 (fun q2 => ?_)
      refine u_dup hB dL_law_11 rfl ?_
      refine g_call hB hK hR lb_X11_init rfl ⟨lv_L_12, li_X11_init⟩ (n_X11 (fun _ => 0, D, ty, kk0) X.1.2.1 q2) dL_law_12 (Nat.le_of_ble_eq_true rfl) (by decide) (by decide) (by decide) (by decide) (fun a2 => ?_)
      intro ls H locs hl hP hD hS
      refine lv_astore_n (lv' := [(2, .ref q2), (1, .ref q1), (0, .ref b)]) hB.1 hB.2.1 dL_law_15 rfl hl (by decide) rfl (fun ls hl => ?_)
      refine lv_iconst (v := 0) hB.1 hB.2.1 dL_law_16 (by decide) ?_
      refine lv_istore_n (lv' := [(3, .int 0), (2, .ref q2), (1, .ref q1), (0, .ref b)]) hB.1 hB.2.1 dL_law_17 rfl hl (by decide) rfl (fun ls hl => ?_)
      obtain ⟨P1, D1⟩ := w_C (va_P_left hP) (va_D_left hD)
      obtain ⟨P2, D2⟩ := w_M (va_P_right hP) (va_D_right hD)
      obtain ⟨gC, egC⟩ : ∃ g : pq_g, g = (adC q1 a1, D, ty, kk0) := ⟨_, rfl⟩
      obtain ⟨gM, egM⟩ : ∃ g : pq_g, g = (adM q2 a2, D, ty, kk0) := ⟨_, rfl⟩
      have P1 : va_P (SC gC).2.1.1 (SC gC).2.1.2.1 (pq_W (SC gC) hC0) H := by subst egC; exact P1
      have D1 : va_D X.2.2.2.1 (pq_W (SC gC) hC0) := by subst egC; exact D1
      have P2 : va_P (SM gM).2.1.1 (SM gM).2.1.2.1 (pq_W (SM gM) hM0) H := by subst egM; exact P2
      have D2 : va_D X.2.2.2.1 (pq_W (SM gM) hM0) := by subst egM; exact D2
      have hA : ∀ q, X.2.2.2.1 q ↔ X.2.2.2.2.size ≤ q := by subst eX; exact fun q => Iff.rfl
      have hap : ∀ i j, i < 83 → j < 23 → gC.1 i ≠ gM.1 j := fun i j hi hj => by
        have z := va_D_apart hD (wk_C (fun _ => 0, D, ty, kk0) q1 a1 i hi) (wk_M (fun _ => 0, D, ty, kk0) q2 a2 j hj)
        subst egC egM
        exact z
      have LSC : LSd X (SC gC) (fun x => ∃ p, p < 83 ∧ gC.1 p = x) := by
        refine ⟨?_, ?_, ⟨fun h => sd_D (sd_own D1), fun s U H H' hW _ hq hE => envC_kept hW hq hE⟩, fun q hq => (hA q).mp (sd_in D1 hq)⟩
        · subst egC eX; exact (hall _).1
        · have hn : ∀ q, (∃ p, p < 83 ∧ gC.1 p = q) → X.2.2.2.1 q := fun q hq => sd_in D1 hq
          subst egC eX
          exact envC_narrow (hall _).2 hn
      have LSM : LSd X (SM gM) (fun x => ∃ p, p < 23 ∧ gM.1 p = x) := by
        refine ⟨?_, trivial, ⟨fun h => sd_D (sd_own D2), fun s U H H' hW _ hq hE => trivial⟩, fun q hq => (hA q).mp (sd_in D2 hq)⟩
        subst egM eX
        exact (hall _).1
      have hLC : LC X gC gM (fun x => ∃ p, p < 83 ∧ gC.1 p = x) (fun x => ∃ p, p < 23 ∧ gM.1 p = x) := ⟨LSC, LSM, fun p hp z => by
        obtain ⟨i, hi, e⟩ := z
        exact hap i p hi hp e, fun p hp z => by
        obtain ⟨j, hj, e⟩ := z
        exact hap p j hp hj e.symm⟩
      have hxL : LX X b Ln xs := ⟨hB, hK.2.1, hA, hR, by subst eX; exact hX, by subst eX; exact hbl⟩
      have hE : ∀ (L : List (Nat × Value)) (hC hM : pq_H), LW X (SC gC) (SM gM) 106 2826 1463 L [] hC hM := by
        intro L hC hM ls H locs hl p1 p2 hS
        refine lv_iconst (v := 1) hB.1 hB.2.1 dL_law_1463 (by decide) ?_
        refine W.widen (k := 600000) (n := 7302250) (by decide) (by decide) ?_
        have hS2 : ∀ q ∈ locs, X.1.2.2.2.2.heap.size ≤ q.base := fun q hq => by
          have := (hA _).mp (hS.2.2 q hq)
          rw [hK.2.1] at this
          exact this
        subst eX
        refine va_forget hS2 ?_
        exact lw_ret hx hb hr hlocks dL_law_1464
      have goal := l_loop hxL hLC hL (k := 106) (n := 2826) ⟨by decide, by decide⟩ hAg hE (Ln + 1) 0 hC0 hM0 (by omega) (by omega) h0
      have hl2 : lv_has ls 4 (lL b (gM.1 0) (gC.1 55) 0) := by
        have e1 : gM.1 0 = q2 := by subst egM; rfl
        have e2 : gC.1 55 = q1 := by subst egC; rfl
        rw [e1, e2]
        exact hl
      exact goal ls H locs hl2 P1 P2 hS
    exact nx ls H locs hl hP hD hS
  subst eX
  exact key ls s.heap [] hl (fun k q h => by simp at h) ⟨fun i j p q h => by simp at h, fun k q h => by simp at h⟩ va_S.rf
