theorem envC_kept {g : pq_g} {A : Nat → Prop} {s U : State} {H H' : Heap} (hW : s.WarmedH U.vm) (hq : ∀ q : Nat, q < H.size → ¬ A q → H'[q]? = H[q]?) (h : envC g A s H) : envC g A U H' := by
  obtain ⟨h5, ⟨kA, kv, a1, a2, a3⟩, h7⟩ := h
  have hvm := hW.alike
  obtain ⟨kA', b1, b2⟩ := hvm.2.2 _ _ a1
  obtain ⟨kv', c1, c2⟩ := hvm.2.2 _ _ a3
  exact ⟨fun q hq => va_Nw.warmM hW (h5 q hq), ⟨kA', kv', b1, by rw [b2]; exact a2, c1⟩, (h7.moved hvm).kept hq⟩
theorem sd_D {S : pq_S} {h h' : pq_H} {A : Nat → Prop} (hD : va_D A (pq_W S h)) : va_D A (pq_W S h') := by
  have key : ∀ (i : Nat) (x : Nat × va_E), (pq_W S h')[i]? = some x → ∃ y : Nat × va_E, (pq_W S h)[i]? = some y ∧ y.1 = x.1 := by
    intro i x hx
    have hi : i < S.1.1 := by
      have := (List.getElem?_eq_some_iff.mp hx).1
      simpa [pq_W] using this
    rw [pq_get hi rfl] at hx
    cases hx
    exact ⟨_, pq_get hi rfl, rfl⟩
  refine ⟨fun i j p q hp hq e => ?_, fun k q hk => ?_⟩
  · obtain ⟨p', h1, e1⟩ := key i p hp
    obtain ⟨q', h2, e2⟩ := key j q hq
    exact hD.1 i j p' q' h1 h2 (by rw [e1, e2]; exact e)
  · obtain ⟨y, h1, e1⟩ := key k q hk
    rw [← e1]
    exact hD.2 k y h1
section GS
variable {X : pq_X} {Y : pq_Y} {nL pc k n : Nat} {L : List (Nat × Value)} {ws : va_W} {st : List Value} {b : ByteArray} {own : String}
theorem g_new {idx ci N : Nat} {C : String} {T : u_T} (fs : List Value) (ty : Nat → FieldType) (hB : pq_B X b nL own) (hK : pq_KI X Y) (hR : X.1.2.2.2.1 = room_1) (hc : Y.2.1[ci]? = some (C, T, N)) (hin : ∀ w ∈ u_ws C T N, w ∈ pq_G) (hty : ∀ k, k < N → parseFieldDescriptor (T k).2.2.1 = some (ty k)) (h1 : Cond.classLink own idx C ∈ pq_G) (h2 : Cond.instantiable C N ∈ pq_G) (h3 : Cond.initialized C ∈ pq_G) (hfs : ∀ j, j < N → defaultValue (ty j) = vp_V fs j) (hcell : k + 1 ≤ 600000) (hslot : n + N ≤ 7302250) (d : decode b pc = .ok (.new idx, 3)) (kk : ∀ q, pq_U X Y nL (pc + 3) L (ws ++ [(q, .inr (ci, fs))]) (k + 1) (n + N) (.ref q :: st)) : pq_U X Y nL pc L ws k n st := fun ls H locs hl hP hD hS => va_new hB.1 hB.2.1 hB.2.2.2.2 hin ty hty hB.2.2.2.1 (hB.2.2.2.2 _ h1) (hB.2.2.2.2 _ h2) (hB.2.2.2.2 _ h3) hK.1 hP hD hS hK.2.2.1 hc hfs (by rw [hR]; exact hcell) (by rw [hR]; exact hslot) d (fun q H1 hP1 hD1 hS1 => kk q ls H1 locs hl hP1 hD1 hS1)
theorem g_call {y : MethodName} {bb : ByteArray} {nn idx rf rl mc ms : Nat} {Wc : (Nat → Nat) → va_W} {q : Nat} {e : va_E} {pre : va_W} (hB : pq_B X b nL own) (hK : pq_KI X Y) (hR : X.1.2.2.2.1 = room_1) (lk : pq_LB y bb nn none 0) (hn : y.name = "<init>") (lv : Cond.methodLink own idx y ∈ pq_G ∧ Cond.instanceMethod y ∈ pq_G) (hM : pq_N Y X.1.2.1 y bb nn rf rl mc ms q e Wc) (d : decode b pc = .ok (.invokespecial idx, 3)) (hW : (st.map fun v => v.category).sum ≤ 8) (hr : rf + 1 ≤ 10) (hr2 : 8 + (nn + 11) + rl ≤ 368) (hc : k + mc ≤ 600000) (hs : n + ms ≤ 7302250) (kk : ∀ a, pq_U X Y nL (pc + 3) L (pre ++ Wc a) (k + mc) (n + ms) st) : pq_U X Y nL pc L (pre ++ [(q, e)]) k n (.ref q :: st) := by
  refine u_callG (y := y) (bb := bb) (nn := nn) (idx := idx) (rf := rf) (rl := rl) (RF := 10) (RL := 368) (MC := 600000) (MS := 7302250) (W0 := fun _ => []) hK (fun ls H locs hl hP hD hS => ?_) kk
  have hB2 : pq_Rm0 X 10 368 := ⟨by rw [hR]; exact Nat.le_refl _, by rw [hR]; exact Nat.le_refl _⟩
  obtain ⟨l1, l2, l3, l4, l5⟩ := lk
  exact va_runI (As := []) (rest := st) ⟨hB.1, hB.2.1, hB.2.2.1, hB.2.2.2.1, hB.2.2.2.2⟩ (hM H.size) ⟨callB_of (Ts := pq_G) (ws' := pq_G) 0 hB.2.2.2.2 (pq_goodIn l2 (fun w hw => hw)) rfl rfl rfl (hB.2.2.2.2 _ l1) (hB.2.2.2.2 _ lv.1) ⟨l3, l4, l5⟩ ⟨Nat.le_trans hr hB2.1, Nat.le_trans hr2 hB2.2⟩, hn, hB.2.2.2.2 _ lv.2⟩ ⟨u_blind, fun U hU hW2 => u_pre (locs := locs) hK hP U hU hW2⟩ rfl rfl hl.1 rfl (lv_room hW) d ⟨by rw [hR]; exact hc, by rw [hR]; exact hs⟩
end GS
set_option maxRecDepth 8000 in
theorem lv_L_86 : Cond.methodLink RL 86 yX10_init ∈ pq_G := pq_t1 16 rfl rfl
set_option maxRecDepth 100000 in
set_option maxHeartbeats 4000000 in
theorem law_start (hF : ∀ sc : Nat × (Nat → Int32), sc.1 ≤ 260 → ∃ hh, f_L_law sc hC0 = some (true, hh)) {p : Program} {e : Env} {s : State} {m : MethodId} {below : List Frame} {meth : Method} {c : Code} (l : Launch) {b Ln : Nat} {xs : Nat → Int32} (hL : Ln ≤ 260) (C0 : lw_At p s m meth c b Ln xs) : W p l e room_1 s m #[Value.ref b] below meth c s.heap [] 0 0 (lw_Z below #[Value.ref b] s) (entryFrame m ([Value.ref b] : List Value).toArray 13) := by
  obtain ⟨hx, hb, hr, hml, hown, hts, hX, hbl, hlocks, hgv⟩ := id C0
  obtain ⟨D, ty, hall⟩ := e_all hts hX hbl
  obtain ⟨X, eX⟩ : ∃ X : pq_X, X = ((p, l, e, room_1, s), (m, #[Value.ref b], below, meth, c, 0, 0), (lw_Z below #[Value.ref b] s, fun q => s.heap.size ≤ q, s.heap)) := ⟨_, rfl⟩
  have hB : pq_B X cL_law 13 RL := by subst eX; exact ⟨hx, hb, hml, hown, fun w hw => e_mem hts hw⟩
  have hK : pq_KI X (D, vwCl, pq_tys (fun _ => 0, D, ty, b, Ln, xs)) := by subst eX; exact ⟨(hall (fun _ => 0)).1, rfl, fun q hq => hq, e_envI hts⟩
  have hR : X.1.2.2.2.1 = room_1 := by subst eX; rfl
  have hl := lv_entry ([.ref b]) (n := 13) (Nat.le_of_ble_eq_true rfl)
  rw [lg_entry_eq]
  generalize (lg_sl ([.ref b]) ++ List.replicate (13 - (lg_sl ([.ref b])).length) Slot.unset).toArray = ls at hl ⊢
  have hl : lv_has ls 13 [(0, .ref b)] := hl
  have key : pq_U X (D, vwCl, pq_tys (fun _ => 0, D, ty, b, Ln, xs)) 13 0 [(0, .ref b)] [] 0 0 [] := by
    refine g_new (ci := 10) (C := RX10) (T := TX10) (N := 9) [.null, .null, .null, .null, .null, .null, .null, .null, .null] tyX10 hB hK hR rfl uw_X10 tyX10_ok k_cl_L_9 k_in_X10 k_ini_X10 (by decide) (by decide) (by decide) dL_law_0 (fun q1 => ?_)
    refine u_dup hB dL_law_3 rfl ?_
    refine g_call (pre := []) hB hK hR lb_X10_init rfl ⟨lv_L_86, li_X10_init⟩ (n_X10 (fun _ => 0, D, ty, b, Ln, xs) X.1.2.1 q1) dL_law_4 (Nat.le_of_ble_eq_true rfl) (by decide) (by decide) (by decide) (by decide) (fun a1 => ?_)
    intro ls H locs hl hP hD hS
    refine lv_astore_n (lv' := [(1, .ref q1), (0, .ref b)]) hB.1 hB.2.1 dL_law_7 rfl hl (by decide) rfl (fun ls hl => ?_)
    obtain ⟨P1, D1⟩ := w_C hP hD
    obtain ⟨gC, egC⟩ : ∃ g : pq_g, g = (adC q1 a1, D, ty, b, Ln, xs) := ⟨_, rfl⟩
    have P1 : va_P (SC gC).2.1.1 (SC gC).2.1.2.1 (pq_W (SC gC) hC0) H := by subst egC; exact P1
    have D1 : va_D X.2.2.2.1 (pq_W (SC gC) hC0) := by subst egC; exact D1
    obtain ⟨X1, eX1⟩ : ∃ X1 : pq_X, X1 = ((p, l, e, room_1, s), (m, #[Value.ref b], below, meth, c, 83, 1082), (lw_Z below #[Value.ref b] s, fun q => s.heap.size ≤ q, s.heap)) := ⟨_, rfl⟩
    have hB1 : pq_B X1 cL_law 13 RL := by subst eX1; exact ⟨hx, hb, hml, hown, fun w hw => e_mem hts hw⟩
    have hK1 : pq_K X1 (SC gC) := by
      subst eX eX1 egC
      exact ⟨(hall _).1, fun h => sd_D D1, rfl, (hall _).2, fun s U H H' hW _ hq hE => envC_kept hW hq hE⟩
    have hR1 : pq_RL X1 8 184 := by
      subst eX1
      exact ⟨⟨rfl, by decide, by decide, (show (83 : Nat) ≤ 600000 by decide), (show (1082 : Nat) ≤ 7302250 by decide)⟩, hr, hlocks, ⟨b, rfl⟩, rfl, fun q hq => hq⟩
    obtain ⟨hh, eF⟩ := hF gC.2.2.2.2 (by subst egC; exact hL)
    have goal := c_L_law hB1 hK1 hR1 hC0 eF
    have hl2 : lv_has ls 13 [(0, .ref gC.2.2.2.1), (1, .ref ((SC gC).1.2.1 55))] := by
      have e1 : (SC gC).1.2.1 55 = q1 := by subst egC; rfl
      have e2 : gC.2.2.2.1 = b := by subst egC; rfl
      rw [e1, e2]
      exact lv_sub hl [1, 0] rfl
    have hS1 : va_S X1.2.2.2.1 X1.2.2.2.2 H locs := by subst eX eX1; exact hS
    have fin := goal eF ls H locs hl2 P1 hS1
    subst eX eX1
    exact fin
  subst eX
  exact key ls s.heap [] hl (fun k q h => by simp at h) ⟨fun i j p q h => by simp at h, fun k q h => by simp at h⟩ va_S.rf
