section ENVW
variable {s : State} {b : Nat}
def tmS (i : Nat) : Term := Term.string RX0 (73 + 2 * i)
theorem e_mem {w : Cond} {args : Array Value} {s : State} (hts : ∀ w ∈ lw_tbl, w.before args s = true) (h : w ∈ pq_G) : w.before args s = true := hts w (List.mem_filter.mp h).1
set_option maxRecDepth 20000 in
theorem e_nestL : ∀ q ∈ nestL, Cond.methodLinkNest q.1 q.2.1 q.2.2.1 q.2.2.2 ∈ lw_tbl := by decide +kernel
set_option maxRecDepth 20000 in
theorem e_nestI : ∀ q ∈ nestI, Cond.methodLinkNest q.1 q.2.1 q.2.2.1 q.2.2.2 ∈ lw_tbl := by decide +kernel
theorem e_onT (a : String) (k : Nat) (y : MethodName) (c : String) : (Cond.methodLinkNest a k y c).onTables = true := rfl
theorem e_cls (hts : ∀ w ∈ lw_tbl, w.before #[Value.ref b] s = true) : ∃ D : va_G, ∀ (c : Nat) (q : vw_C), vwCl[c]? = some q → u_Kn s q.1 q.2.1 q.2.2 (D.1 c) (D.2 c) := by
  have h : ∀ c : Nat, ∃ q : ClassId × (Nat → Nat), ∀ r : vw_C, vwCl[c]? = some r → u_Kn s r.1 r.2.1 r.2.2 q.1 q.2 := by
    have hG : ∀ w ∈ pq_G, w.before #[Value.ref b] s = true := fun w h => e_mem hts h
    have mk : ∀ (C : String) (T : u_T) (N n : Nat), (∀ w ∈ u_ws C T N, w ∈ pq_G) → Cond.instantiable C n ∈ pq_G → ∃ q : ClassId × (Nat → Nat), u_Kn s C T N q.1 q.2 := fun C T N n h1 h2 => by
      obtain ⟨c, i, k⟩ := u_known hG h1 (hG _ h2)
      exact ⟨(c, i), k⟩
    intro c
    match c with
    | 0 => obtain ⟨q, k⟩ := mk _ _ _ _ uw_X0 k_in_X0; exact ⟨q, fun r hr => by cases hr; exact k⟩
    | 1 => obtain ⟨q, k⟩ := mk _ _ _ _ uw_X1 k_in_X1; exact ⟨q, fun r hr => by cases hr; exact k⟩
    | 2 => obtain ⟨q, k⟩ := mk _ _ _ _ uw_X2 k_in_X2; exact ⟨q, fun r hr => by cases hr; exact k⟩
    | 3 => obtain ⟨q, k⟩ := mk _ _ _ _ uw_X3 k_in_X3; exact ⟨q, fun r hr => by cases hr; exact k⟩
    | 4 => obtain ⟨q, k⟩ := mk _ _ _ _ uw_X4 k_in_X4; exact ⟨q, fun r hr => by cases hr; exact k⟩
    | 5 => obtain ⟨q, k⟩ := mk _ _ _ _ uw_X5 k_in_X5; exact ⟨q, fun r hr => by cases hr; exact k⟩
    | 6 => obtain ⟨q, k⟩ := mk _ _ _ _ uw_X6 k_in_X6; exact ⟨q, fun r hr => by cases hr; exact k⟩
    | 7 => obtain ⟨q, k⟩ := mk _ _ _ _ uw_X7 k_in_X7; exact ⟨q, fun r hr => by cases hr; exact k⟩
    | 8 => obtain ⟨q, k⟩ := mk _ _ _ _ uw_X8 k_in_X8; exact ⟨q, fun r hr => by cases hr; exact k⟩
    | 9 => obtain ⟨q, k⟩ := mk _ _ _ _ uw_X9 k_in_X9; exact ⟨q, fun r hr => by cases hr; exact k⟩
    | 10 => obtain ⟨q, k⟩ := mk _ _ _ _ uw_X10 k_in_X10; exact ⟨q, fun r hr => by cases hr; exact k⟩
    | 11 => obtain ⟨q, k⟩ := mk _ _ _ _ uw_X11 k_in_X11; exact ⟨q, fun r hr => by cases hr; exact k⟩
    | n + 12 => exact ⟨(0, fun _ => 0), fun r hr => by cases hr⟩
  obtain ⟨f, hf⟩ := Classical.axiomOfChoice h
  exact ⟨(fun c => (f c).1, fun c => (f c).2), fun c q hq => hf c q hq⟩
theorem e_arr {ty : FieldType} {args : Array Value} {s : State} (h : (Cond.arrayClass ty).before args s = true) : ∃ (c : ClassId) (k : Class), ArrOfT s c ty ∧ s.vm.findClass ("[" ++ ty.toString) = some c ∧ s.vm.classes[c]? = some k := by
  obtain ⟨c, k, comp, h1, h2, h3⟩ := Cond.arrayClass_spec (args := args) (first := s) (o := none) (s := s) (idx := []) h
  exact ⟨c, k, fun n z => ⟨fun k h => (by cases h), k, h2, comp, h3⟩, h1, h2⟩
theorem e_arrA {ty : FieldType} {s : State} (h : va_AOA ty s) : ∃ (comp c : ClassId) (k : Class), s.vm.findClass (FieldType.array ty).toString = some comp ∧ ArrOfT s c (.array ty) ∧ s.vm.findClass ("[" ++ (FieldType.array ty).toString) = some c ∧ s.vm.classes[c]? = some k ∧ k.kind = .array comp (.array ty) := by
  obtain ⟨comp, c, k, h1, -, h3, h4, h5⟩ := h.spec
  exact ⟨comp, c, k, h1, fun n z => ⟨fun k h => (by cases h), k, h3, comp, h4⟩, h5, h3, h4⟩
theorem e_arrO {C : String} {s : State} (h : va_AO C s) : ∃ (c : ClassId), ArrOfT s c (.object C) ∧ va_RA s c (.object C) := by
  obtain ⟨comp, c, k, h1, -, h3, h4, h5⟩ := Cond.arrayOver_spec (args := #[]) (first := s) (o := none) (s := s) (idx := []) h
  exact ⟨c, fun n z => ⟨fun k h => (by cases h), k, h3, comp, h4⟩, k, comp, h3, h4, h1, h5⟩
set_option maxRecDepth 20000 in
theorem e_ao1 : Cond.arrayOver (.array .int) ∈ lw_tbl := by decide +kernel
set_option maxRecDepth 20000 in
theorem e_ao2 : Cond.arrayOver (.array .long) ∈ lw_tbl := by decide +kernel
set_option maxRecDepth 20000 in
theorem e_ao3 : Cond.arrayOver (.object "FormsAboveNought$Form") ∈ lw_tbl := by decide +kernel
theorem e_envI (hts : ∀ w ∈ lw_tbl, w.before #[Value.ref b] s = true) : envI s := ⟨fun q hq => va_Nw.of rfl (hts _ (e_nestI q hq)), va_AO.of (hts _ e_ao3), hts _ e_ao1, hts _ e_ao2⟩
set_option maxRecDepth 20000 in
theorem e_ls1 : Cond.laysStatic "FormsAboveNought" "KIND_ABOVE" "[I" ∈ lw_tbl := by decide +kernel
set_option maxRecDepth 20000 in
theorem e_ls2 : Cond.laysStatic "java/lang/String" "COMPACT_STRINGS" "Z" ∈ lw_tbl := by decide +kernel
set_option maxRecDepth 20000 in
theorem e_ls3 : Cond.laysStatic "jdk/internal/util/Preconditions" "SIOOBE_FORMATTER" "Ljava/util/function/BiFunction;" ∈ lw_tbl := by decide +kernel
set_option maxRecDepth 20000 in
theorem e_is2 : Cond.initialized "java/lang/String" ∈ lw_tbl := by decide +kernel
set_option maxRecDepth 20000 in
theorem e_is3 : Cond.initialized "jdk/internal/util/Preconditions" ∈ lw_tbl := by decide +kernel
def tKA : Term := Term.static "FormsAboveNought" "KIND_ABOVE" "[I"
set_option maxRecDepth 20000 in
theorem e_k1 : Cond.arrayOf tKA .int ∈ flatC (Jvm.Cond.and given_1 narrow_1) := by decide +kernel
set_option maxRecDepth 20000 in
theorem e_k2 : Cond.eq (.length tKA) (.int (Int32.ofNat 6)) ∈ flatC (Jvm.Cond.and given_1 narrow_1) := by decide +kernel
set_option maxRecDepth 20000 in
theorem e_k3 : ∀ j, j < 6 → Cond.eq (.elem tKA (.int (Int32.ofNat j))) (.int (kA j)) ∈ flatC (Jvm.Cond.and given_1 narrow_1) := by decide +kernel
set_option maxRecDepth 20000 in
theorem e_c1 : Cond.eq (.static "java/lang/String" "COMPACT_STRINGS" "Z") (.int 1) ∈ flatC (Jvm.Cond.and given_1 narrow_1) := by decide +kernel
set_option maxRecDepth 20000 in
theorem e_c2 : Cond.isRef (.static "jdk/internal/util/Preconditions" "SIOOBE_FORMATTER" "Ljava/util/function/BiFunction;") ∈ flatC (Jvm.Cond.and given_1 narrow_1) := by decide +kernel
set_option maxRecDepth 20000 in
theorem e_s1 : ∀ i, i < 5 → Cond.exactly (tmS i) "java/lang/String" ∈ flatC (Jvm.Cond.and given_1 narrow_1) := by decide +kernel
set_option maxRecDepth 20000 in
theorem e_s2 : ∀ i, i < 5 → Cond.eq (.field (tmS i) "java/lang/String" "coder" "B") (.int 0) ∈ flatC (Jvm.Cond.and given_1 narrow_1) := by decide +kernel
set_option maxRecDepth 20000 in
theorem e_s3 : ∀ i, i < 5 → Cond.arrayOf (.field (tmS i) "java/lang/String" "value" "[B") .byte ∈ flatC (Jvm.Cond.and given_1 narrow_1) := by decide +kernel
set_option maxRecDepth 20000 in
theorem e_s4 : ∀ i, i < 5 → Cond.eq (.length (.field (tmS i) "java/lang/String" "value" "[B")) (.int (Int32.ofNat (txL.getD i 0))) ∈ flatC (Jvm.Cond.and given_1 narrow_1) := by decide +kernel
set_option maxRecDepth 20000 in
theorem e_s5 : ∀ i, i < 5 → ∀ j, j < txL.getD i 0 → Cond.eq (.elem (.field (tmS i) "java/lang/String" "value" "[B") (.int (Int32.ofNat j))) (.int ((txB.getD i []).getD j 0)) ∈ flatC (Jvm.Cond.and given_1 narrow_1) := by decide +kernel
set_option maxRecDepth 20000 in
theorem e_s6 : ∀ i, i < 5 → ∀ j, j < 5 → i ≠ j → Cond.not (Cond.eq (tmS i) (tmS j)) ∈ flatC (Jvm.Cond.and given_1 narrow_1) ∨ Cond.not (Cond.eq (tmS j) (tmS i)) ∈ flatC (Jvm.Cond.and given_1 narrow_1) := by decide +kernel
set_option maxRecDepth 20000 in
theorem e_sr0 : Cond.stringRef RX0 73 "sum" ∈ lw_tbl := by decide +kernel
set_option maxRecDepth 20000 in
theorem e_sr1 : Cond.stringRef RX0 75 "times" ∈ lw_tbl := by decide +kernel
set_option maxRecDepth 20000 in
theorem e_sr2 : Cond.stringRef RX0 77 "lift" ∈ lw_tbl := by decide +kernel
set_option maxRecDepth 20000 in
theorem e_sr3 : Cond.stringRef RX0 79 "minus" ∈ lw_tbl := by decide +kernel
set_option maxRecDepth 20000 in
theorem e_sr4 : Cond.stringRef RX0 81 "side" ∈ lw_tbl := by decide +kernel
theorem e_all (hts : ∀ w ∈ lw_tbl, w.before #[Value.ref b] s = true) (hgv : (Jvm.Cond.and given_1 narrow_1).before #[Value.ref b] s = true) : ∃ (D : va_G) (ty : Nat → ClassId) (k : Nat × (Nat → Nat) × (Nat → Nat)), ∀ ad : Nat → Nat, va_K D vwCl (pq_tys (ad, D, ty, k)) s ∧ envC (ad, D, ty, k) (fun q => s.heap.size ≤ q) s s.heap := by
  have hs := flat_of_before _ hgv
  obtain ⟨D, hD⟩ := e_cls hts
  obtain ⟨c0, k0, p0, q0, -⟩ := e_arr (e_mem hts k_ac_int)
  obtain ⟨c1, k1, p1, q1, r1⟩ := e_arr (e_mem hts k_ac_long)
  obtain ⟨c2, p2, q2⟩ := e_arrO (va_AO.of (hts _ e_ao3))
  obtain ⟨-, c3, k3, -, p3, q3, -, -⟩ := e_arrA (ty := .int) (hts _ e_ao1)
  obtain ⟨m4, c4, k4, n4, p4, q4, r4, t4⟩ := e_arrA (ty := .long) (hts _ e_ao2)
  have hm : m4 = c1 := by
    have e : (FieldType.array .long).toString = "[" ++ FieldType.long.toString := rfl
    rw [e] at n4
    exact Option.some.inj (n4.symm.trans q1)
  subst hm
  have hA : ∀ a : Nat, a < s.heap.size → ¬ (fun q => s.heap.size ≤ q) a := fun a h => Nat.not_le.mpr h
  obtain ⟨t, e1, hT⟩ := va_Tof (tm := tKA) (ty := .int) (N := 6) (f := fun k => .int (kA k)) (A := fun q => s.heap.size ≤ q) (by decide) (hs _ e_k1) (va_eqt (hs _ e_k2)) (fun j hj => va_eqt (hs _ (e_k3 j hj))) hA
  obtain ⟨aK, aV, hS, hSe⟩ := vk_Sof (tm := tmS) (N := 5) (len := txL) (byt := txB) (A := fun q => s.heap.size ≤ q) (by decide) (fun i hi => hs _ (e_s1 i hi)) (fun i hi => hs _ (e_s2 i hi)) (fun i hi => hs _ (e_s3 i hi)) (fun i hi => hs _ (e_s4 i hi)) (fun i hi j hj => hs _ (e_s5 i hi j hj)) (fun i j hi hj hij => (e_s6 i hi j hj hij).imp (hs _) (hs _)) hA
  refine ⟨D, fun i => match i with | 0 => c0 | 1 => m4 | 2 => c2 | 3 => c3 | _ => c4, (t, aK, aV), fun ad => ⟨⟨hD, fun k q hq => ?_⟩, ?_⟩⟩
  · match k, hq with
    | 0, hq => cases hq; exact ⟨p0, q0⟩
    | 1, hq => cases hq; exact ⟨p1, q1⟩
    | 2, hq => cases hq; exact ⟨p2, q2⟩
    | 3, hq => cases hq; exact ⟨p3, q3⟩
    | 4, hq => cases hq; exact ⟨p4, q4⟩
    | n + 5, hq => cases hq
  · exact ⟨va_Zof (hts _ e_ls1) (e_mem hts k_ini_X10) e1 hA, hT, va_Zof (hts _ e_ls2) (hts _ e_is2) (va_eqt (hs _ e_c1)) hA, hS, fun q hq => va_Nw.of rfl (hts _ (e_nestL q hq)), ⟨k4, k1, r4, t4, r1⟩, va_Zqof (hts _ e_ls3) (hts _ e_is3) (hs _ e_c2) hA, vk_R.of (hts _ e_sr0) (hSe 0 (by decide)), vk_R.of (hts _ e_sr1) (hSe 1 (by decide)), vk_R.of (hts _ e_sr2) (hSe 2 (by decide)), vk_R.of (hts _ e_sr3) (hSe 3 (by decide)), vk_R.of (hts _ e_sr4) (hSe 4 (by decide))⟩
end ENVW
