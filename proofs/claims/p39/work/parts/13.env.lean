section ENVW
variable {s : State} {b : Nat}
theorem e_mem {w : Cond} {args : Array Value} {s : State} (hts : ∀ w ∈ lw_tbl, w.before args s = true) (h : w ∈ pq_G) : w.before args s = true := hts w (List.mem_filter.mp h).1
set_option maxRecDepth 20000 in
theorem e_nestL : ∀ q ∈ nestL, Cond.methodLinkNest q.1 q.2.1 q.2.2.1 q.2.2.2 ∈ lw_tbl := by decide +kernel
set_option maxRecDepth 20000 in
theorem e_nestI : ∀ q ∈ nestI, Cond.methodLinkNest q.1 q.2.1 q.2.2.1 q.2.2.2 ∈ lw_tbl := by decide +kernel
theorem e_cls (hts : ∀ w ∈ lw_tbl, w.before #[Value.ref b] s = true) : ∃ D : va_G, ∀ (c : Nat) (q : vw_C), vwCl[c]? = some q → u_Kn s q.1 q.2.1 q.2.2 (D.1 c) (D.2 c) := by
  have h : ∀ c : Nat, ∃ q : ClassId × (Nat → Nat), ∀ r : vw_C, vwCl[c]? = some r → u_Kn s r.1 r.2.1 r.2.2 q.1 q.2 := by
    have hG : ∀ w ∈ pq_G, w.before #[Value.ref b] s = true := fun w h => e_mem hts h
    have mk : ∀ (C : String) (T : u_T) (N n : Nat), (∀ w ∈ u_ws C T N, w ∈ pq_G) → Cond.instantiable C n ∈ pq_G → ∃ q : ClassId × (Nat → Nat), u_Kn s C T N q.1 q.2 := fun C T N n h1 h2 => by
      obtain ⟨c, i, k⟩ := u_known hG h1 (hG _ h2)
      exact ⟨(c, i), k⟩
    intro c
    match c with
    | 0 => obtain ⟨q, k⟩ := mk _ _ _ _ uw_X0 k_in_X0; exact ⟨q, fun r hr => by cases hr; exact k⟩
    | 1 => obtain ⟨q, k⟩ := mk _ _ _ _ uw_X1 k_in_X1; exact ⟨q, fun r hr => by cases hr; exact k⟩
    | 2 => obtain ⟨q, k⟩ := mk _ _ _ _ uw_X2 k_in_X2; exact ⟨q, fun r hr => by cases hr; exact k⟩
    | 3 => obtain ⟨q, k⟩ := mk _ _ _ _ uw_X3 k_in_X3; exact ⟨q, fun r hr => by cases hr; exact k⟩
    | 4 => obtain ⟨q, k⟩ := mk _ _ _ _ uw_X4 k_in_X4; exact ⟨q, fun r hr => by cases hr; exact k⟩
    | 5 => obtain ⟨q, k⟩ := mk _ _ _ _ uw_X5 k_in_X5; exact ⟨q, fun r hr => by cases hr; exact k⟩
    | 6 => obtain ⟨q, k⟩ := mk _ _ _ _ uw_X6 k_in_X6; exact ⟨q, fun r hr => by cases hr; exact k⟩
    | 7 => obtain ⟨q, k⟩ := mk _ _ _ _ uw_X7 k_in_X7; exact ⟨q, fun r hr => by cases hr; exact k⟩
    | 8 => obtain ⟨q, k⟩ := mk _ _ _ _ uw_X8 k_in_X8; exact ⟨q, fun r hr => by cases hr; exact k⟩
    | 9 => obtain ⟨q, k⟩ := mk _ _ _ _ uw_X9 k_in_X9; exact ⟨q, fun r hr => by cases hr; exact k⟩
    | 10 => obtain ⟨q, k⟩ := mk _ _ _ _ uw_X10 k_in_X10; exact ⟨q, fun r hr => by cases hr; exact k⟩
    | n + 11 => exact ⟨(0, fun _ => 0), fun r hr => by cases hr⟩
  obtain ⟨f, hf⟩ := Classical.axiomOfChoice h
  exact ⟨(fun c => (f c).1, fun c => (f c).2), fun c q hq => hf c q hq⟩
theorem e_arr {ty : FieldType} {args : Array Value} {s : State} (h : (Cond.arrayClass ty).before args s = true) : ∃ (c : ClassId) (k : Class), ArrOfT s c ty ∧ s.vm.findClass ("[" ++ ty.toString) = some c ∧ s.vm.classes[c]? = some k := by
  obtain ⟨c, k, comp, h1, h2, h3⟩ := Cond.arrayClass_spec (args := args) (first := s) (o := none) (s := s) (idx := []) h
  exact ⟨c, k, fun n z => ⟨fun k h => (by cases h), k, h2, comp, h3⟩, h1, h2⟩
theorem e_arrA {ty : FieldType} {s : State} (h : va_AOA ty s) : ∃ (comp c : ClassId) (k : Class), s.vm.findClass (FieldType.array ty).toString = some comp ∧ ArrOfT s c (.array ty) ∧ s.vm.findClass ("[" ++ (FieldType.array ty).toString) = some c ∧ s.vm.classes[c]? = some k ∧ k.kind = .array comp (.array ty) := by
  obtain ⟨comp, c, k, h1, -, h3, h4, h5⟩ := h.spec
  exact ⟨comp, c, k, h1, fun n z => ⟨fun k h => (by cases h), k, h3, comp, h4⟩, h5, h3, h4⟩
theorem e_arrO {C : String} {s : State} (h : va_AO C s) : ∃ (c : ClassId), ArrOfT s c (.object C) ∧ va_RA s c (.object C) := by
  obtain ⟨comp, c, k, h1, -, h3, h4, h5⟩ := Cond.arrayOver_spec (args := #[]) (first := s) (o := none) (s := s) (idx := []) h
  exact ⟨c, fun n z => ⟨fun k h => (by cases h), k, h3, comp, h4⟩, k, comp, h3, h4, h1, h5⟩
set_option maxRecDepth 20000 in
theorem e_ao1 : Cond.arrayOver (.array .int) ∈ lw_tbl := by decide +kernel
set_option maxRecDepth 20000 in
theorem e_ao2 : Cond.arrayOver (.array .long) ∈ lw_tbl := by decide +kernel
set_option maxRecDepth 20000 in
theorem e_ao3 : Cond.arrayOver (.object "FormsAboveNought$Form") ∈ lw_tbl := by decide +kernel
theorem e_envI (hts : ∀ w ∈ lw_tbl, w.before #[Value.ref b] s = true) : envI s := ⟨fun q hq => va_Nw.of rfl (hts _ (e_nestI q hq)), va_AO.of (hts _ e_ao3), hts _ e_ao1, hts _ e_ao2⟩
theorem e_scr {Ln : Nat} {xs : Nat → Int32} (hX : va_X b Ln xs s s.heap) (hbl : b < s.heap.size) : va_T .int b Ln (fun k => .int (xs k)) (fun q => s.heap.size ≤ q) s s.heap := by
  obtain ⟨scr, h1, h2, h3, h4, h5⟩ := hX
  exact ⟨scr, h1, h2, h3, Nat.le_of_eq h4.symm, by rw [h4], h5, Nat.not_le.mpr hbl⟩
theorem e_all {Ln : Nat} {xs : Nat → Int32} (hts : ∀ w ∈ lw_tbl, w.before #[Value.ref b] s = true) (hX : va_X b Ln xs s s.heap) (hbl : b < s.heap.size) : ∃ (D : va_G) (ty : Nat → ClassId), ∀ ad : Nat → Nat, va_K D vwCl (pq_tys (ad, D, ty, b, Ln, xs)) s ∧ envC (ad, D, ty, b, Ln, xs) (fun q => s.heap.size ≤ q) s s.heap := by
  obtain ⟨D, hD⟩ := e_cls hts
  obtain ⟨c0, k0, p0, q0, -⟩ := e_arr (e_mem hts k_ac_int)
  obtain ⟨c1, k1, p1, q1, r1⟩ := e_arr (e_mem hts k_ac_long)
  obtain ⟨c2, p2, q2⟩ := e_arrO (va_AO.of (hts _ e_ao3))
  obtain ⟨-, c3, k3, -, p3, q3, -, -⟩ := e_arrA (ty := .int) (hts _ e_ao1)
  obtain ⟨m4, c4, k4, n4, p4, q4, r4, t4⟩ := e_arrA (ty := .long) (hts _ e_ao2)
  have hm : m4 = c1 := by
    have e : (FieldType.array .long).toString = "[" ++ FieldType.long.toString := rfl
    rw [e] at n4
    exact Option.some.inj (n4.symm.trans q1)
  subst hm
  refine ⟨D, fun i => match i with | 0 => c0 | 1 => m4 | 2 => c2 | 3 => c3 | _ => c4, fun ad => ⟨⟨hD, fun k q hq => ?_⟩, ?_⟩⟩
  · match k, hq with
    | 0, hq => cases hq; exact ⟨p0, q0⟩
    | 1, hq => cases hq; exact ⟨p1, q1⟩
    | 2, hq => cases hq; exact ⟨p2, q2⟩
    | 3, hq => cases hq; exact ⟨p3, q3⟩
    | 4, hq => cases hq; exact ⟨p4, q4⟩
    | n + 5, hq => cases hq
  · exact ⟨fun q hq => va_Nw.of rfl (hts _ (e_nestL q hq)), ⟨k4, k1, r4, t4, r1⟩, e_scr hX hbl⟩
end ENVW
