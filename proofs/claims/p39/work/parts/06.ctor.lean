def va_AOA (ty : FieldType) (U : State) : Prop := (Cond.arrayOver (.array ty)).before #[] U = true
theorem va_AOA.use {ty : FieldType} {A : Array Value} {U : State} (h : va_AOA ty U) : (Cond.arrayOver (.array ty)).before A U = true := h
theorem va_AOA.spec {ty : FieldType} {s : State} (h : va_AOA ty s) : ∃ comp c k, s.vm.findClass (FieldType.array ty).toString = some comp ∧ (s.vm.classes.findIdx? fun x => match x.kind with | .array component _ => component == comp | _ => false) = some c ∧ s.vm.classes[c]? = some k ∧ k.kind = .array comp (.array ty) ∧ s.vm.findClass ("[" ++ (FieldType.array ty).toString) = some c := by
  unfold va_AOA Cond.before Cond.holds at h
  simp only [Cond.value, beq_iff_eq] at h
  cases hc : s.vm.findClass (FieldType.array ty).toString with
  | none => simp [hc] at h
  | some comp =>
    simp only [hc, Option.bind_some, Option.bind_eq_some_iff, Option.map_eq_some_iff] at h
    obtain ⟨c, hi, k, hk, hb⟩ := h
    obtain ⟨hlt, hp, -⟩ := Array.findIdx?_eq_some_iff_getElem.mp hi
    have hkk : s.vm.classes[c] = k := (Array.getElem?_eq_some_iff.mp hk).2
    rw [hkk] at hp
    cases hkind : k.kind with
    | array component t2 =>
      rw [hkind] at hb hp
      simp at hb hp
      exact ⟨comp, c, k, rfl, hi, hk, by rw [hkind, hp, hb.1], hb.2⟩
    | _ => rw [hkind] at hb; simp at hb
theorem va_AOA.moved {ty : FieldType} {u U : State} (hvm : u.vm.Alike U.vm) (h : va_AOA ty u) : va_AOA ty U := by
  obtain ⟨comp, c, k, h1, h2, h3, h4, h5⟩ := h.spec
  obtain ⟨k', hk', he⟩ := hvm.2.2 _ _ h3
  have hi : (U.vm.classes.findIdx? fun (x : Class) => match x.kind with | .array component _ => component == comp | _ => false) = some c := by
    have q1 := va_idx_bare U.vm comp
    have q2 := va_idx_bare u.vm comp
    have q3 : U.vm.bare = u.vm.bare := by first | exact hvm.bare_eq.symm | exact hvm.bare_eq
    rw [q3] at q1
    exact (q1.symm.trans q2).trans h2
  have hkind : k'.kind = .array comp (.array ty) := by rw [he]; exact h4
  have f1 : U.vm.findClass (FieldType.array ty).toString = some comp := by rw [hvm.findClass]; exact h1
  have f2 : U.vm.findClass ("[" ++ (FieldType.array ty).toString) = some c := by rw [hvm.findClass]; exact h5
  unfold va_AOA Cond.before Cond.holds
  simp only [Cond.value]
  rw [f1, Option.bind_some]
  refine (congrArg (fun o : Option Nat => (o.bind (fun c => (U.vm.classes[c]?).map fun (k : Class) => match k.kind with | .array _ t2 => decide (t2 = FieldType.array ty) && decide (U.vm.findClass ("[" ++ (FieldType.array ty).toString) = some c) | _ => false) == some true)) hi).trans ?_
  simp [hk', hkind, f2]
/-! ===== BEGIN new T[n][m]: the outer array a place, the inner ones among the pooled ===== -/
/-- f, but v at every address of l -/
def vr_up {α : Type} (f : Nat → α) (l : List Nat) (v : α) : Nat → α := fun a => if a ∈ l then v else f a
theorem vr_up_in {α : Type} {f : Nat → α} {l : List Nat} {v : α} {a : Nat} (h : a ∈ l) : vr_up f l v a = v := if_pos h
theorem vr_up_ne {α : Type} {f : Nat → α} {l : List Nat} {v : α} {a : Nat} (h : a ∉ l) : vr_up f l v a = f a := if_neg h
theorem vr_rows {L l : List Nat} {f : Nat → va_E} {e : va_E} (h : ∀ a, a ∈ l → a ∉ L) : va_pl L f ++ l.map (fun a => (a, e)) = va_pl (L ++ l) (vr_up f l e) := by
  unfold va_pl
  rw [List.map_append]
  congr 1
  · apply List.map_congr_left
    intro a ha
    rw [vr_up_ne (fun q => h a q ha)]
  · apply List.map_congr_left
    intro a ha
    rw [vr_up_in ha]
theorem vr_lay {X rows : va_W} {x : Nat × va_E} {pl : va_W} {D : va_G} {cl : List vw_C} {H : Heap} (hP : va_P D cl (((X ++ pl) ++ [x]) ++ rows) H) : va_P D cl ((X ++ [x]) ++ (pl ++ rows)) H := by
  rw [List.append_assoc (X ++ pl)] at hP
  have h := va_P.swap hP
  rw [← List.append_assoc X] at h
  have h2 := va_P.swap h
  rw [List.append_assoc (X ++ [x])] at h2
  exact h2
theorem vr_layD {X rows : va_W} {x : Nat × va_E} {pl : va_W} {A : Nat → Prop} (hD : va_D A (((X ++ pl) ++ [x]) ++ rows)) : va_D A ((X ++ [x]) ++ (pl ++ rows)) := by
  rw [List.append_assoc (X ++ pl)] at hD
  have h := va_D.swap hD
  rw [← List.append_assoc X] at h
  have h2 := va_D.swap h
  rw [List.append_assoc (X ++ [x])] at h2
  exact h2
theorem vr_outer (c : ClassId) (N h0 : Nat) : ∀ i : Nat, Jvm.Free.Multi.outerC c N h0 i = arrV c N (fun j => va_rf (if j < i then some (h0 + 1 + j) else none))
  | 0 => by
    show ({ cls := c, slots := Array.replicate N .null, vm := .none } : Cell) = _
    rw [arrV_new]
    refine congrArg (arrV c N) (funext fun j => ?_)
    simp [va_rf]
  | i + 1 => by
    show (Jvm.Free.Multi.outerC c N h0 i).setSlot i (.ref (h0 + 1 + i)) = _
    rw [vr_outer c N h0 i, arrV_store]
    refine congrArg (arrV c N) (funext fun j => ?_)
    by_cases e : j = i
    · subst e
      simp [updV, va_rf]
    · by_cases h : j < i
      · simp [updV, e, h, Nat.lt_succ_of_lt h]
      · simp [updV, e, h, show ¬ j < i + 1 by omega]
section VGM
variable {p : Program} {l : Launch} {e : Env} {R : Room} {s : State} {m : MethodId} {args : Array Value} {below : List Frame} {meth : Method} {c : Code} {H : Heap} {locs : List Loc} {cells slots : Nat} {Q : State → Prop}
variable {cc : ByteArray} {pc : Nat} {ls : Array Slot} {rest : List Value} {D : va_G} {cl : List vw_C} {A : Nat → Prop} {a : Nat} {tys : List (ClassId × FieldType)} {ws : va_W} {H0 : Heap}
theorem va_mna {X : va_W} {L : List Nat} {f : Nat → va_E} {cc : ByteArray} (hexec : p.tables.exec = Jvm.exec) (hb : c.code = cc) {own : String} {index : Nat} {ty : FieldType} {cy : ClassId} (hown : s.vm.findClass own = some m.cls) (hclink : (Cond.classLink own index ("[" ++ (FieldType.array ty).toString)).before args s = true) (hover : va_AOA ty s) (harr : (Cond.arrayClass ty).before args s = true) (hcy : s.vm.findClass (FieldType.array ty).toString = some cy)
    (hK : va_K D cl tys s) (hP : va_P D cl (X ++ va_pl L f) H) (hD : va_D A (X ++ va_pl L f)) (hS : va_S A H0 H locs) (hA : ∀ q, H0.size ≤ q → A q) {n k : Int32} {N' K' : Nat} {z : vp_A} (hn : ¬ n < 0) (hk : ¬ k < 0) (hN : n.toNatClampNeg = N') (hM : k.toNatClampNeg = K')
    (hb1 : N' * 4 ≤ 536870912) (hb2 : K' * componentBytes ty ≤ 536870912) (hb3 : K' ≤ 536870912) (hdf : fits ty (defaultValue ty) = true) (hdd : (defaultValue ty).isDefault = true) (hcells : cells + (1 + N') ≤ R.cells) (hslots : slots + (N' + N' * K') ≤ R.slots) (hz : ∀ c : ClassId, Jvm.Free.Multi.innerC c K' (defaultValue ty) = vp_cell c z) (hdg : decode cc pc = .ok (.multianewarray index 2, 4))
    (kk : ∀ (q : Nat) (r : Nat → Nat) (cA : ClassId) (H1 : Heap), (∀ i j : Nat, i < N' → j < N' → r i = r j → i = j) → (∀ i : Nat, i < N' → r i ∉ L) → va_K D cl (tys ++ [(cA, .array ty)]) s →
      va_P D cl ((X ++ [(q, .inl (cA, N', .inr (.inr (.inr (.inr (fun i => if i < N' then some (r i) else none))))))]) ++ va_pl (L ++ (List.range N').map r) (vr_up f ((List.range N').map r) (.inl (cy, z)))) H1 → va_D A ((X ++ [(q, .inl (cA, N', .inr (.inr (.inr (.inr (fun i => if i < N' then some (r i) else none))))))]) ++ va_pl (L ++ (List.range N').map r) (vr_up f ((List.range N').map r) (.inl (cy, z)))) → va_S A H0 H1 locs →
      W p l e R s m args below meth c H1 locs (cells + 1 + N') (slots + N' + N' * K') Q (F0 m (pc + 4) ls (.ref q :: rest))) : W p l e R s m args below meth c H locs cells slots Q (F0 m pc ls (.int k :: .int n :: rest)) := by
  subst hN
  subst hM
  intro T hT Xs
  obtain ⟨vm₁, cA, comp, -, fA, fC, hO, -, X', step⟩ := Xs.multianewarray2F hexec hown hclink (va_AOA.use hover) harr (g := F0 m pc ls (.int k :: .int n :: rest)) rfl (by rw [hb]; exact hdg) rfl hn hk hb1 hb2 hb3 hdf hdd hcells hslots
  have ec : some cy = some comp := hcy.symm.trans fC
  cases ec
  generalize hF : Jvm.Free.Multi.fill (T.setVm vm₁) cA cy n.toNatClampNeg k.toNatClampNeg (defaultValue ty) n.toNatClampNeg = F at X' step
  have hTh : (T.setVm vm₁).heap = H := hT
  obtain ⟨f1, f2, -, -⟩ := Jvm.Free.Multi.fill_facts (T.setVm vm₁) cA cy n.toNatClampNeg k.toNatClampNeg (defaultValue ty) n.toNatClampNeg
  rw [hF, hTh] at f1 f2
  have hold : ∀ x : Nat, x < H.size → F.heap[x]? = H[x]? := fun x hx => by
    have := Jvm.Free.Multi.fill_old (T.setVm vm₁) cA cy n.toNatClampNeg k.toNatClampNeg (defaultValue ty) (a := x) (by rw [hTh]; exact hx) n.toNatClampNeg
    rw [hF, hTh] at this
    exact this
  have hrow : ∀ j : Nat, j < n.toNatClampNeg → F.heap[H.size + 1 + j]? = some (vp_cell cy z) := fun j hj => by
    have := Jvm.Free.Multi.fill_inner (T.setVm vm₁) cA cy n.toNatClampNeg k.toNatClampNeg (defaultValue ty) n.toNatClampNeg j hj
    rw [hF, hTh, hz] at this
    exact this
  have hout : Jvm.Free.Multi.outerC cA n.toNatClampNeg H.size n.toNatClampNeg = vp_cell cA (n.toNatClampNeg, .inr (.inr (.inr (.inr (fun i => if i < n.toNatClampNeg then some (H.size + 1 + i) else none))))) := by
    rw [vp_cell_q]
    exact vr_outer cA n.toNatClampNeg H.size n.toNatClampNeg
  rw [hout] at f2
  have hlt : ∀ a, a ∈ L → a < H.size := fun a ha => by
    obtain ⟨k9, hk9⟩ := va_pl_get (X := X) (f := f) ha
    exact (hP k9 _ hk9).lt
  have hnl : ∀ i : Nat, i < n.toNatClampNeg → H.size + 1 + i ∉ L := fun i _ h => by
    have := hlt _ h
    omega
  have hnm : ∀ a, a ∈ (List.range n.toNatClampNeg).map (fun i => H.size + 1 + i) → a ∉ L := fun a ha h => by
    obtain ⟨i, -, rfl⟩ := List.mem_map.mp ha
    have := hlt _ h
    omega
  have hP0 : va_P D cl (X ++ va_pl L f) F.heap := hP.kept (fun k9 x hx => hold x.1 ((hP k9 x hx).lt))
  have hP1 : va_P D cl ((X ++ va_pl L f) ++ [(H.size, .inl (cA, n.toNatClampNeg, .inr (.inr (.inr (.inr (fun i => if i < n.toNatClampNeg then some (H.size + 1 + i) else none))))))]) F.heap := hP0.app (fun k9 x hx => by
    have h0 : k9 < 1 := (List.getElem?_eq_some_iff.mp hx).1
    rw [show k9 = 0 by omega] at hx
    cases hx
    exact f2)
  have hP2 : va_P D cl (((X ++ va_pl L f) ++ [(H.size, .inl (cA, n.toNatClampNeg, .inr (.inr (.inr (.inr (fun i => if i < n.toNatClampNeg then some (H.size + 1 + i) else none))))))]) ++ ((List.range n.toNatClampNeg).map (fun i => H.size + 1 + i)).map (fun a => (a, .inl (cy, z)))) F.heap := hP1.app (fun k9 x hx => by
    obtain ⟨a, ha, rfl⟩ := List.mem_map.mp (List.mem_of_getElem? hx)
    obtain ⟨i, hi, rfl⟩ := List.mem_map.mp ha
    exact hrow i (List.mem_range.mp hi))
  have hD2 : va_D A (((X ++ va_pl L f) ++ [(H.size, .inl (cA, n.toNatClampNeg, .inr (.inr (.inr (.inr (fun i => if i < n.toNatClampNeg then some (H.size + 1 + i) else none))))))]) ++ ((List.range n.toNatClampNeg).map (fun i => H.size + 1 + i)).map (fun a => (a, .inl (cy, z)))) := by
    have hD1 := hD.push (e := .inl (cA, n.toNatClampNeg, .inr (.inr (.inr (.inr (fun i => if i < n.toNatClampNeg then some (H.size + 1 + i) else none)))))) hP rfl (hA _ hS.1)
    generalize hW1 : (X ++ va_pl L f) ++ [(H.size, .inl (cA, n.toNatClampNeg, .inr (.inr (.inr (.inr (fun i => if i < n.toNatClampNeg then some (H.size + 1 + i) else none))))))] = W1 at hD1 hP1 ⊢
    have hle : ∀ (k9 : Nat) (x : Nat × va_E), W1[k9]? = some x → x.1 ≤ H.size := fun k9 x hx => by
      rw [← hW1] at hx
      by_cases hl : k9 < (X ++ va_pl L f).length
      · rw [List.getElem?_append_left hl] at hx
        exact Nat.le_of_lt ((hP k9 x hx).lt)
      · rw [List.getElem?_append_right (by omega)] at hx
        have h0 : k9 - (X ++ va_pl L f).length < 1 := (List.getElem?_eq_some_iff.mp hx).1
        rw [show k9 - (X ++ va_pl L f).length = 0 by omega] at hx
        cases hx
        exact Nat.le_refl _
    have hr : ∀ (k9 : Nat) (x : Nat × va_E), (((List.range n.toNatClampNeg).map (fun i => H.size + 1 + i)).map (fun a => ((a, .inl (cy, z)) : Nat × va_E)))[k9]? = some x → x.1 = H.size + 1 + k9 := fun k9 x hx => by
      rw [List.getElem?_map, List.getElem?_map] at hx
      by_cases h9 : k9 < n.toNatClampNeg
      · rw [List.getElem?_range h9] at hx
        cases hx
        rfl
      · have hn0 : (List.range n.toNatClampNeg)[k9]? = none := List.getElem?_eq_none (by rw [List.length_range]; omega)
        rw [hn0] at hx
        cases hx
    refine ⟨fun i j x y hi hj hxy => ?_, fun k9 x hx => ?_⟩
    · by_cases h1 : i < W1.length <;> by_cases h2 : j < W1.length
      · rw [List.getElem?_append_left h1] at hi
        rw [List.getElem?_append_left h2] at hj
        exact hD1.1 i j x y hi hj hxy
      · rw [List.getElem?_append_left h1] at hi
        rw [List.getElem?_append_right (by omega)] at hj
        have := hle _ _ hi
        have := hr _ _ hj
        omega
      · rw [List.getElem?_append_right (by omega)] at hi
        rw [List.getElem?_append_left h2] at hj
        have := hle _ _ hj
        have := hr _ _ hi
        omega
      · rw [List.getElem?_append_right (by omega)] at hi hj
        have := hr _ _ hi
        have := hr _ _ hj
        omega
    · by_cases h1 : k9 < W1.length
      · rw [List.getElem?_append_left h1] at hx
        exact hD1.2 k9 x hx
      · rw [List.getElem?_append_right (by omega)] at hx
        have := hr _ _ hx
        exact hA _ (by have := hS.1; omega)
  have hAr : ArrOfT s cA (.array ty) := fun N9 z9 => by
    obtain ⟨-, k9, hk9, cm9, hkk9⟩ := (hO 0 0 0).1
    exact ⟨(fun q hq => by cases hq), k9, hk9, cm9, hkk9⟩
  have hK2 : va_K D cl (tys ++ [(cA, .array ty)]) s := ⟨hK.1, fun k9 x hx => by
    by_cases hl : k9 < tys.length
    · rw [List.getElem?_append_left hl] at hx
      exact hK.2 k9 x hx
    · rw [List.getElem?_append_right (by omega)] at hx
      have h0 : k9 - tys.length < 1 := (List.getElem?_eq_some_iff.mp hx).1
      rw [show k9 - tys.length = 0 by omega] at hx
      cases hx
      exact ⟨hAr, fA⟩⟩
  obtain ⟨t, a1, b1⟩ := kk H.size (fun i => H.size + 1 + i) cA F.heap (fun i j _ _ h => by have h9 : H.size + 1 + i = H.size + 1 + j := h; omega) hnl hK2 (by rw [← vr_rows hnm]; exact vr_lay hP2) (by rw [← vr_rows hnm]; exact vr_layD hD2) ⟨by rw [f1]; have := hS.1; omega, fun x h1 h2 => (hold x (Nat.lt_of_lt_of_le h1 hS.1)).trans (hS.2.1 x h1 h2), hS.2.2⟩ F rfl X'
  refine ⟨t, step t ?_, b1⟩
  have e : T.heap.size = H.size := by rw [hT]
  rw [e]
  exact a1
end VGM
/-! ===== END ===== -/
def nestI : List (String × Nat × MethodName × String) := [(RX10, 18, yX3_init, "FormsAboveNought"), (RX10, 25, yX2_init, "FormsAboveNought"), (RX10, 32, yX0_init, "FormsAboveNought"), (RX10, 39, yX7_init, "FormsAboveNought"), (RX10, 46, yX5_init, "FormsAboveNought"), (RX10, 53, yX8_init, "FormsAboveNought"), (RX10, 60, yX4_init, "FormsAboveNought"), (RX6, 22, yX9_init, "FormsAboveNought"), (RX6, 31, yX1_init, "FormsAboveNought")]
def envI (U : State) : Prop := (∀ q ∈ nestI, va_Nw (Cond.methodLinkNest q.1 q.2.1 q.2.2.1 q.2.2.2) U) ∧ va_AO "FormsAboveNought$Form" U ∧ va_AOA .int U ∧ va_AOA .long U
theorem envI.warm {s U : State} (hW : s.WarmedH U.vm) (h : envI s) : envI U := ⟨fun q hq => va_Nw.warmM hW (h.1 q hq), h.2.1.moved hW.alike, h.2.2.1.moved hW.alike, h.2.2.2.moved hW.alike⟩
abbrev pq_Y : Type := va_G × List vw_C × List (ClassId × FieldType)
/-- the walk of a constructor: its world is a list that grows -/
def pq_U (X : pq_X) (Y : pq_Y) (nL pc : Nat) (L : List (Nat × Value)) (ws : va_W) (k n : Nat) (st : List Value) : Prop :=
  ∀ (ls : Array Slot) (H : Heap) (locs : List Loc), lv_has ls nL L → va_P Y.1 Y.2.1 ws H → va_D X.2.2.2.1 ws → va_S X.2.2.2.1 X.2.2.2.2 H locs → W X.1.1 X.1.2.1 X.1.2.2.1 X.1.2.2.2.1 X.1.2.2.2.2 X.2.1.1 X.2.1.2.1 X.2.1.2.2.1 X.2.1.2.2.2.1 X.2.1.2.2.2.2.1 H locs k n X.2.2.1 (F0 X.2.1.1 pc ls st)
def pq_KI (X : pq_X) (Y : pq_Y) : Prop := va_K Y.1 Y.2.1 Y.2.2 X.1.2.2.2.2 ∧ X.2.2.2.2 = X.1.2.2.2.2.heap ∧ (∀ q, X.2.2.2.2.size ≤ q → X.2.2.2.1 q) ∧ envI X.1.2.2.2.2
def pq_Q2 (Y : pq_Y) (A : Nat → Prop) (Wc : (Nat → Nat) → va_W) : Array Value → State → Outcome → State → Prop := fun _ st oc t => (oc = .returned none ∧ ∃ a : Nat → Nat, va_P Y.1 Y.2.1 (Wc a) t.heap ∧ va_D A (Wc a)) ∧ va_F A st t
def pq_N (Y : pq_Y) (l : Launch) (y : MethodName) (b : ByteArray) (n rf rl mc ms : Nat) (q0 : Nat) (e0 : va_E) (Wc : (Nat → Nat) → va_W) : Prop := ∀ sz : Nat, Met l y (Cond.code y b n none :: pq_G) ({ frames := rf, cells := mc, slots := ms, locals := rl }) (va_Pc [.ref q0] (fun U => U.heap.size = sz ∧ va_P Y.1 Y.2.1 [(q0, e0)] U.heap ∧ va_K Y.1 Y.2.1 Y.2.2 U ∧ envI U)) (pq_Q2 Y (va_A [(q0, e0)] sz) Wc) mc ms (va_A [(q0, e0)] sz)
def pq_RI (X : pq_X) (Y : pq_Y) (rf rl mc ms : Nat) (Wc : (Nat → Nat) → va_W) : Prop := X.1.2.2.2.1 = { frames := rf, cells := mc, slots := ms, locals := rl } ∧ X.2.1.2.2.2.1.sig.returnType = none ∧ X.2.1.2.2.2.1.locks = false ∧ X.2.1.2.2.2.1.name = "<init>" ∧ X.2.2.1 = MQ X.2.1.2.2.1 (pq_Q2 Y X.2.2.2.1 Wc) X.2.1.2.1 X.1.2.2.2.2 mc ms X.2.2.2.1
theorem pq_metI {Y : pq_Y} (l : Launch) {y : MethodName} {b : ByteArray} {n : Nat} {own : String} (rf rl mc ms q0 : Nat) (e0 : va_E) (Wc : (Nat → Nat) → va_W) (hy : plainName y.cls = true) (ho : y.cls = own) (hn : y.name = "<init>") (hlen : 1 ≤ n)
    (key : ∀ X : pq_X, X.1.2.1 = l → pq_B X b n own → pq_KI X Y → pq_RI X Y rf rl mc ms Wc → pq_U X Y n 0 [(0, .ref q0)] [(q0, e0)] 0 0 []) : pq_N Y l y b n rf rl mc ms q0 e0 Wc := by
  subst ho
  intro sz
  refine Met.ofW (cc := b) (maxL := n) (ret := none) hy rfl ?_
  intro p e s m args below meth c s₁ B hml hv
  obtain ⟨rfl, hsz, hP, hK, hE⟩ := hv
  subst hsz
  have hts : ∀ w ∈ pq_G, w.before #[Value.ref q0] s = true := fun w hw => atoms_spec (ws := Cond.code y b n none :: pq_G) B.pre w (List.mem_cons_of_mem _ hw)
  have hl := lv_entry [Value.ref q0] (n := n) hlen
  rw [lg_entry_eq]
  have hl : lv_has _ n [(0, .ref q0)] := hl
  have hD : va_D (va_A [(q0, e0)] s.heap.size) [(q0, e0)] := ⟨fun i j p q hi hj _ => by
      have h1 : i < 1 := (List.getElem?_eq_some_iff.mp hi).1
      have h2 : j < 1 := (List.getElem?_eq_some_iff.mp hj).1
      omega, fun k q hk => va_A.in hk⟩
  exact key ((p, l, e, { frames := rf, cells := mc, slots := ms, locals := rl }, s), (m, #[Value.ref q0], below, meth, c, 0, 0), (MQ below (pq_Q2 Y (va_A [(q0, e0)] s.heap.size) Wc) #[Value.ref q0] s mc ms (va_A [(q0, e0)] s.heap.size), va_A [(q0, e0)] s.heap.size, s.heap)) rfl ⟨B.exec, B.bytes, hml, findClass_of_methodNamed B.named, hts⟩ ⟨hK, rfl, fun q h => Or.inr h, hE⟩ ⟨rfl, B.returns, B.notSynchronized, hn ▸ (name_of_methodNamed B.named B.method).1, rfl⟩ _ _ _ hl hP hD va_S.rf
section UU
variable {X : pq_X} {Y : pq_Y} {nL pc k n : Nat} {L : List (Nat × Value)} {st : List Value} {ws : va_W} {b : ByteArray} {own : String}
theorem u_iconst (hB : pq_B X b nL own) {i : Int} (v : Int32) (d : decode b pc = .ok (.iconst i, 1)) (hv : Int32.ofInt i = v) (kk : pq_U X Y nL (pc + 1) L ws k n (.int v :: st)) : pq_U X Y nL pc L ws k n st := fun ls H locs hl hP hD hS => lv_iconst hB.1 hB.2.1 d hv (kk ls H locs hl hP hD hS)
theorem u_bipush (hB : pq_B X b nL own) {i : Int} (v : Int32) (d : decode b pc = .ok (.bipush i, 2)) (hv : (Int8.ofInt i).toInt32 = v) (kk : pq_U X Y nL (pc + 2) L ws k n (.int v :: st)) : pq_U X Y nL pc L ws k n st := fun ls H locs hl hP hD hS => lv_bipush hB.1 hB.2.1 d hv (kk ls H locs hl hP hD hS)
theorem u_sipush (hB : pq_B X b nL own) {i : Int} (v : Int32) (d : decode b pc = .ok (.sipush i, 3)) (hv : (Int16.ofInt i).toInt32 = v) (kk : pq_U X Y nL (pc + 3) L ws k n (.int v :: st)) : pq_U X Y nL pc L ws k n st := fun ls H locs hl hP hD hS => lv_sipush hB.1 hB.2.1 d hv (kk ls H locs hl hP hD hS)
theorem u_dup (hB : pq_B X b nL own) {va : Value} (d : decode b pc = .ok (.dup, 1)) (hva : va.category = 1) (kk : pq_U X Y nL (pc + 1) L ws k n (va :: va :: st)) : pq_U X Y nL pc L ws k n (va :: st) := fun ls H locs hl hP hD hS => lv_dup hB.1 hB.2.1 d hva (kk ls H locs hl hP hD hS)
theorem u_aload_n (hB : pq_B X b nL own) {kk0 : Fin 4} {i : Nat} {x : Nat} (j : Nat) (d : decode b pc = .ok (.aload_n kk0, 1)) (hi : (kk0 : Nat) = i) (hL : L[j]? = some (i, .ref x)) (kk : pq_U X Y nL (pc + 1) L ws k n (.ref x :: st)) : pq_U X Y nL pc L ws k n st := fun ls H locs hl hP hD hS => lv_aload_n hB.1 hB.2.1 d hi (lv_at hl j hL) (kk ls H locs hl hP hD hS)
theorem u_iload_n (hB : pq_B X b nL own) {kk0 : Fin 4} {i : Nat} {x : Int32} (j : Nat) (d : decode b pc = .ok (.iload_n kk0, 1)) (hi : (kk0 : Nat) = i) (hL : L[j]? = some (i, .int x)) (kk : pq_U X Y nL (pc + 1) L ws k n (.int x :: st)) : pq_U X Y nL pc L ws k n st := fun ls H locs hl hP hD hS => lv_iload_n hB.1 hB.2.1 d hi (lv_at hl j hL) (kk ls H locs hl hP hD hS)
theorem u_istore_n (hB : pq_B X b nL own) {kk0 : Fin 4} {i : Nat} {x : Int32} (L' : List (Nat × Value)) (ks : List Nat) (d : decode b pc = .ok (.istore_n kk0, 1)) (hi : (kk0 : Nat) = i) (hn : i < nL) (hL : lv_pick ((i, Value.int x) :: L.filter (fun q => !(q.1 == i) && !(q.1 + 1 == i && q.2.category == 2))) ks = L') (kk : pq_U X Y nL (pc + 1) L' ws k n st) : pq_U X Y nL pc L ws k n (.int x :: st) := fun ls H locs hl hP hD hS => lv_istore_n hB.1 hB.2.1 d hi hl hn rfl (fun ls2 hl2 => kk ls2 H locs (lv_sub hl2 ks hL) hP hD hS)
theorem u_iinc (hB : pq_B X b nL own) {i : Nat} {c : Int} {x : Int32} (v : Int32) (L' : List (Nat × Value)) (j : Nat) (ks : List Nat) (d : decode b pc = .ok (.iinc i c, 3)) (hx : L[j]? = some (i, .int x)) (hv : x + Int32.ofInt c = v) (hn : i < nL) (hL : lv_pick ((i, Value.int v) :: L.filter (fun q => !(q.1 == i) && !(q.1 + 1 == i && q.2.category == 2))) ks = L') (kk : pq_U X Y nL (pc + 3) L' ws k n st) : pq_U X Y nL pc L ws k n st := fun ls H locs hl hP hD hS => lv_iinc hB.1 hB.2.1 d hl hx hv hn rfl (fun ls2 hl2 => kk ls2 H locs (lv_sub hl2 ks hL) hP hD hS)
theorem u_goto (hB : pq_B X b nL own) {off : Int} {tgt : Nat} (d : decode b pc = .ok (.goto off, 3)) (ht : (pc : Int) + off = (tgt : Int)) (kk : pq_U X Y nL tgt L ws k n st) : pq_U X Y nL pc L ws k n st := fun ls H locs hl hP hD hS => lv_goto hB.1 hB.2.1 d ht (kk ls H locs hl hP hD hS)
theorem u_geY (hB : pq_B X b nL own) {a c : Int32} {off : Int} {tgt : Nat} (d : decode b pc = .ok (.if_icmp .ge off, 3)) (ht : (pc : Int) + off = (tgt : Int)) (h : c ≤ a) (kk : pq_U X Y nL tgt L ws k n st) : pq_U X Y nL pc L ws k n (.int c :: .int a :: st) := fun ls H locs hl hP hD hS => lv_icmp_ge hB.1 hB.2.1 d ht (fun _ => kk ls H locs hl hP hD hS) (fun z => absurd h z)
theorem u_geN (hB : pq_B X b nL own) {a c : Int32} {off : Int} {tgt : Nat} (d : decode b pc = .ok (.if_icmp .ge off, 3)) (ht : (pc : Int) + off = (tgt : Int)) (h : ¬ c ≤ a) (kk : pq_U X Y nL (pc + 3) L ws k n st) : pq_U X Y nL pc L ws k n (.int c :: .int a :: st) := fun ls H locs hl hP hD hS => lv_icmp_ge hB.1 hB.2.1 d ht (fun z => absurd z h) (fun _ => kk ls H locs hl hP hD hS)
theorem u_obj {rf rl mc ms idx : Nat} {Wc : (Nat → Nat) → va_W} {a : Nat} (hB : pq_B X b nL own) (hR : pq_RI X Y rf rl mc ms Wc) (h1 : Cond.methodLink own idx Lib.objectInit ∈ pq_G) (h2 : Cond.instanceMethod Lib.objectInit ∈ pq_G) (h3 : Cond.code Lib.objectInit ⟨#[0xb1]⟩ 1 none ∈ pq_G) (hf : 1 ≤ rf) (hr : (st.map fun v => v.category).sum + 12 ≤ rl) (d : decode b pc = .ok (.invokespecial idx, 3)) (kk : pq_U X Y nL (pc + 3) L ws k n st) : pq_U X Y nL pc L ws k n (.ref a :: st) := fun ls H locs hl hP hD hS => W.objInit hB.1 hB.2.1 hB.2.2.2.1 (hB.2.2.2.2 _ h1) (hB.2.2.2.2 _ h2) (hB.2.2.2.2 _ h3) rfl (hl.1.trans hB.2.2.1.symm) rfl d (by rw [hR.1]; exact hf) (by rw [hR.1]; show 2 * 0 + _ + 12 ≤ rl; omega) (kk ls H locs hl hP hD hS)
theorem u_new {rf rl mc ms idx ci N : Nat} {Wc : (Nat → Nat) → va_W} {C : String} {T : u_T} (fs : List Value) (ty : Nat → FieldType) (hB : pq_B X b nL own) (hK : pq_KI X Y) (hR : pq_RI X Y rf rl mc ms Wc) (hc : Y.2.1[ci]? = some (C, T, N)) (hin : ∀ w ∈ u_ws C T N, w ∈ pq_G) (hty : ∀ k, k < N → parseFieldDescriptor (T k).2.2.1 = some (ty k)) (h1 : Cond.classLink own idx C ∈ pq_G) (h2 : Cond.instantiable C N ∈ pq_G) (h3 : Cond.initialized C ∈ pq_G) (hfs : ∀ j, j < N → defaultValue (ty j) = vp_V fs j) (hcell : k + 1 ≤ mc) (hslot : n + N ≤ ms) (d : decode b pc = .ok (.new idx, 3)) (kk : ∀ q, pq_U X Y nL (pc + 3) L (ws ++ [(q, .inr (ci, fs))]) (k + 1) (n + N) (.ref q :: st)) : pq_U X Y nL pc L ws k n st := fun ls H locs hl hP hD hS => va_new hB.1 hB.2.1 hB.2.2.2.2 hin ty hty hB.2.2.2.1 (hB.2.2.2.2 _ h1) (hB.2.2.2.2 _ h2) (hB.2.2.2.2 _ h3) hK.1 hP hD hS hK.2.2.1 hc hfs (by rw [hR.1]; exact hcell) (by rw [hR.1]; exact hslot) d (fun q H1 hP1 hD1 hS1 => kk q ls H1 locs hl hP1 hD1 hS1)
theorem va_RA.int {U : State} {c1 c2 : ClassId} (h1 : va_RA U c1 .int) (h2 : va_RA U c2 .int) : c1 = c2 := Option.some.inj (h1.symm.trans h2)
theorem va_RA.long {U : State} {c1 c2 : ClassId} (h1 : va_RA U c1 .long) (h2 : va_RA U c2 .long) : c1 = c2 := Option.some.inj (h1.symm.trans h2)
theorem u_newi {rf rl mc ms t0 : Nat} {cA : ClassId} {Wc : (Nat → Nat) → va_W} (hB : pq_B X b nL own) (hK : pq_KI X Y) (hR : pq_RI X Y rf rl mc ms Wc) (hca : Y.2.2[t0]? = some (cA, .int)) (h1 : Cond.arrayClass .int ∈ pq_G) {c : Int32} (N : Nat) (hn : ¬ c < 0) (hN : c.toNatClampNeg = N) (hb : N * 4 ≤ 536870912) (hcell : k + 1 ≤ mc) (hslot : n + N ≤ ms) (d : decode b pc = .ok (.newarray .int, 2)) (kk : ∀ q, pq_U X Y nL (pc + 2) L (ws ++ [(q, .inl (cA, N, .inl (fun _ => 0)))]) (k + 1) (n + N) (.ref q :: st)) : pq_U X Y nL pc L ws k n (.int c :: st) := fun ls H locs hl hP hD hS => va_newa (atype := .int) (ty := .int) (a0 := (N, .inl (fun _ => 0))) hB.1 hB.2.1 (hB.2.2.2.2 _ h1) rfl hK.1 hP hD hS hK.2.2.1 (fun cA => rfl) hn hN hb (by rw [hR.1]; exact hcell) (by rw [hR.1]; exact hslot) d (fun q cB H1 hK1 hP1 hD1 hS1 => by
  have e : cB = cA := va_RA.int (hK1.2 Y.2.2.length (cB, .int) (by simp)).2 (hK.1.2 t0 _ hca).2
  subst e
  exact kk q ls H1 locs hl hP1 hD1 hS1)
theorem u_newl {rf rl mc ms t0 : Nat} {cA : ClassId} {Wc : (Nat → Nat) → va_W} (hB : pq_B X b nL own) (hK : pq_KI X Y) (hR : pq_RI X Y rf rl mc ms Wc) (hca : Y.2.2[t0]? = some (cA, .long)) (h1 : Cond.arrayClass .long ∈ pq_G) {c : Int32} (N : Nat) (hn : ¬ c < 0) (hN : c.toNatClampNeg = N) (hb : N * 8 ≤ 536870912) (hcell : k + 1 ≤ mc) (hslot : n + N ≤ ms) (d : decode b pc = .ok (.newarray .long, 2)) (kk : ∀ q, pq_U X Y nL (pc + 2) L (ws ++ [(q, .inl (cA, N, .inr (.inl (fun _ => 0))))]) (k + 1) (n + N) (.ref q :: st)) : pq_U X Y nL pc L ws k n (.int c :: st) := fun ls H locs hl hP hD hS => va_newa (atype := .long) (ty := .long) (a0 := (N, .inr (.inl (fun _ => 0)))) hB.1 hB.2.1 (hB.2.2.2.2 _ h1) rfl hK.1 hP hD hS hK.2.2.1 (fun cA => rfl) hn hN hb (by rw [hR.1]; exact hcell) (by rw [hR.1]; exact hslot) d (fun q cB H1 hK1 hP1 hD1 hS1 => by
  have e : cB = cA := va_RA.long (hK1.2 Y.2.2.length (cB, .long) (by simp)).2 (hK.1.2 t0 _ hca).2
  subst e
  exact kk q ls H1 locs hl hP1 hD1 hS1)
theorem u_newq {rf rl mc ms t0 idx : Nat} {cA : ClassId} {Wc : (Nat → Nat) → va_W} (hB : pq_B X b nL own) (hK : pq_KI X Y) (hR : pq_RI X Y rf rl mc ms Wc) (hca : Y.2.2[t0]? = some (cA, .object "FormsAboveNought$Form")) (h1 : Cond.classLink own idx "FormsAboveNought$Form" ∈ pq_G) {c : Int32} (N : Nat) (hn : ¬ c < 0) (hN : c.toNatClampNeg = N) (hb : N * 4 ≤ 536870912) (hcell : k + 1 ≤ mc) (hslot : n + N ≤ ms) (d : decode b pc = .ok (.anewarray idx, 3)) (kk : ∀ q, pq_U X Y nL (pc + 3) L (ws ++ [(q, .inl (cA, N, .inr (.inr (.inr (.inr (fun _ => none))))))]) (k + 1) (n + N) (.ref q :: st)) : pq_U X Y nL pc L ws k n (.int c :: st) := fun ls H locs hl hP hD hS => va_newq hB.1 hB.2.1 hB.2.2.2.1 (hB.2.2.2.2 _ h1) hK.2.2.2.2.1 hK.1 hP hD hS hK.2.2.1 hn hN hb (by rw [hR.1]; exact hcell) (by rw [hR.1]; exact hslot) d (fun q cB H1 hK1 hP1 hD1 hS1 => by
  have e : cB = cA := by
    obtain ⟨-, -, -, -, -, h4⟩ := (hK1.2 Y.2.2.length (cB, .object "FormsAboveNought$Form") (by simp)).2
    obtain ⟨-, -, -, -, -, g4⟩ := (hK.1.2 t0 _ hca).2
    exact Option.some.inj (h4.symm.trans g4)
  subst e
  exact kk q ls H1 locs hl hP1 hD1 hS1)
/-- what stands in the first cell, its k-th field a final one -/
theorem u_putF {rf rl mc ms idx ci f : Nat} {Wc : (Nat → Nat) → va_W} {q0 : Nat} {fs : List Value} {B : va_W} {v : Value} {ty : FieldType} {C : String} {T : u_T} {N : Nat} (ty0 : Nat → FieldType) (hB : pq_B X b nL own) (hK : pq_KI X Y) (hR : pq_RI X Y rf rl mc ms Wc) (hc : Y.2.1[ci]? = some (C, T, N)) (hf : f < N) (hl1 : Cond.fieldLink own idx (T f).1 (T f).2.1 (T f).2.2.1 ∈ pq_G) (hin : ∀ w ∈ u_ws C T N, w ∈ pq_G) (hty : ∀ k, k < N → parseFieldDescriptor (T k).2.2.1 = some (ty0 k)) (hnm : ∀ a, a < N → ∀ b, b < N → a ≠ b → (T a).2.1 ≠ (T b).2.1) (hfin : (T f).2.2.2 = true) (hdec : (T f).1 = own) (he : ty0 f = ty) (hn : narrow ty v = v) (hfit : fits ty v = true) (hfl : f < fs.length) (d : decode b pc = .ok (.putfield idx, 3)) (kk : pq_U X Y nL (pc + 3) L ((q0, .inr (ci, fs.set f v)) :: B) k n st) : pq_U X Y nL pc L ((q0, .inr (ci, fs)) :: B) k n (v :: .ref q0 :: st) := fun ls H locs hl hP hD hS => va_putF hB.1 hB.2.1 hB.2.2.2.2 hin ty0 hty hnm hB.2.2.2.1 hK.1 hP hD hS 0 rfl hc f hf (hB.2.2.2.2 _ hl1) (fun _ z => z) hfin hR.2.2.2.1 hdec (ty := ty) (by rw [hty f hf, he]) hn hfit hfl d (fun H1 locs1 hP1 hD1 hS1 => kk ls H1 locs1 hl hP1 hD1 hS1)
theorem u_put {rf rl mc ms idx ci f : Nat} {Wc : (Nat → Nat) → va_W} {q0 : Nat} {fs : List Value} {B : va_W} {v : Value} {ty : FieldType} {C : String} {T : u_T} {N : Nat} (ty0 : Nat → FieldType) (hB : pq_B X b nL own) (hK : pq_KI X Y) (hR : pq_RI X Y rf rl mc ms Wc) (hc : Y.2.1[ci]? = some (C, T, N)) (hf : f < N) (hl1 : Cond.fieldLink own idx (T f).1 (T f).2.1 (T f).2.2.1 ∈ pq_G) (hin : ∀ w ∈ u_ws C T N, w ∈ pq_G) (hty : ∀ k, k < N → parseFieldDescriptor (T k).2.2.1 = some (ty0 k)) (hnm : ∀ a, a < N → ∀ b, b < N → a ≠ b → (T a).2.1 ≠ (T b).2.1) (hfin : (T f).2.2.2 = false) (he : ty0 f = ty) (hn : narrow ty v = v) (hfit : fits ty v = true) (hfl : f < fs.length) (d : decode b pc = .ok (.putfield idx, 3)) (kk : pq_U X Y nL (pc + 3) L ((q0, .inr (ci, fs.set f v)) :: B) k n st) : pq_U X Y nL pc L ((q0, .inr (ci, fs)) :: B) k n (v :: .ref q0 :: st) := fun ls H locs hl hP hD hS => va_put hB.1 hB.2.1 hB.2.2.2.2 hin ty0 hty hnm hB.2.2.2.1 hK.1 hP hD hS 0 rfl hc f hf (hB.2.2.2.2 _ hl1) (fun _ z => z) hfin (ty := ty) (by rw [hty f hf, he]) hn hfit hfl d (fun H1 locs1 hP1 hD1 hS1 => kk ls H1 locs1 hl hP1 hD1 hS1)
theorem u_get {idx ci f : Nat} {q0 : Nat} {fs : List Value} {B : va_W} {v : Value} {C : String} {T : u_T} {N : Nat} (hB : pq_B X b nL own) (hK : pq_KI X Y) (hc : Y.2.1[ci]? = some (C, T, N)) (hf : f < N) (hl1 : Cond.fieldLink own idx (T f).1 (T f).2.1 (T f).2.2.1 ∈ pq_G) (hin : ∀ w ∈ u_ws C T N, w ∈ pq_G) (hv : fs[f]? = some v) (d : decode b pc = .ok (.getfield idx, 3)) (kk : pq_U X Y nL (pc + 3) L ((q0, .inr (ci, fs)) :: B) k n (v :: st)) : pq_U X Y nL pc L ((q0, .inr (ci, fs)) :: B) k n (.ref q0 :: st) := fun ls H locs hl hP hD hS => va_get hB.1 hB.2.1 hB.2.2.2.2 hin hB.2.2.2.1 hK.1 hP 0 rfl hc f hf (hB.2.2.2.2 _ hl1) (fun _ z => z) hv d (kk ls H locs hl hP hD hS)
theorem u_iast {t0 a : Nat} (p : Nat) {cA : ClassId} {N : Nat} {f : Nat → Int32} {i v : Int32} (hB : pq_B X b nL own) (hK : pq_KI X Y) (hca : Y.2.2[t0]? = some (cA, .int)) (hp : ws[p]? = some (a, .inl (cA, N, .inl f))) (hi : vp_in i N) (d : decode b pc = .ok (.iastore, 1)) (kk : pq_U X Y nL (pc + 1) L (ws.set p (a, .inl (cA, N, .inl (upd f i.toNatClampNeg v)))) k n st) : pq_U X Y nL pc L ws k n (.int v :: .int i :: .ref a :: st) := fun ls H locs hl hP hD hS => va_iast hB.1 hB.2.1 hK.1 hP hD hS p t0 hp hca hi d (fun H1 locs1 hP1 hD1 hS1 => kk ls H1 locs1 hl hP1 hD1 hS1)
theorem u_astq {t0 a v ci : Nat} (p pv : Nat) {cA : ClassId} {r : vw_C} {N : Nat} {f : Nat → Option Nat} {vs : List Value} {i : Int32} (hB : pq_B X b nL own) (hK : pq_KI X Y) (hca : Y.2.2[t0]? = some (cA, .object r.1)) (hp : ws[p]? = some (a, .inl (cA, N, .inr (.inr (.inr (.inr f)))))) (hv : ws[pv]? = some (v, .inr (ci, vs))) (hc : Y.2.1[ci]? = some r) (hi : vp_in i N) (d : decode b pc = .ok (.aastore, 1)) (kk : pq_U X Y nL (pc + 1) L (ws.set p (a, .inl (cA, N, .inr (.inr (.inr (.inr (va_up f i.toNatClampNeg (some v)))))))) k n st) : pq_U X Y nL pc L ws k n (.ref v :: .int i :: .ref a :: st) := fun ls H locs hl hP hD hS => va_astq hB.1 hB.2.1 hK.1 hP hD hS p t0 pv ci hp hca hv hc hi d (fun H1 locs1 hP1 hD1 hS1 => kk ls H1 locs1 hl hP1 hD1 hS1)
/-- a part of the world, in another order -/
theorem u_sub {ws' : va_W} (is : List Nat) (h1 : is.filterMap (fun i => ws[i]?) = ws') (h2 : va_nd is = true) (h3 : is.map (fun i => ws[i]?) = ws'.map some) (kk : pq_U X Y nL pc L ws' k n st) : pq_U X Y nL pc L ws k n st := fun ls H locs hl hP hD hS => kk ls H locs hl (hP.sub is h1) (hD.sub is h2 h3) hS
theorem u_eq {ws' : va_W} (h1 : ws = ws') (kk : pq_U X Y nL pc L ws' k n st) : pq_U X Y nL pc L ws k n st := h1 ▸ kk
/-- the constructor of the last cell -/
theorem u_join {D : va_G} {cl : List vw_C} {A0 : Nat → Prop} {pre : va_W} {q : Nat} {e : va_E} {w1 : va_W} {H H1 : Heap} {H0 : Heap} {locs : List Loc} (hP : va_P D cl (pre ++ [(q, e)]) H) (hD : va_D A0 (pre ++ [(q, e)])) (hS : va_S A0 H0 H locs) (hA : ∀ q, H0.size ≤ q → A0 q) (hk : ∀ x : Nat, x < H.size → ¬ va_A [(q, e)] H.size x → H1[x]? = H[x]?) (hP1 : va_P D cl w1 H1) (hD1 : va_D (va_A [(q, e)] H.size) w1) : va_P D cl (pre ++ w1) H1 ∧ va_D A0 (pre ++ w1) := by
  have hC : [pre.length].map (fun i => (pre ++ [(q, e)])[i]?) = [(q, e)].map some := by simp
  have hRr : (List.range pre.length).map (fun i => (pre ++ [(q, e)])[i]?) = pre.map some := by
    apply List.ext_getElem?
    intro i
    rw [List.getElem?_map, List.getElem?_map]
    by_cases hi : i < pre.length
    · rw [List.getElem?_range hi, List.getElem?_eq_getElem hi]
      simp [List.getElem?_append_left hi, List.getElem?_eq_getElem hi]
    · rw [List.getElem?_eq_none (by simpa using hi), List.getElem?_eq_none (by omega)]
      rfl
  have hnd : ∀ m, va_nd (List.range' m pre.length) = true := by
    generalize pre.length = z
    induction z with
    | zero => intro m; rfl
    | succ z ih =>
      intro m
      rw [List.range'_succ]
      simp only [va_nd, Bool.and_eq_true, decide_eq_true_eq]
      exact ⟨fun h => by have := (List.mem_range'_1.mp h).1; omega, ih (m + 1)⟩
  exact va_join (wr := pre) (w1 := w1) hP hD [pre.length] (List.range pre.length) hC hRr (by rw [List.range_eq_range']; exact hnd 0) (fun i hi h => by have := List.mem_range.mp hi; have := List.mem_singleton.mp h; omega) hk (va_free hD hS hA [pre.length] hC) hP1 hD1
theorem u_free {A0 : Nat → Prop} {pre : va_W} {q : Nat} {e : va_E} {H H0 : Heap} {locs : List Loc} (hD : va_D A0 (pre ++ [(q, e)])) (hS : va_S A0 H0 H locs) (hA : ∀ q, H0.size ≤ q → A0 q) : ∀ x, va_A [(q, e)] H.size x → A0 x := va_free hD hS hA [pre.length] (by simp)
theorem u_callG {y : MethodName} {bb : ByteArray} {nn idx rf rl mc ms RF RL MC MS : Nat} {Wc W0 : (Nat → Nat) → va_W} {q : Nat} {e : va_E} {pre : va_W} (hK : pq_KI X Y) (hrun : ∀ (ls : Array Slot) (H : Heap) (locs : List Loc), lv_has ls nL L → va_P Y.1 Y.2.1 (pre ++ [(q, e)]) H → va_D X.2.2.2.1 (pre ++ [(q, e)]) → va_S X.2.2.2.1 X.2.2.2.2 H locs → va_Run X.1.1 X.1.2.1 X.1.2.2.1 X.1.2.2.2.1 X.1.2.2.2.2 X.2.1.1 X.2.1.2.1 X.2.1.2.2.1 X.2.1.2.2.2.1 X.2.1.2.2.2.2.1 H locs k n mc ms (F0 X.2.1.1 pc ls (.ref q :: st)) st (pq_Q2 Y (va_A [(q, e)] H.size) Wc #[Value.ref q]) (va_A [(q, e)] H.size)) (kk : ∀ a, pq_U X Y nL (pc + 3) L (pre ++ Wc a) (k + mc) (n + ms) st) : pq_U X Y nL pc L (pre ++ [(q, e)]) k n (.ref q :: st) := by
  intro ls H locs hl hP hD hS T hT Xs
  obtain ⟨v, st₀, t, T', L1, h0, X', hL, e1, e2, ⟨⟨hv, a, hP1, hD1⟩, hz, hk⟩, hst⟩ := hrun ls H locs hl hP hD hS T hT Xs
  cases hv
  rw [h0] at hz hk
  have hfr := u_free hD hS hK.2.2.1
  obtain ⟨hP2, hD2⟩ := u_join (H1 := T'.heap) hP hD hS hK.2.2.1 (fun x h1 h2 => by rw [e1]; exact hk x h1 h2) (by rw [e1]; exact hP1) hD1
  obtain ⟨t2, a1, b1⟩ := kk a ls T'.heap (locs ++ L1) hl hP2 hD2 ⟨Nat.le_trans hS.1 (by rw [e1]; exact hz), fun x h1 h2 => by rw [e1, hk x (Nat.lt_of_lt_of_le h1 hS.1) (fun z => h2 (hfr x z))]; exact hS.2.1 x h1 h2, fun x hx => by
      rcases List.mem_append.mp hx with h | h
      · exact hS.2.2 x h
      · exact hfr _ (hL x h)⟩ T' rfl X'
  exact ⟨t2, hst t2 a1, b1⟩
theorem u_pre {q : Nat} {e : va_E} {pre : va_W} {H : Heap} {locs : List Loc} (hK : pq_KI X Y) (hP : va_P Y.1 Y.2.1 (pre ++ [(q, e)]) H) (U : State) (hU : U.heap = H) (hW : X.1.2.2.2.2.WarmedH U.vm) : va_Pc [.ref q] (fun U => U.heap.size = H.size ∧ va_P Y.1 Y.2.1 [(q, e)] U.heap ∧ va_K Y.1 Y.2.1 Y.2.2 U ∧ envI U) (Value.ref q :: []).toArray U := ⟨rfl, by rw [hU], by rw [hU]; exact hP.sub [pre.length] (by simp), va_K.moved hW.alike hK.1, envI.warm hW hK.2.2.2⟩
theorem u_blind {q : Nat} {e : va_E} {sz : Nat} : FrameBlind (va_Pc [.ref q] (fun U => U.heap.size = sz ∧ va_P Y.1 Y.2.1 [(q, e)] U.heap ∧ va_K Y.1 Y.2.1 Y.2.2 U ∧ envI U)) := fun a U g mk z => ⟨z.1, z.2.1, z.2.2.1, va_K.moved (u := U) (U := U.calling g mk a) (Vm.Alike.refl U.vm) z.2.2.2.1, envI.warm (s := U) (State.WarmedH.refl U) z.2.2.2.2⟩
theorem u_call {y : MethodName} {bb : ByteArray} {nn idx rf rl mc ms RF RL MC MS : Nat} {Wc W0 : (Nat → Nat) → va_W} {q : Nat} {e : va_E} {pre : va_W} (hB : pq_B X b nL own) (hK : pq_KI X Y) (hR : pq_RI X Y RF RL MC MS W0) (lk : pq_LB y bb nn none 0) (hn : y.name = "<init>") (lv : Cond.methodLink own idx y ∈ pq_G ∧ Cond.instanceMethod y ∈ pq_G) (hM : pq_N Y X.1.2.1 y bb nn rf rl mc ms q e Wc) (d : decode b pc = .ok (.invokespecial idx, 3)) (hW : (st.map fun v => v.category).sum ≤ 8) (hr : rf + 1 ≤ RF) (hr2 : 8 + (nn + 11) + rl ≤ RL) (hc : k + mc ≤ MC) (hs : n + ms ≤ MS) (kk : ∀ a, pq_U X Y nL (pc + 3) L (pre ++ Wc a) (k + mc) (n + ms) st) : pq_U X Y nL pc L (pre ++ [(q, e)]) k n (.ref q :: st) := by
  refine u_callG (y := y) (bb := bb) (nn := nn) (idx := idx) (rf := rf) (rl := rl) (RF := RF) (RL := RL) (MC := MC) (MS := MS) (W0 := W0) hK (fun ls H locs hl hP hD hS => ?_) kk
  have hB2 : pq_Rm0 X RF RL := ⟨by rw [hR.1]; exact Nat.le_refl _, by rw [hR.1]; exact Nat.le_refl _⟩
  obtain ⟨l1, l2, l3, l4, l5⟩ := lk
  exact va_runI (As := []) (rest := st) ⟨hB.1, hB.2.1, hB.2.2.1, hB.2.2.2.1, hB.2.2.2.2⟩ (hM H.size) ⟨callB_of (Ts := pq_G) (ws' := pq_G) 0 hB.2.2.2.2 (pq_goodIn l2 (fun w hw => hw)) rfl rfl rfl (hB.2.2.2.2 _ l1) (hB.2.2.2.2 _ lv.1) ⟨l3, l4, l5⟩ ⟨Nat.le_trans hr hB2.1, Nat.le_trans hr2 hB2.2⟩, hn, hB.2.2.2.2 _ lv.2⟩ ⟨u_blind, fun U hU hW2 => u_pre (locs := locs) hK hP U hU hW2⟩ rfl rfl hl.1 rfl (lv_room hW) d ⟨by rw [hR.1]; exact hc, by rw [hR.1]; exact hs⟩
theorem u_callN {y : MethodName} {bb : ByteArray} {nn idx rf rl mc ms RF RL MC MS : Nat} {host : String} {Wc W0 : (Nat → Nat) → va_W} {q : Nat} {e : va_E} {pre : va_W} (hB : pq_B X b nL own) (hK : pq_KI X Y) (hR : pq_RI X Y RF RL MC MS W0) (lk : pq_LB y bb nn none 0) (hn : y.name = "<init>") (hN : va_Nw (Cond.methodLinkNest own idx y host) X.1.2.2.2.2) (lv : Cond.instanceMethod y ∈ pq_G) (hM : pq_N Y X.1.2.1 y bb nn rf rl mc ms q e Wc) (d : decode b pc = .ok (.invokespecial idx, 3)) (hW : (st.map fun v => v.category).sum ≤ 8) (hr : rf + 1 ≤ RF) (hr2 : 8 + (nn + 11) + rl ≤ RL) (hc : k + mc ≤ MC) (hs : n + ms ≤ MS) (kk : ∀ a, pq_U X Y nL (pc + 3) L (pre ++ Wc a) (k + mc) (n + ms) st) : pq_U X Y nL pc L (pre ++ [(q, e)]) k n (.ref q :: st) := by
  refine u_callG (y := y) (bb := bb) (nn := nn) (idx := idx) (rf := rf) (rl := rl) (RF := RF) (RL := RL) (MC := MC) (MS := MS) (W0 := W0) hK (fun ls H locs hl hP hD hS => ?_) kk
  have hB2 : pq_Rm0 X RF RL := ⟨by rw [hR.1]; exact Nat.le_refl _, by rw [hR.1]; exact Nat.le_refl _⟩
  have lk2 := lk
  obtain ⟨l1, l2, l3, l4, l5⟩ := lk
  refine va_runIN (host := host) (As := []) (rest := st) ⟨hB.1, hB.2.1, hB.2.2.1, hB.2.2.2.1, hB.2.2.2.2⟩ (hM H.size) ⟨⟨⟨rfl, rfl, Nat.le_trans hr hB2.1, Nat.le_trans hr2 hB2.2, pay_in hB.2.2.2.2 (pq_goodIn l2 (fun w hw => hw)), List.mem_cons_self⟩, hB.2.2.2.2 _ l2, hB.2.2.2.2 _ l1, ⟨l3, l4⟩, fun sig hs2 => ?_, va_Nw.use rfl hN⟩, hn, hB.2.2.2.2 _ lv⟩ ⟨u_blind, fun U hU hW2 => u_pre (locs := locs) hK hP U hU hW2⟩ rfl rfl hl.1 rfl (lv_room hW) d ⟨by rw [hR.1]; exact hc, by rw [hR.1]; exact hs⟩
  rw [hs2] at l5
  exact (Option.some.inj l5).symm
theorem u_vret {rf rl mc ms : Nat} {Wc : (Nat → Nat) → va_W} (a : Nat → Nat) (hB : pq_B X b nL own) (hK : pq_KI X Y) (hR : pq_RI X Y rf rl mc ms Wc) (hw : ws = Wc a) (hc : k ≤ mc) (hs : n ≤ ms) (d : decode b pc = .ok (.return_, 1)) : pq_U X Y nL pc L ws k n [] := fun ls H locs hl hP hD hS => by
  refine W.widen hc hs ?_
  obtain ⟨-, h2, h3, -, h5⟩ := hR
  rw [h5]
  have hS1 := hS
  rw [hK.2.1] at hS1
  subst hw
  exact W.vret hB.1 hB.2.1 h2 (fun t ht hW => ⟨⟨rfl, a, by rw [ht]; exact hP, hD⟩, hS1.F ht⟩) hS.2.2 d h3
theorem u_mna {rf rl mc ms idx t0 : Nat} {cA cy : ClassId} {ty : FieldType} {z : vp_A} {Wc : (Nat → Nat) → va_W} (N K : Nat) (hB : pq_B X b nL own) (hK : pq_KI X Y) (hR : pq_RI X Y rf rl mc ms Wc) (hca : Y.2.2[t0]? = some (cA, .array ty)) (hcy : X.1.2.2.2.2.vm.findClass (FieldType.array ty).toString = some cy) (hov : va_AOA ty X.1.2.2.2.2) (h1 : Cond.classLink own idx ("[" ++ (FieldType.array ty).toString) ∈ pq_G) (h2 : Cond.arrayClass ty ∈ pq_G) {c1 c2 : Int32} (hn : ¬ c1 < 0) (hk : ¬ c2 < 0) (hN : c1.toNatClampNeg = N) (hM : c2.toNatClampNeg = K) (hb1 : N * 4 ≤ 536870912) (hb2 : K * componentBytes ty ≤ 536870912) (hb3 : K ≤ 536870912) (hdf : fits ty (defaultValue ty) = true) (hdd : (defaultValue ty).isDefault = true) (hz : ∀ c : ClassId, Jvm.Free.Multi.innerC c K (defaultValue ty) = vp_cell c z) (hcell : k + (1 + N) ≤ mc) (hslot : n + (N + N * K) ≤ ms) (hnA : ∀ (U : State) (c1 c2 : ClassId), va_RA U c1 (.array ty) → va_RA U c2 (.array ty) → c1 = c2) (d : decode b pc = .ok (.multianewarray idx 2, 4)) (kk : ∀ (q : Nat) (r : Nat → Nat), pq_U X Y nL (pc + 4) L ((ws ++ [(q, .inl (cA, N, .inr (.inr (.inr (.inr (fun i => if i < N then some (r i) else none))))))]) ++ (List.range N).map (fun i => (r i, .inl (cy, z)))) (k + 1 + N) (n + N + N * K) (.ref q :: st)) : pq_U X Y nL pc L ws k n (.int c2 :: .int c1 :: st) := fun ls H locs hl hP hD hS => by
  have e0 : ws ++ va_pl [] (fun _ => (.inl (cy, z) : va_E)) = ws := by simp [va_pl]
  refine va_mna (X := ws) (L := []) (f := fun _ => .inl (cy, z)) (N' := N) (K' := K) (z := z) (cy := cy) hB.1 hB.2.1 hB.2.2.2.1 (hB.2.2.2.2 _ h1) hov (hB.2.2.2.2 _ h2) hcy hK.1 (by rw [e0]; exact hP) (by rw [e0]; exact hD) hS hK.2.2.1 hn hk hN hM hb1 hb2 hb3 hdf hdd (by rw [hR.1]; exact hcell) (by rw [hR.1]; exact hslot) hz d (fun q r cB H1 _ _ hK1 hP1 hD1 hS1 => ?_)
  have e : cB = cA := hnA _ _ _ (hK1.2 Y.2.2.length (cB, .array ty) (by simp)).2 (hK.1.2 t0 _ hca).2
  subst e
  have e1 : va_pl ([] ++ (List.range N).map r) (vr_up (fun _ => (.inl (cy, z) : va_E)) ((List.range N).map r) (.inl (cy, z))) = (List.range N).map (fun i => (r i, .inl (cy, z))) := by
    unfold va_pl
    rw [List.nil_append, List.map_map]
    apply List.map_congr_left
    intro i _
    show (r i, vr_up _ _ _ (r i)) = _
    unfold vr_up
    split <;> rfl
  rw [e1] at hP1 hD1
  exact kk q r ls H1 locs hl hP1 hD1 hS1
/-- the same rows for a world whose first cells stand in view, the rest T is not looked into -/
theorem h_new {x : Nat × va_E} {T' : va_W} {rf rl mc ms idx ci N : Nat} {Wc : (Nat → Nat) → va_W} {C : String} {T : u_T} (fs : List Value) (ty : Nat → FieldType) (hB : pq_B X b nL own) (hK : pq_KI X Y) (hR : pq_RI X Y rf rl mc ms Wc) (hc : Y.2.1[ci]? = some (C, T, N)) (hin : ∀ w ∈ u_ws C T N, w ∈ pq_G) (hty : ∀ k, k < N → parseFieldDescriptor (T k).2.2.1 = some (ty k)) (h1 : Cond.classLink own idx C ∈ pq_G) (h2 : Cond.instantiable C N ∈ pq_G) (h3 : Cond.initialized C ∈ pq_G) (hfs : ∀ j, j < N → defaultValue (ty j) = vp_V fs j) (hcell : k + 1 ≤ mc) (hslot : n + N ≤ ms) (d : decode b pc = .ok (.new idx, 3)) (kk : ∀ q, pq_U X Y nL (pc + 3) L (x :: (T' ++ [(q, .inr (ci, fs))])) (k + 1) (n + N) (.ref q :: st)) : pq_U X Y nL pc L (x :: T') k n st := u_new (ws := x :: T') fs ty hB hK hR hc hin hty h1 h2 h3 hfs hcell hslot d kk
theorem h_newi {x : Nat × va_E} {T' : va_W} {rf rl mc ms t0 : Nat} {cA : ClassId} {Wc : (Nat → Nat) → va_W} (hB : pq_B X b nL own) (hK : pq_KI X Y) (hR : pq_RI X Y rf rl mc ms Wc) (hca : Y.2.2[t0]? = some (cA, .int)) (h1 : Cond.arrayClass .int ∈ pq_G) {c : Int32} (N : Nat) (hn : ¬ c < 0) (hN : c.toNatClampNeg = N) (hb : N * 4 ≤ 536870912) (hcell : k + 1 ≤ mc) (hslot : n + N ≤ ms) (d : decode b pc = .ok (.newarray .int, 2)) (kk : ∀ q, pq_U X Y nL (pc + 2) L (x :: (T' ++ [(q, .inl (cA, N, .inl (fun _ => 0)))])) (k + 1) (n + N) (.ref q :: st)) : pq_U X Y nL pc L (x :: T') k n (.int c :: st) := u_newi (ws := x :: T') hB hK hR hca h1 N hn hN hb hcell hslot d kk
theorem h_newl {x : Nat × va_E} {T' : va_W} {rf rl mc ms t0 : Nat} {cA : ClassId} {Wc : (Nat → Nat) → va_W} (hB : pq_B X b nL own) (hK : pq_KI X Y) (hR : pq_RI X Y rf rl mc ms Wc) (hca : Y.2.2[t0]? = some (cA, .long)) (h1 : Cond.arrayClass .long ∈ pq_G) {c : Int32} (N : Nat) (hn : ¬ c < 0) (hN : c.toNatClampNeg = N) (hb : N * 8 ≤ 536870912) (hcell : k + 1 ≤ mc) (hslot : n + N ≤ ms) (d : decode b pc = .ok (.newarray .long, 2)) (kk : ∀ q, pq_U X Y nL (pc + 2) L (x :: (T' ++ [(q, .inl (cA, N, .inr (.inl (fun _ => 0))))])) (k + 1) (n + N) (.ref q :: st)) : pq_U X Y nL pc L (x :: T') k n (.int c :: st) := u_newl (ws := x :: T') hB hK hR hca h1 N hn hN hb hcell hslot d kk
theorem h_newq {x : Nat × va_E} {T' : va_W} {rf rl mc ms t0 idx : Nat} {cA : ClassId} {Wc : (Nat → Nat) → va_W} (hB : pq_B X b nL own) (hK : pq_KI X Y) (hR : pq_RI X Y rf rl mc ms Wc) (hca : Y.2.2[t0]? = some (cA, .object "FormsAboveNought$Form")) (h1 : Cond.classLink own idx "FormsAboveNought$Form" ∈ pq_G) {c : Int32} (N : Nat) (hn : ¬ c < 0) (hN : c.toNatClampNeg = N) (hb : N * 4 ≤ 536870912) (hcell : k + 1 ≤ mc) (hslot : n + N ≤ ms) (d : decode b pc = .ok (.anewarray idx, 3)) (kk : ∀ q, pq_U X Y nL (pc + 3) L (x :: (T' ++ [(q, .inl (cA, N, .inr (.inr (.inr (.inr (fun _ => none))))))])) (k + 1) (n + N) (.ref q :: st)) : pq_U X Y nL pc L (x :: T') k n (.int c :: st) := u_newq (ws := x :: T') hB hK hR hca h1 N hn hN hb hcell hslot d kk
theorem h_mna {x : Nat × va_E} {T' : va_W} {rf rl mc ms idx t0 : Nat} {cA cy : ClassId} {ty : FieldType} {z : vp_A} {Wc : (Nat → Nat) → va_W} (N K : Nat) (hB : pq_B X b nL own) (hK : pq_KI X Y) (hR : pq_RI X Y rf rl mc ms Wc) (hca : Y.2.2[t0]? = some (cA, .array ty)) (hcy : X.1.2.2.2.2.vm.findClass (FieldType.array ty).toString = some cy) (hov : va_AOA ty X.1.2.2.2.2) (h1 : Cond.classLink own idx ("[" ++ (FieldType.array ty).toString) ∈ pq_G) (h2 : Cond.arrayClass ty ∈ pq_G) {c1 c2 : Int32} (hn : ¬ c1 < 0) (hk : ¬ c2 < 0) (hN : c1.toNatClampNeg = N) (hM : c2.toNatClampNeg = K) (hb1 : N * 4 ≤ 536870912) (hb2 : K * componentBytes ty ≤ 536870912) (hb3 : K ≤ 536870912) (hdf : fits ty (defaultValue ty) = true) (hdd : (defaultValue ty).isDefault = true) (hz : ∀ c : ClassId, Jvm.Free.Multi.innerC c K (defaultValue ty) = vp_cell c z) (hcell : k + (1 + N) ≤ mc) (hslot : n + (N + N * K) ≤ ms) (hnA : ∀ (U : State) (c1 c2 : ClassId), va_RA U c1 (.array ty) → va_RA U c2 (.array ty) → c1 = c2) (d : decode b pc = .ok (.multianewarray idx 2, 4)) (kk : ∀ (q : Nat) (r : Nat → Nat), pq_U X Y nL (pc + 4) L (x :: ((T' ++ [(q, .inl (cA, N, .inr (.inr (.inr (.inr (fun i => if i < N then some (r i) else none))))))]) ++ (List.range N).map (fun i => (r i, .inl (cy, z))))) (k + 1 + N) (n + N + N * K) (.ref q :: st)) : pq_U X Y nL pc L (x :: T') k n (.int c2 :: .int c1 :: st) := u_mna (ws := x :: T') N K hB hK hR hca hcy hov h1 h2 hn hk hN hM hb1 hb2 hb3 hdf hdd hz hcell hslot hnA d kk
theorem h_callN {x : Nat × va_E} {T' : va_W} {y : MethodName} {bb : ByteArray} {nn idx rf rl mc ms RF RL MC MS : Nat} {host : String} {Wc W0 : (Nat → Nat) → va_W} {q : Nat} {e : va_E} (hB : pq_B X b nL own) (hK : pq_KI X Y) (hR : pq_RI X Y RF RL MC MS W0) (lk : pq_LB y bb nn none 0) (hn : y.name = "<init>") (hN : va_Nw (Cond.methodLinkNest own idx y host) X.1.2.2.2.2) (lv : Cond.instanceMethod y ∈ pq_G) (hM : pq_N Y X.1.2.1 y bb nn rf rl mc ms q e Wc) (d : decode b pc = .ok (.invokespecial idx, 3)) (hW : (st.map fun v => v.category).sum ≤ 8) (hr : rf + 1 ≤ RF) (hr2 : 8 + (nn + 11) + rl ≤ RL) (hc : k + mc ≤ MC) (hs : n + ms ≤ MS) (kk : ∀ a, pq_U X Y nL (pc + 3) L (x :: (T' ++ Wc a)) (k + mc) (n + ms) st) : pq_U X Y nL pc L (x :: (T' ++ [(q, e)])) k n (.ref q :: st) := u_callN (pre := x :: T') hB hK hR lk hn hN lv hM d hW hr hr2 hc hs kk
theorem h_call {x : Nat × va_E} {T' : va_W} {y : MethodName} {bb : ByteArray} {nn idx rf rl mc ms RF RL MC MS : Nat} {Wc W0 : (Nat → Nat) → va_W} {q : Nat} {e : va_E} (hB : pq_B X b nL own) (hK : pq_KI X Y) (hR : pq_RI X Y RF RL MC MS W0) (lk : pq_LB y bb nn none 0) (hn : y.name = "<init>") (lv : Cond.methodLink own idx y ∈ pq_G ∧ Cond.instanceMethod y ∈ pq_G) (hM : pq_N Y X.1.2.1 y bb nn rf rl mc ms q e Wc) (d : decode b pc = .ok (.invokespecial idx, 3)) (hW : (st.map fun v => v.category).sum ≤ 8) (hr : rf + 1 ≤ RF) (hr2 : 8 + (nn + 11) + rl ≤ RL) (hc : k + mc ≤ MC) (hs : n + ms ≤ MS) (kk : ∀ a, pq_U X Y nL (pc + 3) L (x :: (T' ++ Wc a)) (k + mc) (n + ms) st) : pq_U X Y nL pc L (x :: (T' ++ [(q, e)])) k n (.ref q :: st) := u_call (pre := x :: T') hB hK hR lk hn lv hM d hW hr hr2 hc hs kk
theorem h_iast {x : Nat × va_E} {T' : va_W} {t0 a : Nat} {cA : ClassId} {N : Nat} {f : Nat → Int32} {i v : Int32} (hB : pq_B X b nL own) (hK : pq_KI X Y) (hca : Y.2.2[t0]? = some (cA, .int)) (hi : vp_in i N) (d : decode b pc = .ok (.iastore, 1)) (kk : pq_U X Y nL (pc + 1) L (x :: (T' ++ [(a, .inl (cA, N, .inl (upd f i.toNatClampNeg v)))])) k n st) : pq_U X Y nL pc L (x :: (T' ++ [(a, .inl (cA, N, .inl f))])) k n (.int v :: .int i :: .ref a :: st) := by
  refine u_iast (t0 := t0) (cA := cA) (N := N) (f := f) (T'.length + 1) hB hK hca (by simp) hi d ?_
  have e : (x :: (T' ++ [(a, (.inl (cA, N, .inl f) : va_E))])).set (T'.length + 1) (a, .inl (cA, N, .inl (upd f i.toNatClampNeg v))) = x :: (T' ++ [(a, .inl (cA, N, .inl (upd f i.toNatClampNeg v)))]) := by simp [List.set_append]
  rw [e]
  exact kk
/-- a new object into the second, the third cell, an array of references -/
theorem h_ast1 {x z : Nat × va_E} {T' Rr Wv : va_W} {t0 a v ci : Nat} {cA : ClassId} {r : vw_C} {N : Nat} {f : Nat → Option Nat} {vs : List Value} {i : Int32} (hB : pq_B X b nL own) (hK : pq_KI X Y) (hca : Y.2.2[t0]? = some (cA, .object r.1)) (hw : Wv = (v, .inr (ci, vs)) :: Rr) (hc : Y.2.1[ci]? = some r) (hi : vp_in i N) (d : decode b pc = .ok (.aastore, 1)) (kk : pq_U X Y nL (pc + 1) L (x :: (a, .inl (cA, N, .inr (.inr (.inr (.inr (va_up f i.toNatClampNeg (some v))))))) :: z :: (T' ++ Wv)) k n st) : pq_U X Y nL pc L (x :: (a, .inl (cA, N, .inr (.inr (.inr (.inr f))))) :: z :: (T' ++ Wv)) k n (.ref v :: .int i :: .ref a :: st) := by
  subst hw
  exact u_astq (t0 := t0) (r := r) (vs := vs) 1 (T'.length + 3) hB hK hca rfl (by simp) hc hi d kk
theorem h_ast2 {x y : Nat × va_E} {T' Rr Wv : va_W} {t0 a v ci : Nat} {cA : ClassId} {r : vw_C} {N : Nat} {f : Nat → Option Nat} {vs : List Value} {i : Int32} (hB : pq_B X b nL own) (hK : pq_KI X Y) (hca : Y.2.2[t0]? = some (cA, .object r.1)) (hw : Wv = (v, .inr (ci, vs)) :: Rr) (hc : Y.2.1[ci]? = some r) (hi : vp_in i N) (d : decode b pc = .ok (.aastore, 1)) (kk : pq_U X Y nL (pc + 1) L (x :: y :: (a, .inl (cA, N, .inr (.inr (.inr (.inr (va_up f i.toNatClampNeg (some v))))))) :: (T' ++ Wv)) k n st) : pq_U X Y nL pc L (x :: y :: (a, .inl (cA, N, .inr (.inr (.inr (.inr f))))) :: (T' ++ Wv)) k n (.ref v :: .int i :: .ref a :: st) := by
  subst hw
  exact u_astq (t0 := t0) (r := r) (vs := vs) 2 (T'.length + 3) hB hK hca rfl (by simp) hc hi d kk
theorem h3_new {x y z : Nat × va_E} {T' : va_W} {rf rl mc ms idx ci N : Nat} {Wc : (Nat → Nat) → va_W} {C : String} {T : u_T} (fs : List Value) (ty : Nat → FieldType) (hB : pq_B X b nL own) (hK : pq_KI X Y) (hR : pq_RI X Y rf rl mc ms Wc) (hc : Y.2.1[ci]? = some (C, T, N)) (hin : ∀ w ∈ u_ws C T N, w ∈ pq_G) (hty : ∀ k, k < N → parseFieldDescriptor (T k).2.2.1 = some (ty k)) (h1 : Cond.classLink own idx C ∈ pq_G) (h2 : Cond.instantiable C N ∈ pq_G) (h3 : Cond.initialized C ∈ pq_G) (hfs : ∀ j, j < N → defaultValue (ty j) = vp_V fs j) (hcell : k + 1 ≤ mc) (hslot : n + N ≤ ms) (d : decode b pc = .ok (.new idx, 3)) (kk : ∀ q, pq_U X Y nL (pc + 3) L (x :: y :: z :: (T' ++ [(q, .inr (ci, fs))])) (k + 1) (n + N) (.ref q :: st)) : pq_U X Y nL pc L (x :: y :: z :: T') k n st := u_new (ws := x :: y :: z :: T') fs ty hB hK hR hc hin hty h1 h2 h3 hfs hcell hslot d kk
theorem h3_callN {x y' z : Nat × va_E} {T' : va_W} {y : MethodName} {bb : ByteArray} {nn idx rf rl mc ms RF RL MC MS : Nat} {host : String} {Wc W0 : (Nat → Nat) → va_W} {q : Nat} {e : va_E} (hB : pq_B X b nL own) (hK : pq_KI X Y) (hR : pq_RI X Y RF RL MC MS W0) (lk : pq_LB y bb nn none 0) (hn : y.name = "<init>") (hN : va_Nw (Cond.methodLinkNest own idx y host) X.1.2.2.2.2) (lv : Cond.instanceMethod y ∈ pq_G) (hM : pq_N Y X.1.2.1 y bb nn rf rl mc ms q e Wc) (d : decode b pc = .ok (.invokespecial idx, 3)) (hW : (st.map fun v => v.category).sum ≤ 8) (hr : rf + 1 ≤ RF) (hr2 : 8 + (nn + 11) + rl ≤ RL) (hc : k + mc ≤ MC) (hs : n + ms ≤ MS) (kk : ∀ a, pq_U X Y nL (pc + 3) L (x :: y' :: z :: (T' ++ Wc a)) (k + mc) (n + ms) st) : pq_U X Y nL pc L (x :: y' :: z :: (T' ++ [(q, e)])) k n (.ref q :: st) := u_callN (pre := x :: y' :: z :: T') hB hK hR lk hn hN lv hM d hW hr hr2 hc hs kk
end UU
