/-! the cells that the constructors make, as sides of numbers -/
def prC : Nat → Nat := fun p => ([6, 10, 14, 18, 22, 26, 8, 12, 16, 20, 24, 28, 7, 11, 15, 19, 23, 27, 9, 13, 17, 21, 25, 29, 42, 43, 44, 45, 46, 47, 48, 49, 50, 51, 52, 53, 54, 55, 56, 57, 58, 59, 60, 61, 62, 63, 64, 65, 66, 67, 68, 69, 78, 79, 80, 0, 1, 2, 3, 4, 5, 30, 31, 32, 33, 34, 35, 36, 37, 38, 39, 40, 41, 70, 71, 72, 73, 74, 75, 76, 77, 81, 82] : List Nat).getD p 0
def adC (q : Nat) (a : Nat → Nat) : Nat → Nat := fun p => if prC p = 0 then q else a (prC p - 1)
def hC0 : pq_H := (fun p => if p = 56 then (fun k => if k = 4 then -1 else 0) else if p = 81 then upd (upd (upd (fun _ => 0) 0 (-1)) 1 (-1)) 2 (-1) else fun _ => 0, fun _ _ => 0, fun p => if p = 72 then (fun t => if t < 28 then some (24 + t) else none) else fun _ => none)
theorem w_conv {ws ws' : va_W} {N : Nat} {pr : Nat → Nat} {f : Nat → Nat × va_E} (h0 : ws' = (List.range N).map f) (h : ∀ p, p < N → ws[pr p]? = some (f p)) (hn : va_nd ((List.range N).map pr) = true) {D : va_G} {cl : List vw_C} {H : Heap} {A : Nat → Prop} (hP : va_P D cl ws H) (hD : va_D A ws) : va_P D cl ws' H ∧ va_D A ws' := by
  have h3 : ((List.range N).map pr).map (fun i => ws[i]?) = ws'.map some := by
    rw [h0, List.map_map, List.map_map]
    exact List.map_congr_left (fun p hp => h p (List.mem_range.mp hp))
  have h1 : ((List.range N).map pr).filterMap (fun i => ws[i]?) = ws' := by
    have e : ((List.range N).map pr).filterMap (fun i => ws[i]?) = (((List.range N).map pr).map (fun i => ws[i]?)).filterMap id := by
      simp only [List.filterMap_map, Function.comp_def, id]
    rw [e, h3, List.filterMap_map]
    exact List.filterMap_some
  exact ⟨hP.sub _ h1, hD.sub _ hn h3⟩
theorem w_up6 {A : Nat → Nat} {a0 a1 a2 a3 a4 a5 : Nat} (h : A 0 = a0 ∧ A 1 = a1 ∧ A 2 = a2 ∧ A 3 = a3 ∧ A 4 = a4 ∧ A 5 = a5) : va_up (va_up (va_up (va_up (va_up (va_up (fun _ => none) 0 (some a0)) 1 (some a1)) 2 (some a2)) 3 (some a3)) 4 (some a4)) 5 (some a5) = fun t => if t < 6 then some (A t) else none := by
  obtain ⟨rfl, rfl, rfl, rfl, rfl, rfl⟩ := h
  funext t
  match t with
  | 0 => rfl
  | 1 => rfl
  | 2 => rfl
  | 3 => rfl
  | 4 => rfl
  | 5 => rfl
  | n + 6 =>
    rw [if_neg (by omega)]
    unfold va_up
    simp
theorem w_row {N : Nat} {u v : Nat → Nat} (h : ∀ t, t < N → u t = v t) : (fun t => if t < N then some (u t) else none) = fun t => if t < N then some (v t) else none := funext fun t => by
  by_cases ht : t < N
  · rw [if_pos ht, if_pos ht, h t ht]
  · rw [if_neg ht, if_neg ht]
theorem w_rowm {N : Nat} {u v A : Nat → Nat} (h : ∀ t, t < N → u t = A (v t)) : (fun t => if t < N then some (u t) else none) = fun t => (if t < N then some (v t) else none : Option Nat).map A := funext fun t => by
  by_cases ht : t < N
  · rw [if_pos ht, if_pos ht, h t ht]; rfl
  · rw [if_neg ht, if_neg ht]; rfl
set_option maxRecDepth 20000 in
set_option maxHeartbeats 4000000 in
theorem wk_C (g : pq_g) (q : Nat) (a : Nat → Nat) : ∀ p, p < 83 → (W_X10 g q a)[prC p]? = some (adC q a p, cellC (adC q a, g.2) p (hC0.1 p) (hC0.2.1 p) (hC0.2.2 p)) := fun p hp => match p, hp with
  | 0, _ => rfl
  | 1, _ => rfl
  | 2, _ => rfl
  | 3, _ => rfl
  | 4, _ => rfl
  | 5, _ => rfl
  | 6, _ => rfl
  | 7, _ => rfl
  | 8, _ => rfl
  | 9, _ => rfl
  | 10, _ => rfl
  | 11, _ => rfl
  | 12, _ => rfl
  | 13, _ => rfl
  | 14, _ => rfl
  | 15, _ => rfl
  | 16, _ => rfl
  | 17, _ => rfl
  | 18, _ => rfl
  | 19, _ => rfl
  | 20, _ => rfl
  | 21, _ => rfl
  | 22, _ => rfl
  | 23, _ => rfl
  | 24, _ => rfl
  | 25, _ => rfl
  | 26, _ => rfl
  | 27, _ => rfl
  | 28, _ => rfl
  | 29, _ => rfl
  | 30, _ => rfl
  | 31, _ => rfl
  | 32, _ => rfl
  | 33, _ => rfl
  | 34, _ => rfl
  | 35, _ => rfl
  | 36, _ => rfl
  | 37, _ => rfl
  | 38, _ => rfl
  | 39, _ => rfl
  | 40, _ => rfl
  | 41, _ => rfl
  | 42, _ => rfl
  | 43, _ => rfl
  | 44, _ => rfl
  | 45, _ => rfl
  | 46, _ => rfl
  | 47, _ => rfl
  | 48, _ => rfl
  | 49, _ => rfl
  | 50, _ => rfl
  | 51, _ => rfl
  | 52, _ => rfl
  | 53, _ => rfl
  | 54, _ => rfl
  | 55, _ => rfl
  | 56, _ => rfl
  | 57, _ => by
    refine congrArg some (Prod.ext rfl ?_)
    exact congrArg (fun f => (.inl (g.2.2.1 2, 6, .inr (.inr (.inr (.inr f)))) : va_E)) (w_up6 (A := adC q a) ⟨rfl, rfl, rfl, rfl, rfl, rfl⟩)
  | 58, _ => by
    refine congrArg some (Prod.ext rfl ?_)
    exact congrArg (fun f => (.inl (g.2.2.1 2, 6, .inr (.inr (.inr (.inr f)))) : va_E)) (w_up6 (A := fun t => adC q a (6 + t)) ⟨rfl, rfl, rfl, rfl, rfl, rfl⟩)
  | 59, _ => rfl
  | 60, _ => rfl
  | 61, _ => rfl
  | 62, _ => rfl
  | 63, _ => rfl
  | 64, _ => rfl
  | 65, _ => rfl
  | 66, _ => rfl
  | 67, _ => rfl
  | 68, _ => rfl
  | 69, _ => rfl
  | 70, _ => rfl
  | 71, _ => rfl
  | 72, _ => by
    refine congrArg some (Prod.ext rfl ?_)
    exact congrArg (fun f => (.inl (g.2.2.1 4, 28, .inr (.inr (.inr (.inr f)))) : va_E)) (w_rowm (A := adC q a) (v := fun t => 24 + t) (fun t ht => match t, ht with | 0, _ => rfl | 1, _ => rfl | 2, _ => rfl | 3, _ => rfl | 4, _ => rfl | 5, _ => rfl | 6, _ => rfl | 7, _ => rfl | 8, _ => rfl | 9, _ => rfl | 10, _ => rfl | 11, _ => rfl | 12, _ => rfl | 13, _ => rfl | 14, _ => rfl | 15, _ => rfl | 16, _ => rfl | 17, _ => rfl | 18, _ => rfl | 19, _ => rfl | 20, _ => rfl | 21, _ => rfl | 22, _ => rfl | 23, _ => rfl | 24, _ => rfl | 25, _ => rfl | 26, _ => rfl | 27, _ => rfl | n + 28, h => absurd h (by omega)))
  | 73, _ => rfl
  | 74, _ => rfl
  | 75, _ => rfl
  | 76, _ => rfl
  | 77, _ => rfl
  | 78, _ => rfl
  | 79, _ => rfl
  | 80, _ => by
    refine congrArg some (Prod.ext rfl ?_)
    exact congrArg (fun f => (.inl (g.2.2.1 3, 3, .inr (.inr (.inr (.inr f)))) : va_E)) (w_row (v := fun t => adC q a (52 + t)) (fun t ht => match t, ht with | 0, _ => rfl | 1, _ => rfl | 2, _ => rfl | n + 3, h => absurd h (by omega)))
  | 81, _ => rfl
  | 82, _ => rfl
  | n + 83, h => absurd h (by omega)
set_option maxRecDepth 20000 in
theorem w_C {g : pq_g} {q : Nat} {a : Nat → Nat} {D : va_G} {cl : List vw_C} {H : Heap} {A : Nat → Prop} (hP : va_P D cl (W_X10 g q a) H) (hD : va_D A (W_X10 g q a)) : va_P D cl (pq_W (SC (adC q a, g.2)) hC0) H ∧ va_D A (pq_W (SC (adC q a, g.2)) hC0) := w_conv (N := 83) (pr := prC) rfl (wk_C g q a) (by decide +kernel) hP hD
