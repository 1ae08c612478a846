section ENV
variable {X : pq_X} {g : pq_g} {α : Type} {res : α} {nL pc : Nat} {L : List (Nat × Value)} {st : List Value} {h : pq_H} {F : Option α} {b : ByteArray} {own : String}
set_option maxRecDepth 8000 in
theorem k_kind : Cond.fieldLink RX10 313 "FormsAboveNought" "KIND_ABOVE" "[I" ∈ pq_G := pq_t3 98 rfl rfl
theorem v_gets (hB : pq_B X b nL RX10) (hK : pq_K X (SC g)) (d : decode b pc = .ok (.getstatic 313, 3)) (kk : V X (SC g) res nL (pc + 3) L (.ref g.2.2.2.1 :: st) h F) : V X (SC g) res nL pc L st h F := fun e ls H locs hl hP hS => by
  have hS1 := hS
  rw [hK.2.2.1] at hS1
  exact va_gets hB.1 hB.2.1 (envC_kind hK.2.2.2.1) hS1 hB.2.2.2.1 (hB.2.2.2.2 _ k_kind) (fun _ z => z) d (kk e ls H locs hl hP hS)
theorem v_kA (hB : pq_B X b nL own) (hK : pq_K X (SC g)) {i : Int32} (d : decode b pc = .ok (.iaload, 1)) (kk : V X (SC g) res nL (pc + 1) L (.int (kA i.toNatClampNeg) :: st) h F) : V X (SC g) res nL pc L (.int i :: .ref g.2.2.2.1 :: st) h (gd (inb i 6) F) := fun e ls H locs hl hP hS => by
  obtain ⟨c1, c2⟩ := gd_some e
  have hS1 := hS
  rw [hK.2.2.1] at hS1
  exact va_ti hB.1 hB.2.1 (envC_row hK.2.2.2.1) hS1 (inb_in c1) (v := .int (kA i.toNatClampNeg)) rfl d (kk c2 ls H locs hl hP hS)
theorem pq_updq (r : Nat → Option Nat) (ad : Nat → Nat) (k q : Nat) : updV (fun j => va_rf ((r j).map ad)) k (.ref (ad q)) = fun j => va_rf ((va_up r k (some q) j).map ad) := funext fun t => by
  by_cases ht : t = k
  · subst ht
    simp [updV, va_up, va_rf]
  · simp [updV, va_up, ht]
theorem aR72_eq (g : pq_g) (i : Nat → Int32) (j : Nat → Int64) (r : Nat → Option Nat) : (SC g).1.2.2 72 i j r = .inl (g.2.2.1 4, 28, .inr (.inr (.inr (.inr (fun t => (r t).map g.1))))) := rfl
theorem v_ast72 (hB : pq_B X b nL own) (hK : pq_K X (SC g)) {i : Int32} {q : Nat} (q1 : 24 ≤ q) (q2 : q < 52) (d : decode b pc = .ok (.aastore, 1)) (kk : V X (SC g) res nL (pc + 1) L st (wR h 72 i.toNatClampNeg (some q)) F) : V X (SC g) res nL pc L (.ref ((SC g).1.2.1 q) :: .int i :: .ref ((SC g).1.2.1 72) :: st) h (gd (inb i 28) F) := fun e ls H locs hl hP hS => by
  obtain ⟨c1, c2⟩ := gd_some e
  have hin := inb_in c1
  have hlt := inb_lt c1
  have h0 : ¬ i < 0 := fun z => hin (Or.inl z)
  have ha : (pq_W (SC g) h)[72]? = some ((SC g).1.2.1 72, .inl (g.2.2.1 4, 28, .inr (.inr (.inr (.inr (fun t => ((h.2.2 72) t).map g.1)))))) := pq_get (show 72 < 83 by decide) (aR72_eq g _ _ _)
  have hv : (pq_W (SC g) h)[q]? = some ((SC g).1.2.1 q, .inl (g.2.2.1 1, 4, .inr (.inl (h.2.1 q)))) := pq_get (show q < 83 by omega) (cC_mrow g q1 q2 _ _ _)
  have hcA : H[(SC g).1.2.1 72]? = some (vp_cell (g.2.2.1 4) (28, .inr (.inr (.inr (.inr (fun t => ((h.2.2 72) t).map g.1)))))) := hP 72 _ ha
  have hcV : H[(SC g).1.2.1 q]? = some (vp_cell (g.2.2.1 1) (4, .inr (.inl (h.2.1 q)))) := hP q _ hv
  have hsz : (vp_cell (g.2.2.1 4) (28, .inr (.inr (.inr (.inr (fun t => ((h.2.2 72) t).map g.1)))))).slots.size = 28 := by rw [vp_cell_q, arrV_size]
  obtain ⟨kA, kv, k1, k2, k3⟩ := envC_jj hK.2.2.2.1
  refine W.aast hB.1 hB.2.1 hcA (fun q z => by cases z) (fun z => by cases z) k1 k2 rfl k3 ⟨h0, by rw [hsz]; exact hlt⟩ hcV (fun q z => by cases z) k3 (va_asg _ _) rfl rfl d fun H1 e1 z oq => ?_
  refine kk c2 ls H1 _ hl ?_ (hS.put z oq ((hK.2.1 h).2 72 _ ha))
  have e2 : va_P (SC g).2.1.1 (SC g).2.1.2.1 ((pq_W (SC g) h).set 72 ((SC g).1.2.1 72, .inl (g.2.2.1 4, 28, .inr (.inr (.inr (.inr (fun t => ((va_up (h.2.2 72) i.toNatClampNeg (some q)) t).map g.1))))))) H1 := by
    refine hP.set (hK.2.1 h) ha ?_ oq
    show H1[_]? = some (vp_cell _ _)
    rw [e1, vp_cell_q, vp_cell_q, arrV_store]
    exact congrArg some (congrArg (arrV (g.2.2.1 4) 28) (pq_updq (h.2.2 72) g.1 i.toNatClampNeg q))
  rw [pq_setR (S := SC g) (p := 72) (E := fun i j r => .inl (g.2.2.1 4, 28, .inr (.inr (.inr (.inr (fun t => (r t).map g.1)))))) (show 72 < 83 by decide) (fun i j r => aR72_eq g i j r)] at e2
  exact e2
end ENV
def f_X0_textOf (p0 : Int32) : Nat := if p0 = 0 then 0 else if p0 = 1 then 1 else if p0 = 2 then 2 else if p0 = 3 then 3 else 4
theorem lt_textOf (p0 : Int32) : f_X0_textOf p0 < 5 := by
  unfold f_X0_textOf
  split <;> (try split) <;> (try split) <;> (try split) <;> decide
set_option maxRecDepth 8000 in
theorem ls_X0_53 : Cond.methodLink RX0 53 yJ0_length_8abf5 ∈ pq_G := pq_t2 140 rfl rfl
set_option maxRecDepth 8000 in
theorem ls_X3_27 : Cond.methodLink RX3 27 yJ0_length_8abf5 ∈ pq_G := pq_t2 154 rfl rfl
set_option maxRecDepth 8000 in
theorem ls_X3_33 : Cond.methodLink RX3 33 yJ0_charAt_5068e ∈ pq_G := pq_t2 155 rfl rfl
