section LIFT
variable {hC hM : pq_H}
def Wt (W : Nat → Nat → Int64) (t : Nat) : Int64 := W (skT t).1 (skT t).2
theorem Wt_eq {W : Nat → Nat → Int64} {s k : Nat} (hk : k ≤ s) : Wt W (tri s + k) = W s k := by
  unfold Wt
  rw [skT_eq hk]
theorem WC.t {h : pq_H} {D t : Nat} {W : Nat → Nat → Int64} (hW : WC h D W) (ht : t < tri (D + 1)) : rJ h 60 t = Wt W t := by
  obtain ⟨s, k, a, b, rfl⟩ := tri_exD ht
  rw [Wt_eq b]
  exact hW.2 s k a b
theorem WM.t {h : pq_H} {D t : Nat} {W : Nat → Nat → Int64} (hW : WM h D W) (ht : t < tri (D + 1)) : rJ h 15 t = Wt W t := by
  obtain ⟨s, k, a, b, rfl⟩ := tri_exD ht
  rw [Wt_eq b]
  exact hW.2 s k a b
/-- the first number below N at which g holds; -9 -/
def fstN (g : Nat → Bool) (N : Nat) (r : Int32) : Prop := (∃ d, d < N ∧ g d = true ∧ (∀ j, j < d → g j = false) ∧ r = nI d) ∨ ((∀ d, d < N → g d = false) ∧ r = -9)
theorem fstN_eq {g : Nat → Bool} {N : Nat} {r r' : Int32} (h : fstN g N r) (h' : fstN g N r') : r = r' := by
  rcases h with ⟨d, a2, a3, a4, a5⟩ | ⟨a1, a2⟩ <;> rcases h' with ⟨e, b2, b3, b4, b5⟩ | ⟨b1, b2⟩
  · rcases Nat.lt_trichotomy d e with z | z | z
    · rw [b4 d z] at a3; cases a3
    · subst z; rw [a5, b5]
    · rw [a4 e z] at b3; cases b3
  · rw [b1 d a2] at a3; cases a3
  · rw [a1 e b2] at b3; cases b3
  · rw [a2, b2]
theorem nI_ne9 {d : Nat} (h : d < 100000) : ¬ nI d = -9 := fun e => by
  have := nI_pos (n := d) (by omega)
  rw [e] at this
  exact this (by decide)
theorem fstN_none {g : Nat → Bool} {N : Nat} {r : Int32} (hN : N < 100000) (h : fstN g N r) : (r = -9 ∧ allB (fun i => !g i) N = true) ∨ (¬ r = -9 ∧ 0 ≤ r ∧ allB (fun i => !g i) N = false) := by
  rcases h with ⟨d, a2, a3, a4, a5⟩ | ⟨a1, a2⟩
  · right
    rw [a5]
    exact ⟨nI_ne9 (by omega), nI_pos' (by omega), allB_f a2 (by rw [a3]; rfl)⟩
  · left
    refine ⟨a2, ?_⟩
    clear a2 hN
    induction N with
    | zero => rfl
    | succ N ih =>
      rw [allB_s, ih (fun d hd => a1 d (by omega)), a1 N (by omega)]
      rfl
/-- how many of a side's terms are ahead of t -/
def CN (g D t c : Nat) : Prop := c ≤ plc g D ∧ (∀ p, p < c → num g D p < t) ∧ ∀ p, c ≤ p → p < plc g D → t ≤ num g D p
theorem CN_0 (g D : Nat) : CN g D 0 0 := ⟨Nat.zero_le _, fun p hp => by omega, fun p _ _ => Nat.zero_le _⟩
theorem CN_on {g D s k c : Nat} (h1 : 1 ≤ g) (h2 : g ≤ 7) (hs : s ≤ D) (hk : k ≤ s) (ho : onS g D s k = true) (h : CN g D (tri s + k) c) : c < plc g D ∧ num g D c = tri s + k ∧ CN g D (tri s + k + 1) (c + 1) := by
  obtain ⟨a1, a2, a3⟩ := h
  obtain ⟨p, hp, e⟩ := on_num h1 h2 hs hk ho
  have hcp : c ≤ p := by
    by_cases z : c ≤ p
    · exact z
    · have := a2 p (by omega); omega
  have hc : c < plc g D := by omega
  have e2 : num g D c = tri s + k := by
    have b1 := a3 c (Nat.le_refl _) hc
    by_cases z : c = p
    · rw [z, e]
    · have b2 := num_mono h1 h2 (show c < p by omega) hp
      omega
  refine ⟨hc, e2, hc, fun q hq => ?_, fun q hq hq2 => ?_⟩
  · by_cases z : q = c
    · rw [z, e2]; omega
    · have := a2 q (by omega); omega
  · have := num_mono h1 h2 (show c < q by omega) hq2
    omega
theorem CN_off {g D s k c : Nat} (h1 : 1 ≤ g) (h2 : g ≤ 7) (hk : k ≤ s) (ho : ¬ onS g D s k = true) (h : CN g D (tri s + k) c) : CN g D (tri s + k + 1) c := by
  obtain ⟨a1, a2, a3⟩ := h
  refine ⟨a1, fun p hp => by have := a2 p hp; omega, fun p hp hp2 => ?_⟩
  have b := a3 p hp hp2
  by_cases z : num g D p = tri s + k
  · obtain ⟨s', k', c1, c2, c3, c4⟩ := num_at h1 h2 hp2
    obtain ⟨e1, e2⟩ := tri_inj c2 hk (c3.symm.trans z)
    rw [e1, e2] at c4
    exact absurd c4 ho
  · omega
theorem CN_end {g D c : Nat} (h1 : 1 ≤ g) (h2 : g ≤ 7) (h : CN g D (tri (D + 1)) c) : c = plc g D := by
  obtain ⟨a1, a2, a3⟩ := h
  by_cases z : c = plc g D
  · exact z
  · have := a3 c (Nat.le_refl _) (by omega)
    have := num_lt h1 h2 (show c < plc g D by omega)
    omega
theorem among_ok {h : pq_H} {g D p : Nat} {W : Nat → Nat → Int64} (h1 : 1 ≤ g) (h2 : g ≤ 7) (hD : D ≤ 18) (hW : WC h D W) (hp : p < plc g D) : f_X9_among (nI g) (nI p) h = some (Wt W (num g D p)) := by
  have hb : tri (D + 1) ≤ 190 := tri_mono (show D + 1 ≤ 19 by omega)
  have hn := num_lt h1 h2 hp
  unfold f_X9_among
  rw [hW.1, number_ok h1 h2 (by omega) hp, inbN (by omega) (by decide), gd_t, nI_clamp (by omega), hW.t hn]
def ffP (g D : Nat) (W : Nat → Nat → Int64) (q : Int32) (p : Nat) : Bool := f_X10_fails (Wt W (num g D p)) q
theorem firstC_ok {h : pq_H} {g D : Nat} {W : Nat → Nat → Int64} (h1 : 1 ≤ g) (h2 : g ≤ 7) (hD : D ≤ 18) (hW : WC h D W) (q : Int32) : ok (f_X9_firstFault (nI g) q h) (fstN (ffP g D W q) (plc g D)) := by
  have hb : tri (D + 1) ≤ 190 := tri_mono (show D + 1 ≤ 19 by omega)
  have hp := plc_le (g := g) (n := D)
  unfold f_X9_firstFault
  refine lp_forR (fun i => ∀ j, j < i → ffP g D W q j = false) (plc g D) ?_ ?_ 1000 0 (by omega) (by omega) (fun j hj => by omega)
  · intro i w hi hI hw
    unfold f_X9_firstFault_l2
    rw [hW.1, places_ok h1 h2 (by omega), if_neg (nI_ge hi (by omega)), among_ok h1 h2 hD hW hi, Option.bind_some, nI_1]
    by_cases z : f_X10_fails (Wt W (num g D i)) q = true
    · rw [if_pos z]
      exact ok_some (Or.inl ⟨i, hi, z, hI, rfl⟩)
    · rw [if_neg z]
      refine hw (fun j hj => ?_)
      by_cases e : j = i
      · subst e; exact Bool.eq_false_iff.mpr z
      · exact hI j (by omega)
  · intro w hI
    unfold f_X9_firstFault_l2
    rw [hW.1, places_ok h1 h2 (by omega), if_pos (le_nIn (Nat.le_refl _) (by omega))]
    exact ok_some (Or.inr ⟨hI, rfl⟩)
theorem firstM_ok {h : pq_H} {g D : Nat} {W : Nat → Nat → Int64} (h1 : 1 ≤ g) (h2 : g ≤ 7) (hD : D ≤ 18) (hW : WM h D W) (q : Int32) : ok (f_X11_firstFault (nI g) q h) (fstN (ffP g D W q) (plc g D)) := by
  have hb : tri (D + 1) ≤ 190 := tri_mono (show D + 1 ≤ 19 by omega)
  have hp := plc_le (g := g) (n := D)
  unfold f_X11_firstFault
  refine lp_forA (fun i x => ∃ c, x = nI c ∧ CN g D i c ∧ ∀ j, j < c → ffP g D W q j = false) (tri (D + 1)) ?_ ?_ 1000 0 0 (by omega) (by omega) ⟨0, rfl, CN_0 g D, fun j hj => by omega⟩
  · intro i x w hi ⟨c, hx, hc, hI⟩ hw
    subst hx
    obtain ⟨s, k, hs, hk, e⟩ := tri_exD hi
    have e2 : rJ h 15 i = W s k := by rw [e]; exact hW.2 s k hs hk
    have e3 : ffP g D W q c = f_X10_fails (Wt W (num g D c)) q := rfl
    unfold f_X11_firstFault_l5 f_X11_firstFault_j66 f_X11_firstFault_j69
    rw [hW.1, termsOfM_nI (by omega), if_neg (nI_ge hi (by omega)), e, isOn_ok h2 hD hs hk, Option.bind_some, ← e, inbN (show i < 190 by omega) (by decide), gd_t, gd_t, nI_clamp (by omega), e2, nI_1, nI_1]
    by_cases o : onS g D s k = true
    · rw [if_pos o]
      rw [e] at hc
      obtain ⟨a1, a2, a3⟩ := CN_on h1 h2 hs hk o hc
      rw [← e] at a3
      rw [a2, Wt_eq hk] at e3
      have key : ∀ b : Bool, b = f_X10_fails (W s k) q → (b = false → ok (w (nI (c + 1)) (nI (i + 1))) (fstN (ffP g D W q) (plc g D))) ∧ (b = true → ok (some (nI c)) (fstN (ffP g D W q) (plc g D))) := by
        intro b hb
        refine ⟨fun z => hw _ ⟨c + 1, rfl, a3, fun j hj => ?_⟩, fun z => ok_some (Or.inl ⟨c, a1, by rw [e3, ← hb, z], hI, rfl⟩)⟩
        by_cases ej : j = c
        · subst ej; rw [e3, ← hb, z]
        · exact hI j (by omega)
      have ef : f_X10_fails (W s k) q = if q = 0 then (if 0 ≤ W s k then false else true) else (if 0 < W s k then false else true) := rfl
      by_cases hq : q = 0
      · rw [if_pos hq]
        rw [if_pos hq] at ef
        by_cases z : 0 ≤ W s k
        · rw [if_pos z]; rw [if_pos z] at ef; exact (key false ef.symm).1 rfl
        · rw [if_neg z]; rw [if_neg z] at ef; exact (key true ef.symm).2 rfl
      · rw [if_neg hq]
        rw [if_neg hq] at ef
        by_cases z : 0 < W s k
        · rw [if_pos z]; rw [if_pos z] at ef; exact (key false ef.symm).1 rfl
        · rw [if_neg z]; rw [if_neg z] at ef; exact (key true ef.symm).2 rfl
    · rw [if_neg o]
      rw [e] at hc
      have a3 := CN_off h1 h2 hk o hc
      rw [← e] at a3
      exact hw _ ⟨c, rfl, a3, hI⟩
  · intro x w ⟨c, hx, hc, hI⟩
    unfold f_X11_firstFault_l5
    rw [hW.1, termsOfM_nI (by omega), if_pos (le_nIn (Nat.le_refl _) (by omega))]
    rw [CN_end h1 h2 hc] at hI
    exact ok_some (Or.inr ⟨hI, rfl⟩)
theorem side_cases (p : Int32) : (f_X10_isSide p = false ∧ f_X11_isSide p = false) ∨ ∃ g, 1 ≤ g ∧ g ≤ 7 ∧ p = nI g ∧ f_X10_isSide p = true ∧ f_X11_isSide p = true := by
  have e : f_X11_isSide p = f_X10_isSide p := rfl
  rw [e]
  unfold f_X10_isSide
  by_cases q1 : p < 1
  · rw [if_pos q1]; exact Or.inl ⟨rfl, rfl⟩
  rw [if_neg q1]
  by_cases q2 : 7 < p
  · rw [if_pos q2]; exact Or.inl ⟨rfl, rfl⟩
  rw [if_neg q2]
  right
  have a := Int32.le_iff_toInt_le.mp (Int32.not_lt.mp q1)
  rw [show (1 : Int32).toInt = 1 from rfl] at a
  obtain ⟨g, hg, rfl⟩ := nI_of2 (M := 7) (n := 7) rfl (x := p) (fun z => by
    have b := Int32.lt_iff_toInt_lt.mp z
    rw [show (0 : Int32).toInt = 0 from rfl] at b
    omega) (Int32.not_lt.mp q2)
  rw [nI_toInt (by omega)] at a
  exact ⟨g, by omega, hg, rfl, rfl, rfl⟩
theorem workOn_ok {h : pq_H} {f g : Nat} {F : pF} (hF : FormC h f F) (hk : okF F) (hf : f < 6) (h1 : 1 ≤ g) (h2 : g ≤ 7) : ok (f_X10_workOn (nI f) (nI g) h) (fun h' => frC h h' ∧ WC h' F.2.2.1 (wr0 F g)) := by
  unfold f_X10_workOn
  rw [inbN hf (by decide), gd_t, nI_clamp (by omega), bind_id]
  exact takeOn_ok hF hk (by omega) h1 h2
theorem ag_ok {β : Type} {x y : Option (β × pq_H)} {P : β × pq_H → Prop} {R : β × pq_H → Prop} (hx : ok x P) (hy : ok y R) (h : ∀ a b, P a → R b → a.1 = b.1 ∧ Inv a.2 b.2) : ag Inv x y := by
  obtain ⟨⟨r, a⟩, e1, p⟩ := hx
  obtain ⟨⟨r', b⟩, e2, q⟩ := hy
  obtain ⟨h1, h2⟩ := h _ _ p q
  simp only at h1 h2
  subst h1
  exact ⟨r, a, b, e1, e2, h2⟩
theorem notSide_t {f g : Nat} (hb : f_X11_isForm (nI f) hM = true) (hs : f_X11_isSide (nI g) = true) : f_X11_notSide (nI f) (nI g) hM = 0 := by
  unfold f_X11_notSide
  rw [if_pos hb, if_pos hs]
theorem a_fault : Ag_fault Inv := by
  intro hC hM p1 p2 p3 p4 i
  unfold f_X10_fault f_X11_fault f_X10_fault_j18 f_X11_fault_j33 f_X11_bound
  simp only [bd2_id, bind_id]
  obtain ⟨n, i1, -⟩ := id i
  rcases form_cases i1 p1 with ⟨a, b⟩ | ⟨f, hf, hf6, rfl, a, b, F, c1, c2, c3⟩
  · rw [if_pos a, show f_X11_notSide p1 p2 hM = -1 by unfold f_X11_notSide; rw [if_neg (Bf b)], if_neg (by decide), if_neg (by decide)]
    exact ag_no 1 rfl (by decide) (by decide) i
  rw [if_neg (Bf a)]
  rcases side_cases p2 with ⟨sa, sb⟩ | ⟨g, g1, g2, rfl, sa, sb⟩
  · rw [if_neg (Bf sa), show f_X11_notSide (nI f) p2 hM = -1 by unfold f_X11_notSide; rw [if_pos b, if_neg (Bf sb)], if_neg (by decide), if_neg (by decide)]
    exact ag_no 1 rfl (by decide) (by decide) i
  rw [if_pos sa, notSide_t b sb, if_pos rfl]
  rcases nb_cases p4 2 (by decide) with ⟨a2, b2⟩ | ⟨q, hq, rfl, a2, b2⟩
  · rw [if_pos (show f_X10_notBelow p4 2 = true from a2), if_neg (show ¬ f_X11_isSort p4 = true from Bf b2), if_neg (by decide)]
    exact ag_no 2 rfl (by decide) (by decide) i
  rw [if_neg (show ¬ f_X10_notBelow (nI q) 2 = true from Bf a2), if_pos (show f_X11_isSort (nI q) = true from b2)]
  by_cases q1 : 0 ≤ p3
  case neg =>
    rw [if_neg q1, if_neg q1, if_neg (by decide)]
    exact ag_no 4 rfl (by decide) (by decide) i
  by_cases q2 : p3 ≤ 12
  case neg =>
    rw [if_pos q1, if_pos q1, if_neg q2, if_neg q2, if_neg (by decide)]
    exact ag_no 6 rfl (by decide) (by decide) i
  obtain ⟨m, hm, rfl⟩ := nI_of2 (M := 12) (n := 12) rfl (Int32.not_lt.mpr q1) q2
  rw [if_pos q1, if_pos q1, if_pos q2, if_pos q2, if_pos rfl]
  have hd := c3.2.2.1
  refine ag_ok (P := fun r => frC hC r.2 ∧ fstN (ffP g (F.2.2.1 + m) (rzN g F.2.2.1 (wr0 F g) m) (nI q)) (plc g (F.2.2.1 + m)) r.1) (R := fun r => frM hM r.2 ∧ fstN (ffP g (F.2.2.1 + m) (rzN g F.2.2.1 (wr0 F g) m) (nI q)) (plc g (F.2.2.1 + m)) r.1) ?_ ?_ (fun x y hx hy => ⟨fstN_eq hx.2 hy.2, i.fr hx.1 hy.1⟩)
  · refine ok_bind (workOn_ok c1 c3 hf6 g1 g2) (fun h1 ⟨k1, k2⟩ => ?_)
    refine ok_bind (raise_ok g2 (by omega) k2) (fun h2 ⟨k3, k4⟩ => ?_)
    refine ok_bind (firstC_ok g1 g2 (by omega) k4 _) (fun r hr => ?_)
    exact ok_some ⟨k1.tr k3, hr⟩
  · refine ok_bind (takes_ok c2 c3 hf6 g2 hm) (fun h1 ⟨k1, k2⟩ => ?_)
    refine ok_bind (firstM_ok g1 g2 (by omega) k2 _) (fun r hr => ?_)
    exact ok_some ⟨k1, hr⟩
theorem a_lifted : Ag_lifted Inv := by
  intro hC hM p1 p2 p3 p4 i
  unfold f_X10_lifted f_X11_lifted f_X10_lifted_j18 f_X11_lifted_j22 f_X11_bound
  simp only [bd2_id, bind_id]
  obtain ⟨n, i1, -⟩ := id i
  rcases form_cases i1 p1 with ⟨a, b⟩ | ⟨f, hf, hf6, rfl, a, b, F, c1, c2, c3⟩
  · rw [if_pos a, show f_X11_notSide p1 p2 hM = -1 by unfold f_X11_notSide; rw [if_neg (Bf b)], if_neg (by decide), if_neg (by decide)]
    exact ag_low 1 rfl (by decide) (by decide) i
  rw [if_neg (Bf a)]
  rcases side_cases p2 with ⟨sa, sb⟩ | ⟨g, g1, g2, rfl, sa, sb⟩
  · rw [if_neg (Bf sa), show f_X11_notSide (nI f) p2 hM = -1 by unfold f_X11_notSide; rw [if_pos b, if_neg (Bf sb)], if_neg (by decide), if_neg (by decide)]
    exact ag_low 1 rfl (by decide) (by decide) i
  rw [if_pos sa, notSide_t b sb, if_pos rfl]
  by_cases q1 : 0 ≤ p3
  case neg =>
    rw [if_neg q1, if_neg q1, if_neg (by decide)]
    exact ag_low 4 rfl (by decide) (by decide) i
  by_cases q2 : p3 ≤ 12
  case neg =>
    rw [if_pos q1, if_pos q1, if_neg q2, if_neg q2, if_neg (by decide)]
    exact ag_low 6 rfl (by decide) (by decide) i
  obtain ⟨m, hm, rfl⟩ := nI_of2 (M := 12) (n := 12) rfl (Int32.not_lt.mpr q1) q2
  have hd := c3.2.2.1
  rw [if_pos q1, if_pos q1, if_pos q2, if_pos q2, if_pos rfl, inbN hf6 (by decide), gd_t, nI_clamp (by omega), c1.2.2.1, nI_add, places_ok g1 g2 (by omega)]
  have hb : tri (F.2.2.1 + m + 1) ≤ 190 := tri_mono (show F.2.2.1 + m + 1 ≤ 19 by omega)
  have hp := plc_le (g := g) (n := F.2.2.1 + m)
  obtain ⟨h1, e1, k1, k2⟩ := takes_ok c2 c3 hf6 g2 hm
  rw [e1, Option.bind_some]
  have iM : Inv hC h1 := i.fr (frC.rf _) k1
  rcases nb_cases p4 (plc g (F.2.2.1 + m)) (by omega) with ⟨a2, b2⟩ | ⟨j, hj, rfl, a2, b2⟩
  · rw [if_pos a2]
    have no : ∀ c, c < plc g (F.2.2.1 + m) → ¬ nI c = p4 := fun c hc e => by
      subst e
      have : f_X10_notBelow (nI c) (nI (plc g (F.2.2.1 + m))) = false := by
        unfold f_X10_notBelow
        rw [if_neg (nI_pos (by omega)), if_pos (nI_lt hc (by omega))]
      rw [this] at a2
      cases a2
    have low := ag_low (hC := hC) (hM := h1) 1 (v := -1) rfl (by decide) (by decide) iM
    obtain ⟨r, x, y, z1, z2, z3⟩ := low
    have key : ok (lp (fun _ _ => none) (f_X11_lifted_l47 (nI g) p4 h1) 1000 0 0) (fun v => v = (r, y)) := by
      refine lp_forA (fun t x => ∃ c, x = nI c ∧ CN g (F.2.2.1 + m) t c) (tri (F.2.2.1 + m + 1)) ?_ ?_ 1000 0 0 (by omega) (by omega) ⟨0, rfl, CN_0 _ _⟩
      · intro t x w ht ⟨c, hx, hc⟩ hw
        subst hx
        obtain ⟨s, k, hs, hk, e⟩ := tri_exD ht
        unfold f_X11_lifted_l47 f_X11_lifted_j82 f_X11_lifted_j93
        rw [k2.1, termsOfM_nI (by omega), if_neg (nI_ge ht (by omega)), e, isOn_ok g2 (by omega) hs hk, Option.bind_some, ← e, nI_1, nI_1]
        by_cases o : onS g (F.2.2.1 + m) s k = true
        · rw [e] at hc
          obtain ⟨b1, b2, b3⟩ := CN_on g1 g2 hs hk o hc
          rw [← e] at b3
          rw [if_pos o, if_neg (no c b1)]
          exact hw _ ⟨c + 1, rfl, b3⟩
        · rw [e] at hc
          have b3 := CN_off g1 g2 hk o hc
          rw [← e] at b3
          rw [if_neg o]
          exact hw _ ⟨c, rfl, b3⟩
      · intro x w ⟨c, hx, hc⟩
        unfold f_X11_lifted_l47 f_X11_lifted_j99
        rw [k2.1, termsOfM_nI (by omega), if_pos (le_nIn (Nat.le_refl _) (by omega)), bd2_id, z2]
        exact ok_some rfl
    rw [z1, ok_eq key]
    exact ag_c r x y rfl rfl z3
  · rw [if_neg (Bf a2)]
    refine ag_ok (P := fun r => frC hC r.2 ∧ r.1 = Wt (rzN g F.2.2.1 (wr0 F g) m) (num g (F.2.2.1 + m) j)) (R := fun r => r.2 = h1 ∧ r.1 = Wt (rzN g F.2.2.1 (wr0 F g) m) (num g (F.2.2.1 + m) j)) ?_ ?_ (fun x y hx hy => ⟨hx.2.trans hy.2.symm, i.fr hx.1 (hy.1 ▸ k1)⟩)
    · refine ok_bind (workOn_ok c1 c3 hf6 g1 g2) (fun h1 ⟨k1, k2⟩ => ?_)
      refine ok_bind (raise_ok g2 (by omega) k2) (fun h2 ⟨k3, k4⟩ => ?_)
      refine ok_be (among_ok g1 g2 (by omega) k4 hj) ?_
      exact ok_some ⟨k1.tr k3, rfl⟩
    · refine lp_forA (fun t x => ∃ c, x = nI c ∧ CN g (F.2.2.1 + m) t c ∧ c ≤ j) (tri (F.2.2.1 + m + 1)) ?_ ?_ 1000 0 0 (by omega) (by omega) ⟨0, rfl, CN_0 _ _, by omega⟩
      · intro t x w ht ⟨c, hx, hc, hcj⟩ hw
        subst hx
        obtain ⟨s, k, hs, hk, e⟩ := tri_exD ht
        unfold f_X11_lifted_l47 f_X11_lifted_j82 f_X11_lifted_j93
        rw [k2.1, termsOfM_nI (by omega), if_neg (nI_ge ht (by omega)), e, isOn_ok g2 (by omega) hs hk, Option.bind_some, ← e, nI_1, nI_1]
        by_cases o : onS g (F.2.2.1 + m) s k = true
        · rw [e] at hc
          obtain ⟨b1, d2, b3⟩ := CN_on g1 g2 hs hk o hc
          rw [← e] at b3
          rw [if_pos o]
          by_cases z : c = j
          · subst z
            rw [if_pos rfl, inbN (show t < 190 by omega) (by decide), gd_t, nI_clamp (by omega), k2.t ht]
            refine ok_some ⟨rfl, ?_⟩
            show Wt _ t = _
            rw [e, d2]
          · rw [if_neg (show ¬ nI c = nI j by rw [ieq (by omega) (by omega)]; exact z)]
            exact hw _ ⟨c + 1, rfl, b3, by omega⟩
        · rw [e] at hc
          have b3 := CN_off g1 g2 hk o hc
          rw [← e] at b3
          rw [if_neg o]
          exact hw _ ⟨c, rfl, b3, hcj⟩
      · intro x w ⟨c, hx, hc, hcj⟩
        have := CN_end g1 g2 hc
        omega
end LIFT
