section SPELL
variable {hC hM : pq_H}
/-- what stands at the place that is asked for -/
def FND (w : Int32) (out : List Int32) (v : Int32) : Prop := (∃ j, j < out.length ∧ w = nI j ∧ out[j]? = some v) ∨ ((∀ j, j < out.length → ¬ w = nI j) ∧ v = -9)
def SPC (h : pq_H) (w : Int32) (out : List Int32) : Prop := rI h 70 0 = nI out.length ∧ rI h 70 2 = w ∧ FND w out (rI h 70 1)
def SPM (h : pq_H) (out : List Int32) : Prop := rI h 0 36 = nI out.length ∧ ∀ j, j < out.length → out[j]? = some (rI h 19 j)
theorem addC_ok {h : pq_H} {w c : Int32} {out : List Int32} (hl : out.length < 1000) (hS : SPC h w out) : ok (f_X7_add c h) (fun h' => frC h h' ∧ SPC h' w (out ++ [c])) := by
  obtain ⟨s1, s2, s3⟩ := hS
  unfold f_X7_add f_X7_add_j16
  have ln : (out ++ [c]).length = out.length + 1 := by rw [List.length_append]; rfl
  have at' : ∀ j, j < out.length → (out ++ [c])[j]? = out[j]? := fun j hj => List.getElem?_append_left hj
  have atn : (out ++ [c])[out.length]? = some c := by rw [List.getElem?_append_right (Nat.le_refl _), Nat.sub_self]; rfl
  by_cases z : rI h 70 0 = rI h 70 2
  · rw [if_pos z, rI_ne (by omega), s1, nI_1]
    rw [s1, s2] at z
    refine ok_some ⟨(frC.wI _ _ _ _ (by omega)).tr (frC.wI _ _ _ _ (by omega)), ?_, ?_, ?_⟩
    · rw [rI_same, ln]
    · rw [rI_ne (by omega), rI_ne (by omega)]; exact s2
    · rw [rI_ne (by omega), rI_same]
      exact Or.inl ⟨out.length, by omega, z.symm, atn⟩
  · rw [if_neg z, s1, nI_1]
    rw [s1, s2] at z
    refine ok_some ⟨frC.wI _ _ _ _ (by omega), ?_, ?_, ?_⟩
    · rw [rI_same, ln]
    · rw [rI_ne (by omega)]; exact s2
    · rw [rI_ne (by omega)]
      rcases s3 with ⟨j, j1, j2, j3⟩ | ⟨j1, j2⟩
      · exact Or.inl ⟨j, by omega, j2, by rw [at' j j1]; exact j3⟩
      · refine Or.inr ⟨fun j hj => ?_, j2⟩
        by_cases e : j = out.length
        · subst e; exact fun y => z y.symm
        · exact j1 j (by omega)
theorem puts_ok {h : pq_H} {c : Int32} {out : List Int32} (hl : out.length < 500) (hS : SPM h out) : ok (f_X11_puts c h) (fun h' => frM h h' ∧ SPM h' (out ++ [c])) := by
  obtain ⟨s1, s2⟩ := hS
  unfold f_X11_puts
  rw [s1, inbN hl (by decide), gd_t, hl_d, nI_clamp (by omega), rI_ne (by omega), s1, nI_1]
  refine ok_some ⟨(frM.wI _ _ _ _ (by omega)).tr (frM.wI _ _ _ _ (by omega)), ?_, fun j hj => ?_⟩
  · rw [rI_same, List.length_append]; rfl
  · rw [List.length_append] at hj
    have hj : j < out.length + 1 := hj
    rw [rI_ne (by omega)]
    by_cases e : j = out.length
    · subst e; rw [rI_same, List.getElem?_append_right (Nat.le_refl _), Nat.sub_self]; rfl
    · rw [rI_ne (by omega), List.getElem?_append_left (by omega)]; exact s2 j (by omega)
/-- digits from a unit down -/
def em (v : Nat) : Nat → List Int32
  | 0 => []
  | m + 1 => nI (48 + v / 10 ^ m % 10) :: em v m
theorem em_len (v m : Nat) : (em v m).length = m := by
  induction m with
  | zero => rfl
  | succ m ih => show (em v m).length + 1 = m + 1; rw [ih]
theorem p10 {m : Nat} (h : m ≤ 6) : 1 ≤ 10 ^ m ∧ 10 ^ m ≤ 1000000 := by
  have : m = 0 ∨ m = 1 ∨ m = 2 ∨ m = 3 ∨ m = 4 ∨ m = 5 ∨ m = 6 := by omega
  rcases this with rfl | rfl | rfl | rfl | rfl | rfl | rfl <;> decide
theorem ex_ok {v : Nat} (h : v < 10000000) : ∃ e, e ≤ 6 ∧ v / 10 ^ e < 10 ∧ ∀ i, i < e → ¬ v / 10 ^ i < 10 := by
  by_cases h0 : v < 10
  · exact ⟨0, by omega, by omega, fun i hi => by omega⟩
  have D : ∀ e, e ≤ 6 → v < 10 ^ (e + 1) → 10 ^ e ≤ v → v / 10 ^ e < 10 ∧ ∀ i, i < e → ¬ v / 10 ^ i < 10 := by
    intro e he h1 h2
    refine ⟨(Nat.div_lt_iff_lt_mul (p10 he).1).mpr (by rw [Nat.pow_succ, Nat.mul_comm] at h1; exact h1), fun i hi => ?_⟩
    rw [Nat.div_lt_iff_lt_mul (p10 (by omega)).1, Nat.not_lt]
    have : 10 ^ (i + 1) ≤ 10 ^ e := Nat.pow_le_pow_right (by decide) (by omega)
    rw [Nat.pow_succ, Nat.mul_comm] at this
    omega
  have go : ∀ e, e ≤ 6 → v < 10 ^ (e + 1) → ∃ e, 10 ^ e ≤ v ∧ v < 10 ^ (e + 1) ∧ e ≤ 6 := by
    intro e
    induction e with
    | zero => intro _ h1; have h1 : v < 10 := h1; omega
    | succ e ih =>
      intro he h1
      by_cases q : 10 ^ (e + 1) ≤ v
      · exact ⟨e + 1, q, h1, he⟩
      · exact ih (by omega) (by omega)
  obtain ⟨e, a, b, c⟩ := go 6 (Nat.le_refl _) h
  exact ⟨e, c, D e c b a⟩
theorem dgt {v m : Nat} (hv : v < 10000000) (hm : m ≤ 6) : (48 : Int32) + (nI v / nI (10 ^ m) - nI v / nI (10 ^ m) / 10 * 10) = nI (48 + v / 10 ^ m % 10) := by
  have hp := p10 hm
  have hd : v / 10 ^ m ≤ v := Nat.div_le_self _ _
  rw [pk_div (by omega) (by omega) (by omega), show (10 : Int32) = nI 10 from rfl, pk_rem (by omega) (by decide) (by decide), show (48 : Int32) = nI 48 from rfl, nI_add]
theorem digC_ok {h : pq_H} {w : Int32} {out : List Int32} {v e : Nat} (hv : v < 10000000) (he : e ≤ 6) (hl : out.length < 900) (hS : SPC h w out) : ok (lp (fun _ _ => none) (f_X7_spellNumber_l29 (nI v)) 1000 (nI (10 ^ e)) h) (fun h' => frC h h' ∧ SPC h' w (out ++ em v (e + 1))) := by
  refine lp_gen (fun (w : Int32 → pq_H → Option pq_H) (s : Int32 × pq_H) => w s.1 s.2) (fun i s => ∃ m o, m + i = e + 1 ∧ s.1 = (if m = 0 then 0 else nI (10 ^ (m - 1))) ∧ frC h s.2 ∧ SPC s.2 w o ∧ o ++ em v m = out ++ em v (e + 1) ∧ o.length ≤ out.length + i) (e + 1) ?_ ?_ 1000 0 (nI (10 ^ e), h) (by omega) (by omega) ⟨e + 1, out, by omega, by rw [if_neg (by omega)]; rfl, frC.rf h, hS, rfl, by omega⟩
  · intro i s w2 hi ⟨m, o, a1, a2, a3, a4, a5, a6⟩ hw
    obtain ⟨u, h'⟩ := s
    simp only at a2 a3 a4
    obtain ⟨m, rfl⟩ := Nat.exists_eq_add_of_le' (show 1 ≤ m by omega)
    rw [if_neg (by omega), Nat.add_sub_cancel] at a2
    subst a2
    have hp := p10 (show m ≤ 6 by omega)
    show ok (f_X7_spellNumber_l29 (nI v) w2 (nI (10 ^ m)) h') _
    unfold f_X7_spellNumber_l29
    have ne : ¬ nI (10 ^ m) = 0 := nI_ne0 (by omega) (by omega)
    rw [if_neg (nI_nle (by omega) (by omega)), show (nI (10 ^ m) != 0) = true by simp [ne], gd_t, dgt hv (by omega)]
    refine ok_bind (addC_ok (by omega) a4) (fun h2 ⟨k1, k2⟩ => ?_)
    refine hw (_, _) ⟨m, _, by omega, ?_, a3.tr k1, k2, ?_, ?_⟩
    · show nI (10 ^ m) / 10 = _
      rw [show (10 : Int32) = nI 10 from rfl, pk_div (by omega) (by decide) (by decide)]
      by_cases z : m = 0
      · subst z; rw [if_pos rfl]; rfl
      · rw [if_neg z]
        obtain ⟨k, rfl⟩ := Nat.exists_eq_add_of_le' (show 1 ≤ m by omega)
        rw [Nat.pow_succ, Nat.mul_div_cancel _ (by decide), Nat.add_sub_cancel]
    · rw [List.append_assoc]
      exact a5
    · rw [List.length_append]
      show o.length + 1 ≤ _
      omega
  · intro s w2 ⟨m, o, a1, a2, a3, a4, a5, a6⟩
    obtain ⟨u, h'⟩ := s
    simp only at a2 a3 a4
    have hm : m = 0 := by omega
    subst hm
    rw [if_pos rfl] at a2
    subst a2
    show ok (f_X7_spellNumber_l29 (nI v) w2 0 h') _
    unfold f_X7_spellNumber_l29
    rw [if_pos (by decide)]
    have a5 : o ++ [] = _ := a5
    rw [List.append_nil] at a5
    rw [a5] at a4
    exact ok_some ⟨a3, a4⟩
theorem digM_ok {h : pq_H} {out : List Int32} {v e : Nat} (hv : v < 10000000) (he : e ≤ 6) (hl : out.length + 7 < 500) (hS : SPM h out) : ok (lp (fun _ _ => none) (f_X11_putsNumber_l18 (nI v)) 1000 (nI (10 ^ e)) h) (fun h' => frM h h' ∧ SPM h' (out ++ em v (e + 1))) := by
  refine lp_gen (fun (w : Int32 → pq_H → Option pq_H) (s : Int32 × pq_H) => w s.1 s.2) (fun i s => ∃ m o, m + i = e + 1 ∧ s.1 = (if m = 0 then 0 else nI (10 ^ (m - 1))) ∧ frM h s.2 ∧ SPM s.2 o ∧ o ++ em v m = out ++ em v (e + 1) ∧ o.length ≤ out.length + i) (e + 1) ?_ ?_ 1000 0 (nI (10 ^ e), h) (by omega) (by omega) ⟨e + 1, out, by omega, by rw [if_neg (by omega)]; rfl, frM.rf h, hS, rfl, by omega⟩
  · intro i s w2 hi ⟨m, o, a1, a2, a3, a4, a5, a6⟩ hw
    obtain ⟨u, h'⟩ := s
    simp only at a2 a3 a4
    obtain ⟨m, rfl⟩ := Nat.exists_eq_add_of_le' (show 1 ≤ m by omega)
    rw [if_neg (by omega), Nat.add_sub_cancel] at a2
    subst a2
    have hp := p10 (show m ≤ 6 by omega)
    show ok (f_X11_putsNumber_l18 (nI v) w2 (nI (10 ^ m)) h') _
    unfold f_X11_putsNumber_l18
    have ne : ¬ nI (10 ^ m) = 0 := nI_ne0 (by omega) (by omega)
    rw [if_neg (nI_nle (by omega) (by omega)), show (nI (10 ^ m) != 0) = true by simp [ne], gd_t, dgt hv (by omega)]
    refine ok_bind (puts_ok (by omega) a4) (fun h2 ⟨k1, k2⟩ => ?_)
    refine hw (_, _) ⟨m, _, by omega, ?_, a3.tr k1, k2, ?_, ?_⟩
    · show nI (10 ^ m) / 10 = _
      rw [show (10 : Int32) = nI 10 from rfl, pk_div (by omega) (by decide) (by decide)]
      by_cases z : m = 0
      · subst z; rw [if_pos rfl]; rfl
      · rw [if_neg z]
        obtain ⟨k, rfl⟩ := Nat.exists_eq_add_of_le' (show 1 ≤ m by omega)
        rw [Nat.pow_succ, Nat.mul_div_cancel _ (by decide), Nat.add_sub_cancel]
    · rw [List.append_assoc]
      exact a5
    · rw [List.length_append]
      show o.length + 1 ≤ _
      omega
  · intro s w2 ⟨m, o, a1, a2, a3, a4, a5, a6⟩
    obtain ⟨u, h'⟩ := s
    simp only at a2 a3 a4
    have hm : m = 0 := by omega
    subst hm
    rw [if_pos rfl] at a2
    subst a2
    show ok (f_X11_putsNumber_l18 (nI v) w2 0 h') _
    unfold f_X11_putsNumber_l18
    rw [if_pos (by decide)]
    have a5 : o ++ [] = _ := a5
    rw [List.append_nil] at a5
    rw [a5] at a4
    exact ok_some ⟨a3, a4⟩
/-- the number without its sign, both sides alike -/
theorem num_ok {v : Nat} (hv : v < 10000000) : ∃ l : List Int32, l.length ≤ 7 ∧ (∀ (h : pq_H) (w : Int32) (out : List Int32), out.length < 900 → SPC h w out → ok (f_X7_spellNumber (nI v) h) (fun h' => frC h h' ∧ SPC h' w (out ++ l))) ∧ ∀ (h : pq_H) (out : List Int32), out.length + 7 < 500 → SPM h out → ok (f_X11_putsNumber (nI v) h) (fun h' => frM h h' ∧ SPM h' (out ++ l)) := by
  obtain ⟨e, he, h1, h2⟩ := ex_ok hv
  have dv : ∀ i, i ≤ 6 → nI v / nI (10 ^ i) = nI (v / 10 ^ i) := fun i hi => pk_div (by omega) (p10 hi).1 (by have := p10 hi; omega)
  have le : ∀ i, v / 10 ^ i ≤ v := fun i => Nat.div_le_self _ _
  have ml : ∀ i, nI (10 ^ i) * 10 = nI (10 ^ (i + 1)) := fun i => by rw [show (10 : Int32) = nI 10 from rfl, pk_mul, Nat.pow_succ]
  have ne : ∀ i, i ≤ 6 → (nI (10 ^ i) != 0) = true := fun i hi => by
    have := p10 hi
    simp [nI_ne0 (n := 10 ^ i) (by omega) (by omega)]
  refine ⟨em v (e + 1), by rw [em_len]; omega, fun h w out hl hS => ?_, fun h out hl hS => ?_⟩
  · unfold f_X7_spellNumber
    refine lp_gen (fun (w : Int32 → Int32 → Option pq_H) (s : Int32 × Int32) => w s.1 s.2) (fun i s => s.1 = nI (10 ^ i) ∧ s.2 = nI i) e ?_ ?_ 1000 0 (1, 0) (by omega) (by omega) ⟨rfl, rfl⟩
    · intro i s w2 hi ⟨e1, e2⟩ hw
      obtain ⟨a, b⟩ := s
      simp only at e1 e2
      subst e1 e2
      show ok (f_X7_spellNumber_l4 (nI v) h w2 (nI (10 ^ i)) (nI i)) _
      unfold f_X7_spellNumber_l4
      have := le i
      rw [if_neg (show ¬ (8 : Int32) ≤ nI i from nI_ge (b := 8) (by omega) (by omega)), ne i (by omega), gd_t, dv i (by omega), if_neg (show ¬ nI (v / 10 ^ i) < 10 from fun y => h2 i hi ((ilt (b := 10) (by omega) (by omega)).mp y)), ml, nI_1]
      exact hw (_, _) ⟨rfl, rfl⟩
    · intro s w2 ⟨e1, e2⟩
      obtain ⟨a, b⟩ := s
      simp only at e1 e2
      subst e1 e2
      show ok (f_X7_spellNumber_l4 (nI v) h w2 (nI (10 ^ e)) (nI e)) _
      unfold f_X7_spellNumber_l4
      have := le e
      rw [if_neg (show ¬ (8 : Int32) ≤ nI e from nI_ge (b := 8) (by omega) (by omega)), ne e he, gd_t, dv e he, if_pos (show nI (v / 10 ^ e) < 10 from nI_lt (b := 10) h1 (by omega))]
      exact digC_ok hv he hl hS
  · unfold f_X11_putsNumber
    refine lp_gen (fun (w : Int32 → Option pq_H) (s : Int32) => w s) (fun i s => s = nI (10 ^ i)) e ?_ ?_ 1000 0 1 (by omega) (by omega) rfl
    · intro i s w2 hi e1 hw
      subst e1
      show ok (f_X11_putsNumber_l2 (nI v) h w2 (nI (10 ^ i))) _
      unfold f_X11_putsNumber_l2
      have := le i
      have := h2 i hi
      rw [ne i (by omega), gd_t, dv i (by omega), if_neg (show ¬ nI (v / 10 ^ i) ≤ 9 from nI_ge (a := 9) (by omega) (by omega)), ml]
      exact hw _ rfl
    · intro s w2 e1
      subst e1
      show ok (f_X11_putsNumber_l2 (nI v) h w2 (nI (10 ^ e))) _
      unfold f_X11_putsNumber_l2
      have := le e
      rw [ne e he, gd_t, dv e he, if_pos (show nI (v / 10 ^ e) ≤ 9 from le_nIn (b := 9) (by omega) (by omega))]
      exact digM_ok hv he hl hS
def pwl (c p : Nat) : List Int32 := (if p = 0 then [] else [nI c]) ++ (if p ≤ 1 then [] else [94, nI (48 + p)])
theorem pwl_len (c p : Nat) : (pwl c p).length ≤ 3 := by
  unfold pwl
  split <;> split <;> simp
theorem powC_ok {h : pq_H} {w : Int32} {out : List Int32} {c p : Nat} (hp : p ≤ 6) (hl : out.length < 900) (hS : SPC h w out) : ok (f_X7_spellPower (nI c) (nI p) h) (fun h' => frC h h' ∧ SPC h' w (out ++ pwl c p)) := by
  have j9 : ∀ (h1 : pq_H) (o : List Int32), o.length < 950 → frC h h1 → SPC h1 w o → o ++ (if p ≤ 1 then [] else [94, nI (48 + p)]) = out ++ pwl c p → ok (f_X7_spellPower_j9 (nI p) h1) (fun h' => frC h h' ∧ SPC h' w (out ++ pwl c p)) := by
    intro h1 o ho f1 s1 e
    unfold f_X7_spellPower_j9
    by_cases z : p ≤ 1
    · rw [if_pos (show nI p ≤ 1 from le_nIn (b := 1) z (by omega))]
      rw [if_pos z, List.append_nil] at e
      rw [e] at s1
      exact ok_some ⟨f1, s1⟩
    · rw [if_neg (show ¬ nI p ≤ 1 from nI_ge (a := 1) (by omega) (by omega))]
      rw [if_neg z] at e
      refine ok_bind (addC_ok (by omega) s1) (fun h2 ⟨k1, k2⟩ => ?_)
      refine ok_bind (addC_ok (by rw [List.length_append]; show o.length + 1 < _; omega) k2) (fun h3 ⟨k3, k4⟩ => ?_)
      rw [show (48 : Int32) = nI 48 from rfl, nI_add, List.append_assoc] at k4
      rw [show [(94 : Int32)] ++ [nI (48 + p)] = [94, nI (48 + p)] from rfl, e] at k4
      exact ok_some ⟨(f1.tr k1).tr k3, k4⟩
  unfold f_X7_spellPower
  by_cases z : p = 0
  · subst z
    rw [if_pos (by decide)]
    exact j9 h out (by omega) (frC.rf h) hS rfl
  · rw [if_neg (nI_nle (by omega) (by omega))]
    refine ok_bind (addC_ok (by omega) hS) (fun h2 ⟨k1, k2⟩ => ?_)
    refine j9 h2 _ (by rw [List.length_append]; show out.length + 1 < _; omega) k1 k2 ?_
    unfold pwl
    rw [if_neg z, List.append_assoc]
/-- sign, number, powers of a term -/
def sgl (r : Int32) (out : List Int32) : List Int32 := if r < 0 then [45] else if out = [] then [] else [43]
theorem sgl_len (r : Int32) (out : List Int32) : (sgl r out).length ≤ 1 := by
  unfold sgl
  split
  · simp
  · split <;> simp
theorem abs32 {r : Int32} (h : -1000009 ≤ r.toInt ∧ r.toInt ≤ 1000000) : (if 0 ≤ r then r else 0 - r) = nI r.toInt.natAbs ∧ (if 0 ≤ r then r else -r) = nI r.toInt.natAbs := by
  have z : (0 : Int32).toInt = 0 := rfl
  have c : (0 ≤ r) ↔ 0 ≤ r.toInt := by rw [Int32.le_iff_toInt_le, z]
  have e : (nI r.toInt.natAbs).toInt = (r.toInt.natAbs : Int) := nI_toInt (by omega)
  have n1 : (0 - r).toInt = -r.toInt := by rw [Int32.toInt_sub, z, Int.bmod_eq_of_le (by omega) (by omega)]; omega
  have n2 : (-r).toInt = -r.toInt := by rw [Int32.toInt_neg, Int.bmod_eq_of_le (by omega) (by omega)]
  constructor <;> apply Int32.toInt_inj.mp <;> rw [e] <;> split
  · rename_i q; have := c.mp q; omega
  · rename_i q
    have y : ¬ 0 ≤ r.toInt := fun y => q (c.mpr y)
    omega
  · rename_i q; have := c.mp q; omega
  · rename_i q
    have y : ¬ 0 ≤ r.toInt := fun y => q (c.mpr y)
    omega
def TERMS (F : pF) (s k : Nat) (out out' : List Int32) : Prop := out'.length ≤ out.length + 17 ∧ (∀ (h : pq_H) (w : Int32), FormC h 0 F ∨ True → out.length < 600 → SPC h w out → ∀ f, f < 12 → FormC h f F → ok (f_X7_spellTerm f (nI (F.2.2.1 - s)) (nI (s - k)) (nI k) h) (fun h' => frC h h' ∧ SPC h' w out')) ∧ ∀ (h h0 : pq_H) (f : Nat) (w14 : Int32 → pq_H → Option pq_H) (Q : pq_H → Prop), f < 6 → FormM h f F → frM h0 h → out.length + 17 < 500 → SPM h out → (∀ h', frM h0 h' → SPM h' out' → ok (w14 (nI (tri s + k + 1)) h') Q) → ok (f_X11_spells_l14 (nI f) (nI F.2.2.1) w14 (nI (tri s + k)) h) Q
theorem term_ok {F : pF} (hF : okF F) {s k : Nat} (hs : s ≤ F.2.2.1) (hk : k ≤ s) (out : List Int32) : ∃ out', TERMS F s k out out' := by
  have hd := hF.2.2.1
  have hb := tri28 hd
  have ht : tri s + k < tri (F.2.2.1 + 1) := tri_lt (by omega) hk
  have bd := cfV_b hF hs hk
  have ehas : hasV F (F.2.2.1 - s) (s - k) k = cfV F s k := rfl
  have dd0 : (nI F.2.2.1 = 0) ↔ F.2.2.1 = 0 := nI_eq (b := 0) (by omega) (by decide)
  by_cases z : cfV F s k = 0
  · refine ⟨out, by omega, fun h w _ hl hS f hf hC => ?_, fun h h0 f w14 Q hf hM h0M hl hS hw => ?_⟩
    · unfold f_X7_spellTerm
      rw [has_ok hC hF (by omega), Option.bind_some, ehas, if_pos z]
      exact ok_some ⟨frC.rf h, hS⟩
    · unfold f_X11_spells_l14 f_X11_spells_j159
      rw [isTerm_ok hM hF hf _ (by omega), Option.bind_some, decide_eq_true ht, if_pos rfl, coef_ok hM hF hf hs hk, Option.bind_some, if_pos z, nI_1]
      exact hw h h0M hS
  obtain ⟨a1, a2⟩ := abs32 bd
  obtain ⟨l, l1, l2, l3⟩ := num_ok (v := (cfV F s k).toInt.natAbs) (by omega)
  -- the number's list: empty where it is 1 and there are letters
  obtain ⟨nl, hnl⟩ : ∃ nl : List Int32, nl = if (cfV F s k).toInt.natAbs = 1 ∧ ¬ F.2.2.1 = 0 then [] else l := ⟨_, rfl⟩
  have nlb : nl.length ≤ 7 := by rw [hnl]; split; · simp
                                 · exact l1
  have q1 := pwl_len 97 (F.2.2.1 - s)
  have q2 := pwl_len 98 (s - k)
  have q3 := pwl_len 99 k
  have q0 := sgl_len (cfV F s k) out
  have one : (nI (cfV F s k).toInt.natAbs = 1) ↔ (cfV F s k).toInt.natAbs = 1 := nI_eq (b := 1) (by omega) (by decide)
  refine ⟨out ++ sgl (cfV F s k) out ++ nl ++ pwl 97 (F.2.2.1 - s) ++ pwl 98 (s - k) ++ pwl 99 k, ?_, fun h w _ hl hS f hf hC => ?_, fun h h0 f w14 Q hf hM h0M hl hS hw => ?_⟩
  · simp only [List.length_append]
    omega
  · have j69 : ∀ h1, frC h h1 → SPC h1 w (out ++ sgl (cfV F s k) out ++ nl) → ok (f_X7_spellTerm_j69 (nI (F.2.2.1 - s)) (nI (s - k)) (nI k) h1) (fun h' => frC h h' ∧ SPC h' w (out ++ sgl (cfV F s k) out ++ nl ++ pwl 97 (F.2.2.1 - s) ++ pwl 98 (s - k) ++ pwl 99 k)) := by
      intro h1 f1 s1
      unfold f_X7_spellTerm_j69
      refine ok_bind (powC_ok (c := 97) (by omega) (by simp only [List.length_append]; omega) s1) (fun h2 ⟨b1, b2⟩ => ?_)
      refine ok_bind (powC_ok (c := 98) (by omega) (by simp only [List.length_append]; omega) b2) (fun h3 ⟨b3, b4⟩ => ?_)
      refine ok_bind (powC_ok (c := 99) (by omega) (by simp only [List.length_append]; omega) b4) (fun h4 ⟨b5, b6⟩ => ?_)
      exact ok_some ⟨((f1.tr b1).tr b3).tr b5, b6⟩
    have j43 : ∀ h1, frC h h1 → SPC h1 w (out ++ sgl (cfV F s k) out) → ok (f_X7_spellTerm_j43 f (nI (F.2.2.1 - s)) (nI (s - k)) (nI k) (cfV F s k) h1) (fun h' => frC h h' ∧ SPC h' w (out ++ sgl (cfV F s k) out ++ nl ++ pwl 97 (F.2.2.1 - s) ++ pwl 98 (s - k) ++ pwl 99 k)) := by
      intro h1 f1 s1
      have j63 : nl = l → ok (f_X7_spellTerm_j63 (nI (F.2.2.1 - s)) (nI (s - k)) (nI k) (nI (cfV F s k).toInt.natAbs) h1) (fun h' => frC h h' ∧ SPC h' w (out ++ sgl (cfV F s k) out ++ nl ++ pwl 97 (F.2.2.1 - s) ++ pwl 98 (s - k) ++ pwl 99 k)) := by
        intro en
        unfold f_X7_spellTerm_j63
        refine ok_bind (l2 h1 w _ (by simp only [List.length_append]; omega) s1) (fun h2 ⟨b1, b2⟩ => ?_)
        rw [← en] at b2
        exact j69 h2 (f1.tr b1) b2
      unfold f_X7_spellTerm_j43
      rw [a1, (hC.frC hf f1).2.2.1]
      by_cases y : (cfV F s k).toInt.natAbs = 1
      · rw [if_pos (one.mpr y)]
        by_cases x : F.2.2.1 = 0
        · rw [if_pos (dd0.mpr x)]
          exact j63 (by rw [hnl, if_neg (fun c => c.2 x)])
        · rw [if_neg (fun c => x (dd0.mp c))]
          refine j69 h1 f1 ?_
          rw [show nl = [] by rw [hnl, if_pos ⟨y, x⟩], List.append_nil]
          exact s1
      · rw [if_neg (fun c => y (one.mp c))]
        exact j63 (by rw [hnl, if_neg (fun c => y c.1)])
    unfold f_X7_spellTerm
    rw [has_ok hC hF (by omega), Option.bind_some, ehas, if_neg z]
    by_cases y : 0 ≤ cfV F s k
    · rw [if_pos y, hS.1]
      have ny : ¬ cfV F s k < 0 := Int32.not_lt.mpr y
      by_cases x : out = []
      · subst x
        rw [if_pos (show nI ([] : List Int32).length ≤ 0 by decide)]
        refine j43 h (frC.rf h) ?_
        unfold sgl
        rw [if_neg ny, if_pos rfl]
        exact hS
      · have xl : 0 < out.length := List.length_pos_iff.mpr x
        rw [if_neg (nI_nle xl (by omega))]
        refine ok_bind (addC_ok (by omega) hS) (fun h1 ⟨b1, b2⟩ => ?_)
        refine j43 h1 b1 ?_
        unfold sgl
        rw [if_neg ny, if_neg x]
        exact b2
    · rw [if_neg y]
      refine ok_bind (addC_ok (by omega) hS) (fun h1 ⟨b1, b2⟩ => ?_)
      refine j43 h1 b1 ?_
      unfold sgl
      rw [if_pos (Int32.not_le.mp y)]
      exact b2
  · obtain ⟨p0, p1, p2⟩ := powerIn_ok (d := F.2.2.1) (by omega) hs hk
    -- the powers, a loop of three
    have stp : ∀ (h1 : pq_H) (o : List Int32) (w100 : Int32 → pq_H → Option pq_H) (v m : Nat), v < 3 → m ≤ 6 → f_X11_powerIn (nI F.2.2.1) (nI (tri s + k)) (nI v) = some (nI m) → o.length + 3 < 500 → frM h0 h1 → SPM h1 o → (∀ h', frM h0 h' → SPM h' (o ++ pwl (97 + v) m) → ok (w100 (nI (v + 1)) h') Q) → ok (f_X11_spells_l100 (nI F.2.2.1) w14 (nI (tri s + k)) w100 (nI v) h1) Q := by
      intro h1 o w100 v m hv hm hp ho f1 s1 hw2
      have j129 : ∀ (h2 : pq_H) (o2 : List Int32), o2.length + 2 < 500 → frM h0 h2 → SPM h2 o2 → o2 ++ (if m ≤ 1 then [] else [94, nI (48 + m)]) = o ++ pwl (97 + v) m → ok (f_X11_spells_j129 w14 w100 (nI v) (nI m) h2) Q := by
        intro h2 o2 ho2 f2 s2 e
        unfold f_X11_spells_j129 f_X11_spells_j153
        rw [nI_1]
        by_cases y : m ≤ 1
        · rw [if_neg (show ¬ (2 : Int32) ≤ nI m from nI_ge (b := 2) (by omega) (by omega))]
          rw [if_pos y, List.append_nil] at e
          rw [e] at s2
          exact hw2 h2 f2 s2
        · rw [if_pos (show (2 : Int32) ≤ nI m from le_nIn (a := 2) (by omega) (by omega))]
          rw [if_neg y] at e
          refine ok_bind (puts_ok (by omega) s2) (fun h3 ⟨b1, b2⟩ => ?_)
          refine ok_bind (puts_ok (by rw [List.length_append]; show o2.length + 1 < _; omega) b2) (fun h4 ⟨b3, b4⟩ => ?_)
          rw [show (48 : Int32) = nI 48 from rfl, nI_add, List.append_assoc] at b4
          rw [show [(94 : Int32)] ++ [nI (48 + m)] = [94, nI (48 + m)] from rfl, e] at b4
          exact hw2 h4 ((f2.tr b1).tr b3) b4
      unfold f_X11_spells_l100
      rw [if_neg (show ¬ (3 : Int32) ≤ nI v from nI_ge (b := 3) hv (by omega)), hp, Option.bind_some]
      by_cases y : m = 0
      · subst y
        rw [if_pos (by decide)]
        exact j129 h1 o (by omega) f1 s1 rfl
      · rw [if_neg (nI_nle (by omega) (by omega)), show (97 : Int32) = nI 97 from rfl, nI_add]
        refine ok_bind (puts_ok (by omega) s1) (fun h2 ⟨b1, b2⟩ => ?_)
        refine j129 h2 _ (by rw [List.length_append]; show o.length + 1 + 2 < _; omega) (f1.tr b1) b2 ?_
        unfold pwl
        rw [if_neg y, List.append_assoc]
    have j97 : ∀ h1, frM h0 h1 → SPM h1 (out ++ sgl (cfV F s k) out ++ nl) → ok (f_X11_spells_j97 (nI F.2.2.1) w14 (nI (tri s + k)) h1) Q := by
      intro h1 f1 s1
      have q0 := pwl_len (97 + 0) (F.2.2.1 - s)
      have q1 := pwl_len (97 + 1) (s - k)
      unfold f_X11_spells_j97
      rw [show (1000 : Nat) = 996 + 1 + 1 + 1 + 1 from rfl, lp_s, lp_s, lp_s, lp_s]
      refine stp h1 _ _ 0 (F.2.2.1 - s) (by omega) (by omega) p0 (by simp only [List.length_append]; omega) f1 s1 (fun h2 f2 s2 => ?_)
      refine stp h2 _ _ 1 (s - k) (by omega) (by omega) p1 (by simp only [List.length_append]; omega) f2 s2 (fun h3 f3 s3 => ?_)
      refine stp h3 _ _ 2 k (by omega) (by omega) p2 (by simp only [List.length_append]; omega) f3 s3 (fun h4 f4 s4 => ?_)
      unfold f_X11_spells_l100 f_X11_spells_j159
      rw [if_pos (show (3 : Int32) ≤ nI (2 + 1) from le_nIn (a := 3) (by omega) (by omega)), nI_1]
      exact hw h4 f4 s4
    have j79 : ∀ h1, frM h0 h1 → SPM h1 (out ++ sgl (cfV F s k) out) → ok (f_X11_spells_j79 (nI F.2.2.1) w14 (nI (tri s + k)) (nI (cfV F s k).toInt.natAbs) h1) Q := by
      intro h1 f1 s1
      have j91 : nl = l → ok (f_X11_spells_j91 (nI F.2.2.1) w14 (nI (tri s + k)) (nI (cfV F s k).toInt.natAbs) h1) Q := by
        intro en
        unfold f_X11_spells_j91
        refine ok_bind (l3 h1 _ (by simp only [List.length_append]; omega) s1) (fun h2 ⟨b1, b2⟩ => ?_)
        rw [← en] at b2
        exact j97 h2 (f1.tr b1) b2
      unfold f_X11_spells_j79
      by_cases y : (cfV F s k).toInt.natAbs = 1
      · rw [if_pos (one.mpr y)]
        by_cases x : F.2.2.1 = 0
        · rw [if_pos (dd0.mpr x)]
          exact j91 (by rw [hnl, if_neg (fun c => c.2 x)])
        · rw [if_neg (fun c => x (dd0.mp c))]
          refine j97 h1 f1 ?_
          rw [show nl = [] by rw [hnl, if_pos ⟨y, x⟩], List.append_nil]
          exact s1
      · rw [if_neg (fun c => y (one.mp c))]
        exact j91 (by rw [hnl, if_neg (fun c => y c.1)])
    have j66 : ∀ h1, frM h0 h1 → SPM h1 (out ++ sgl (cfV F s k) out) → ok (f_X11_spells_j66 (nI F.2.2.1) w14 (nI (tri s + k)) (cfV F s k) h1) Q := by
      intro h1 f1 s1
      unfold f_X11_spells_j66
      by_cases y : 0 ≤ cfV F s k
      · rw [if_pos y]
        rw [if_pos y] at a2
        have g := j79 h1 f1 s1
        rw [← a2] at g
        exact g
      · rw [if_neg y]
        rw [if_neg y] at a2
        rw [a2]
        exact j79 h1 f1 s1
    unfold f_X11_spells_l14
    rw [isTerm_ok hM hF hf _ (by omega), Option.bind_some, decide_eq_true ht, if_pos rfl, coef_ok hM hF hf hs hk, Option.bind_some, if_neg z]
    by_cases y : 0 ≤ cfV F s k
    · rw [if_pos y, hS.1]
      have ny : ¬ cfV F s k < 0 := Int32.not_lt.mpr y
      by_cases x : out = []
      · subst x
        rw [if_pos (show nI ([] : List Int32).length ≤ 0 by decide)]
        refine j66 h h0M ?_
        unfold sgl
        rw [if_neg ny, if_pos rfl]
        exact hS
      · have xl : 0 < out.length := List.length_pos_iff.mpr x
        rw [if_neg (nI_nle xl (by omega))]
        refine ok_bind (puts_ok (by omega) hS) (fun h1 ⟨b1, b2⟩ => ?_)
        refine j66 h1 (h0M.tr b1) ?_
        unfold sgl
        rw [if_neg ny, if_neg x]
        exact b2
    · rw [if_neg y]
      refine ok_bind (puts_ok (by omega) hS) (fun h1 ⟨b1, b2⟩ => ?_)
      refine j66 h1 (h0M.tr b1) ?_
      unfold sgl
      rw [if_pos (Int32.not_le.mp y)]
      exact b2
end SPELL
