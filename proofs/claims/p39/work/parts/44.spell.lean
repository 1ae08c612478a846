section SPELL
variable {hC hM : pq_H}
/-- what stands at the place that is asked for -/
def FND (w : Int32) (out : List Int32) (v : Int32) : Prop := (∃ j, j < out.length ∧ w = nI j ∧ out[j]? = some v) ∨ ((∀ j, j < out.length → ¬ w = nI j) ∧ v = -9)
def SPC (h : pq_H) (w : Int32) (out : List Int32) : Prop := rI h 70 0 = nI out.length ∧ rI h 70 2 = w ∧ FND w out (rI h 70 1)
theorem addC_ok {h : pq_H} {w c : Int32} {out : List Int32} (hl : out.length < 1000) (hS : SPC h w out) : ok (f_X7_add c h) (fun h' => frC h h' ∧ SPC h' w (out ++ [c])) := by
  obtain ⟨s1, s2, s3⟩ := hS
  unfold f_X7_add f_X7_add_j16
  have ln : (out ++ [c]).length = out.length + 1 := by rw [List.length_append]; rfl
  have at' : ∀ j, j < out.length → (out ++ [c])[j]? = out[j]? := fun j hj => List.getElem?_append_left hj
  have atn : (out ++ [c])[out.length]? = some c := by rw [List.getElem?_append_right (Nat.le_refl _), Nat.sub_self]; rfl
  by_cases z : rI h 70 0 = rI h 70 2
  · rw [if_pos z, rI_ne (by omega), s1, nI_1]
    rw [s1, s2] at z
    refine ok_some ⟨(frC.wI _ _ _ _ (by omega)).tr (frC.wI _ _ _ _ (by omega)), ?_, ?_, ?_⟩
    · rw [rI_same, ln]
    · rw [rI_ne (by omega), rI_ne (by omega)]; exact s2
    · rw [rI_ne (by omega), rI_same]
      exact Or.inl ⟨out.length, by omega, z.symm, atn⟩
  · rw [if_neg z, s1, nI_1]
    rw [s1, s2] at z
    refine ok_some ⟨frC.wI _ _ _ _ (by omega), ?_, ?_, ?_⟩
    · rw [rI_same, ln]
    · rw [rI_ne (by omega)]; exact s2
    · rw [rI_ne (by omega)]
      rcases s3 with ⟨j, j1, j2, j3⟩ | ⟨j1, j2⟩
      · exact Or.inl ⟨j, by omega, j2, by rw [at' j j1]; exact j3⟩
      · refine Or.inr ⟨fun j hj => ?_, j2⟩
        by_cases e : j = out.length
        · subst e; exact fun y => z y.symm
        · exact j1 j (by omega)
/-- digits from a unit down -/
def em (v : Nat) : Nat → List Int32
  | 0 => []
  | m + 1 => nI (48 + v / 10 ^ m % 10) :: em v m
theorem em_len (v m : Nat) : (em v m).length = m := by
  induction m with
  | zero => rfl
  | succ m ih => show (em v m).length + 1 = m + 1; rw [ih]
theorem p10 {m : Nat} (h : m ≤ 6) : 1 ≤ 10 ^ m ∧ 10 ^ m ≤ 1000000 := by
  have : m = 0 ∨ m = 1 ∨ m = 2 ∨ m = 3 ∨ m = 4 ∨ m = 5 ∨ m = 6 := by omega
  rcases this with rfl | rfl | rfl | rfl | rfl | rfl | rfl <;> decide
theorem ex_ok {v : Nat} (h : v < 10000000) : ∃ e, e ≤ 6 ∧ v / 10 ^ e < 10 ∧ ∀ i, i < e → ¬ v / 10 ^ i < 10 := by
  by_cases h0 : v < 10
  · exact ⟨0, by omega, by omega, fun i hi => by omega⟩
  have D : ∀ e, e ≤ 6 → v < 10 ^ (e + 1) → 10 ^ e ≤ v → v / 10 ^ e < 10 ∧ ∀ i, i < e → ¬ v / 10 ^ i < 10 := by
    intro e he h1 h2
    refine ⟨(Nat.div_lt_iff_lt_mul (p10 he).1).mpr (by rw [Nat.pow_succ, Nat.mul_comm] at h1; exact h1), fun i hi => ?_⟩
    rw [Nat.div_lt_iff_lt_mul (p10 (by omega)).1, Nat.not_lt]
    have : 10 ^ (i + 1) ≤ 10 ^ e := Nat.pow_le_pow_right (by decide) (by omega)
    rw [Nat.pow_succ, Nat.mul_comm] at this
    omega
  have go : ∀ e, e ≤ 6 → v < 10 ^ (e + 1) → ∃ e, 10 ^ e ≤ v ∧ v < 10 ^ (e + 1) ∧ e ≤ 6 := by
    intro e
    induction e with
    | zero => intro _ h1; have h1 : v < 10 := h1; omega
    | succ e ih =>
      intro he h1
      by_cases q : 10 ^ (e + 1) ≤ v
      · exact ⟨e + 1, q, h1, he⟩
      · exact ih (by omega) (by omega)
  obtain ⟨e, a, b, c⟩ := go 6 (Nat.le_refl _) h
  exact ⟨e, c, D e c b a⟩
theorem dgt {v m : Nat} (hv : v < 10000000) (hm : m ≤ 6) : (48 : Int32) + (nI v / nI (10 ^ m) - nI v / nI (10 ^ m) / 10 * 10) = nI (48 + v / 10 ^ m % 10) := by
  have hp := p10 hm
  have hd : v / 10 ^ m ≤ v := Nat.div_le_self _ _
  rw [pk_div (by omega) (by omega) (by omega), show (10 : Int32) = nI 10 from rfl, pk_rem (by omega) (by decide) (by decide), show (48 : Int32) = nI 48 from rfl, nI_add]
theorem digC_ok {h : pq_H} {w : Int32} {out : List Int32} {v e : Nat} (hv : v < 10000000) (he : e ≤ 6) (hl : out.length < 900) (hS : SPC h w out) : ok (lp (fun _ _ => none) (f_X7_spellNumber_l29 (nI v)) 1000 (nI (10 ^ e)) h) (fun h' => frC h h' ∧ SPC h' w (out ++ em v (e + 1))) := by
  refine lp_gen (fun (w : Int32 → pq_H → Option pq_H) (s : Int32 × pq_H) => w s.1 s.2) (fun i s => ∃ m o, m + i = e + 1 ∧ s.1 = (if m = 0 then 0 else nI (10 ^ (m - 1))) ∧ frC h s.2 ∧ SPC s.2 w o ∧ o ++ em v m = out ++ em v (e + 1) ∧ o.length ≤ out.length + i) (e + 1) ?_ ?_ 1000 0 (nI (10 ^ e), h) (by omega) (by omega) ⟨e + 1, out, by omega, by rw [if_neg (by omega)]; rfl, frC.rf h, hS, rfl, by omega⟩
  · intro i s w2 hi ⟨m, o, a1, a2, a3, a4, a5, a6⟩ hw
    obtain ⟨u, h'⟩ := s
    simp only at a2 a3 a4
    obtain ⟨m, rfl⟩ := Nat.exists_eq_add_of_le' (show 1 ≤ m by omega)
    rw [if_neg (by omega), Nat.add_sub_cancel] at a2
    subst a2
    have hp := p10 (show m ≤ 6 by omega)
    show ok (f_X7_spellNumber_l29 (nI v) w2 (nI (10 ^ m)) h') _
    unfold f_X7_spellNumber_l29
    have ne : ¬ nI (10 ^ m) = 0 := nI_ne0 (by omega) (by omega)
    rw [if_neg (nI_nle (by omega) (by omega)), show (nI (10 ^ m) != 0) = true by simp [ne], gd_t, dgt hv (by omega)]
    refine ok_bind (addC_ok (by omega) a4) (fun h2 ⟨k1, k2⟩ => ?_)
    refine hw (_, _) ⟨m, _, by omega, ?_, a3.tr k1, k2, ?_, ?_⟩
    · show nI (10 ^ m) / 10 = _
      rw [show (10 : Int32) = nI 10 from rfl, pk_div (by omega) (by decide) (by decide)]
      by_cases z : m = 0
      · subst z; rw [if_pos rfl]; rfl
      · rw [if_neg z]
        obtain ⟨k, rfl⟩ := Nat.exists_eq_add_of_le' (show 1 ≤ m by omega)
        rw [Nat.pow_succ, Nat.mul_div_cancel _ (by decide), Nat.add_sub_cancel]
    · rw [List.append_assoc]
      exact a5
    · rw [List.length_append]
      show o.length + 1 ≤ _
      omega
  · intro s w2 ⟨m, o, a1, a2, a3, a4, a5, a6⟩
    obtain ⟨u, h'⟩ := s
    simp only at a2 a3 a4
    have hm : m = 0 := by omega
    subst hm
    rw [if_pos rfl] at a2
    subst a2
    show ok (f_X7_spellNumber_l29 (nI v) w2 0 h') _
    unfold f_X7_spellNumber_l29
    rw [if_pos (by decide)]
    have a5 : o ++ [] = _ := a5
    rw [List.append_nil] at a5
    rw [a5] at a4
    exact ok_some ⟨a3, a4⟩
def pwl (c p : Nat) : List Int32 := (if p = 0 then [] else [nI c]) ++ (if p ≤ 1 then [] else [94, nI (48 + p)])
theorem pwl_len (c p : Nat) : (pwl c p).length ≤ 3 := by
  unfold pwl
  split <;> split <;> simp
theorem powC_ok {h : pq_H} {w : Int32} {out : List Int32} {c p : Nat} (hp : p ≤ 6) (hl : out.length < 900) (hS : SPC h w out) : ok (f_X7_spellPower (nI c) (nI p) h) (fun h' => frC h h' ∧ SPC h' w (out ++ pwl c p)) := by
  have j9 : ∀ (h1 : pq_H) (o : List Int32), o.length < 950 → frC h h1 → SPC h1 w o → o ++ (if p ≤ 1 then [] else [94, nI (48 + p)]) = out ++ pwl c p → ok (f_X7_spellPower_j9 (nI p) h1) (fun h' => frC h h' ∧ SPC h' w (out ++ pwl c p)) := by
    intro h1 o ho f1 s1 e
    unfold f_X7_spellPower_j9
    by_cases z : p ≤ 1
    · rw [if_pos (show nI p ≤ 1 from le_nIn (b := 1) z (by omega))]
      rw [if_pos z, List.append_nil] at e
      rw [e] at s1
      exact ok_some ⟨f1, s1⟩
    · rw [if_neg (show ¬ nI p ≤ 1 from nI_ge (a := 1) (by omega) (by omega))]
      rw [if_neg z] at e
      refine ok_bind (addC_ok (by omega) s1) (fun h2 ⟨k1, k2⟩ => ?_)
      refine ok_bind (addC_ok (by rw [List.length_append]; show o.length + 1 < _; omega) k2) (fun h3 ⟨k3, k4⟩ => ?_)
      rw [show (48 : Int32) = nI 48 from rfl, nI_add, List.append_assoc] at k4
      rw [show [(94 : Int32)] ++ [nI (48 + p)] = [94, nI (48 + p)] from rfl, e] at k4
      exact ok_some ⟨(f1.tr k1).tr k3, k4⟩
  unfold f_X7_spellPower
  by_cases z : p = 0
  · subst z
    rw [if_pos (by decide)]
    exact j9 h out (by omega) (frC.rf h) hS rfl
  · rw [if_neg (nI_nle (by omega) (by omega))]
    refine ok_bind (addC_ok (by omega) hS) (fun h2 ⟨k1, k2⟩ => ?_)
    refine j9 h2 _ (by rw [List.length_append]; show out.length + 1 < _; omega) k1 k2 ?_
    unfold pwl
    rw [if_neg z, List.append_assoc]
/-- sign, number, powers of a term -/
def sgl (r : Int32) (out : List Int32) : List Int32 := if r < 0 then [45] else if out = [] then [] else [43]
theorem sgl_len (r : Int32) (out : List Int32) : (sgl r out).length ≤ 1 := by
  unfold sgl
  split
  · simp
  · split <;> simp
theorem abs32 {r : Int32} (h : -1000009 ≤ r.toInt ∧ r.toInt ≤ 1000000) : (if 0 ≤ r then r else 0 - r) = nI r.toInt.natAbs ∧ (if 0 ≤ r then r else -r) = nI r.toInt.natAbs := by
  have z : (0 : Int32).toInt = 0 := rfl
  have c : (0 ≤ r) ↔ 0 ≤ r.toInt := by rw [Int32.le_iff_toInt_le, z]
  have e : (nI r.toInt.natAbs).toInt = (r.toInt.natAbs : Int) := nI_toInt (by omega)
  have n1 : (0 - r).toInt = -r.toInt := by rw [Int32.toInt_sub, z, Int.bmod_eq_of_le (by omega) (by omega)]; omega
  have n2 : (-r).toInt = -r.toInt := by rw [Int32.toInt_neg, Int.bmod_eq_of_le (by omega) (by omega)]
  constructor <;> apply Int32.toInt_inj.mp <;> rw [e] <;> split
  · rename_i q; have := c.mp q; omega
  · rename_i q
    have y : ¬ 0 ≤ r.toInt := fun y => q (c.mpr y)
    omega
  · rename_i q; have := c.mp q; omega
  · rename_i q
    have y : ¬ 0 ≤ r.toInt := fun y => q (c.mpr y)
    omega
end SPELL
