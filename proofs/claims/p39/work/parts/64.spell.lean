section SPELLC
variable {F : pF} {h : pq_H} {w : Int32}
theorem em_nmb {v e : Nat} (hv : v < 100) (h1 : v / 10 ^ e < 10) (h2 : ∀ i, i < e → ¬ v / 10 ^ i < 10) : em v (e + 1) = nmb v := by
  unfold nmb
  by_cases c : v < 10
  · have e0 : e = 0 := by
      by_cases z : e = 0
      · exact z
      · have := h2 0 (by omega)
        simp at this
        omega
    subst e0
    rw [if_pos c]
    show [nI (48 + v / 10 ^ 0 % 10)] = _
    rw [show v / 10 ^ 0 % 10 = v by simp; omega]
  · have e1 : e = 1 := by
      by_cases z : e = 0
      · subst z; simp at h1; omega
      · by_cases y : e = 1
        · exact y
        · have := h2 1 (by omega)
          simp at this
          omega
    subst e1
    rw [if_neg c]
    show [nI (48 + v / 10 ^ 1 % 10), nI (48 + v / 10 ^ 0 % 10)] = _
    rw [show v / 10 ^ 1 % 10 = v / 10 by simp; omega, show v / 10 ^ 0 % 10 = v % 10 by simp]
theorem num_c {v : Nat} (hv : v < 100) {out : List Int32} (hl : out.length < 900) (hS : SPC h w out) : ok (f_X7_spellNumber (nI v) h) (fun h' => frC h h' ∧ SPC h' w (out ++ nmb v)) := by
  obtain ⟨e, he, h1, h2⟩ := ex_ok (v := v) (by omega)
  have dv : ∀ i, i ≤ 6 → nI v / nI (10 ^ i) = nI (v / 10 ^ i) := fun i hi => pk_div (by omega) (p10 hi).1 (by have := p10 hi; omega)
  have le : ∀ i, v / 10 ^ i ≤ v := fun i => Nat.div_le_self _ _
  have ml : ∀ i, nI (10 ^ i) * 10 = nI (10 ^ (i + 1)) := fun i => by rw [show (10 : Int32) = nI 10 from rfl, pk_mul, Nat.pow_succ]
  have ne : ∀ i, i ≤ 6 → (nI (10 ^ i) != 0) = true := fun i hi => by
    have := p10 hi
    simp [nI_ne0 (n := 10 ^ i) (by omega) (by omega)]
  rw [← em_nmb hv h1 h2]
  unfold f_X7_spellNumber
  refine lp_gen (fun (w : Int32 → Int32 → Option pq_H) (s : Int32 × Int32) => w s.1 s.2) (fun i s => s.1 = nI (10 ^ i) ∧ s.2 = nI i) e ?_ ?_ 1000 0 (1, 0) (by omega) (by omega) ⟨rfl, rfl⟩
  · intro i s w2 hi ⟨e1, e2⟩ hw
    obtain ⟨a, b⟩ := s
    simp only at e1 e2
    subst e1 e2
    show ok (f_X7_spellNumber_l4 (nI v) h w2 (nI (10 ^ i)) (nI i)) _
    unfold f_X7_spellNumber_l4
    have := le i
    rw [if_neg (show ¬ (8 : Int32) ≤ nI i from nI_ge (b := 8) (by omega) (by omega)), ne i (by omega), gd_t, dv i (by omega), if_neg (show ¬ nI (v / 10 ^ i) < 10 from fun y => h2 i hi ((ilt (b := 10) (by omega) (by omega)).mp y)), ml, nI_1]
    exact hw (_, _) ⟨rfl, rfl⟩
  · intro s w2 ⟨e1, e2⟩
    obtain ⟨a, b⟩ := s
    simp only at e1 e2
    subst e1 e2
    show ok (f_X7_spellNumber_l4 (nI v) h w2 (nI (10 ^ e)) (nI e)) _
    unfold f_X7_spellNumber_l4
    have := le e
    rw [if_neg (show ¬ (8 : Int32) ≤ nI e from nI_ge (b := 8) (by omega) (by omega)), ne e he, gd_t, dv e he, if_pos (show nI (v / 10 ^ e) < 10 from nI_lt (b := 10) h1 (by omega))]
    exact digC_ok (by omega) he hl hS
theorem nmb_len (v : Nat) : (nmb v).length ≤ 2 := by
  unfold nmb
  split <;> simp
theorem nbl_len (D : Nat) (c : Int32) : (nbl D c).length ≤ 2 := by
  unfold nbl
  split
  · simp
  · exact nmb_len _
theorem term_c (hF : okF F) (hs60 : smB 60 F) {s k f : Nat} (hs : s ≤ F.2.2.1) (hk : k ≤ s) (hf : f < 12) (hC : FormC h f F) (hl : (tx F.2.2.1 (cfT F) (tri s + k)).length < 600) (hS : SPC h w (tx F.2.2.1 (cfT F) (tri s + k))) : ok (f_X7_spellTerm f (nI (F.2.2.1 - s)) (nI (s - k)) (nI k) h) (fun h' => frC h h' ∧ SPC h' w (tx F.2.2.1 (cfT F) (tri s + k + 1))) := by
  have hd := hF.2.2.1
  have ht : tri s + k < tri (F.2.2.1 + 1) := tri_lt (by omega) hk
  have sm := hs60 _ ht
  have ecf : cfT F (tri s + k) = cfV F s k := by
    unfold cfT
    rw [skT_eq hk]
  rw [ecf] at sm
  have ehas : hasV F (F.2.2.1 - s) (s - k) k = cfV F s k := rfl
  have dd0 : (nI F.2.2.1 = 0) ↔ F.2.2.1 = 0 := nI_eq (b := 0) (by omega) (by decide)
  rw [tx_s, ecf, skT_eq hk]
  obtain ⟨out, eo⟩ : ∃ out, out = tx F.2.2.1 (cfT F) (tri s + k) := ⟨_, rfl⟩
  rw [← eo] at hl hS ⊢
  clear eo
  by_cases z : cfV F s k = 0
  · rw [if_pos z]
    unfold f_X7_spellTerm
    rw [has_ok hC hF (by omega), Option.bind_some, ehas, if_pos z]
    exact ok_some ⟨frC.rf h, hS⟩
  rw [if_neg z]
  obtain ⟨a1, a2⟩ := abs32 (r := cfV F s k) (by omega)
  have nv : (cfV F s k).toInt.natAbs < 100 := by omega
  have q1 := pwl_len 97 (F.2.2.1 - s)
  have q2 := pwl_len 98 (s - k)
  have q3 := pwl_len 99 k
  have q0 := sgl_len (cfV F s k) out
  have q4 := nbl_len F.2.2.1 (cfV F s k)
  have one : (nI (cfV F s k).toInt.natAbs = 1) ↔ (cfV F s k).toInt.natAbs = 1 := nI_eq (b := 1) (by omega) (by decide)
  have shape : out ++ (sgl (cfV F s k) out ++ bdy F.2.2.1 (cfV F s k) s k) = out ++ sgl (cfV F s k) out ++ nbl F.2.2.1 (cfV F s k) ++ pwl 97 (F.2.2.1 - s) ++ pwl 98 (s - k) ++ pwl 99 k := by
    unfold bdy
    simp only [List.append_assoc]
  rw [shape]
  have j69 : ∀ h1, frC h h1 → SPC h1 w (out ++ sgl (cfV F s k) out ++ nbl F.2.2.1 (cfV F s k)) → ok (f_X7_spellTerm_j69 (nI (F.2.2.1 - s)) (nI (s - k)) (nI k) h1) (fun h' => frC h h' ∧ SPC h' w (out ++ sgl (cfV F s k) out ++ nbl F.2.2.1 (cfV F s k) ++ pwl 97 (F.2.2.1 - s) ++ pwl 98 (s - k) ++ pwl 99 k)) := by
    intro h1 f1 s1
    unfold f_X7_spellTerm_j69
    refine ok_bind (powC_ok (c := 97) (by omega) (by simp only [List.length_append]; omega) s1) (fun h2 ⟨b1, b2⟩ => ?_)
    refine ok_bind (powC_ok (c := 98) (by omega) (by simp only [List.length_append]; omega) b2) (fun h3 ⟨b3, b4⟩ => ?_)
    refine ok_bind (powC_ok (c := 99) (by omega) (by simp only [List.length_append]; omega) b4) (fun h4 ⟨b5, b6⟩ => ?_)
    exact ok_some ⟨((f1.tr b1).tr b3).tr b5, b6⟩
  have j43 : ∀ h1, frC h h1 → SPC h1 w (out ++ sgl (cfV F s k) out) → ok (f_X7_spellTerm_j43 f (nI (F.2.2.1 - s)) (nI (s - k)) (nI k) (cfV F s k) h1) (fun h' => frC h h' ∧ SPC h' w (out ++ sgl (cfV F s k) out ++ nbl F.2.2.1 (cfV F s k) ++ pwl 97 (F.2.2.1 - s) ++ pwl 98 (s - k) ++ pwl 99 k)) := by
    intro h1 f1 s1
    have j63 : nbl F.2.2.1 (cfV F s k) = nmb (cfV F s k).toInt.natAbs → ok (f_X7_spellTerm_j63 (nI (F.2.2.1 - s)) (nI (s - k)) (nI k) (nI (cfV F s k).toInt.natAbs) h1) (fun h' => frC h h' ∧ SPC h' w (out ++ sgl (cfV F s k) out ++ nbl F.2.2.1 (cfV F s k) ++ pwl 97 (F.2.2.1 - s) ++ pwl 98 (s - k) ++ pwl 99 k)) := by
      intro en
      unfold f_X7_spellTerm_j63
      refine ok_bind (num_c nv (by simp only [List.length_append]; omega) s1) (fun h2 ⟨b1, b2⟩ => ?_)
      rw [← en] at b2
      exact j69 h2 (f1.tr b1) b2
    unfold f_X7_spellTerm_j43
    rw [a1, (hC.frC hf f1).2.2.1]
    by_cases y : (cfV F s k).toInt.natAbs = 1
    · rw [if_pos (one.mpr y)]
      by_cases x : F.2.2.1 = 0
      · rw [if_pos (dd0.mpr x)]
        exact j63 (by unfold nbl; rw [if_neg (fun c => c.2 x)])
      · rw [if_neg (fun c => x (dd0.mp c))]
        refine j69 h1 f1 ?_
        rw [show nbl F.2.2.1 (cfV F s k) = [] by unfold nbl; rw [if_pos ⟨y, x⟩], List.append_nil]
        exact s1
    · rw [if_neg (fun c => y (one.mp c))]
      exact j63 (by unfold nbl; rw [if_neg (fun c => y c.1)])
  unfold f_X7_spellTerm
  rw [has_ok hC hF (by omega), Option.bind_some, ehas, if_neg z]
  by_cases y : 0 ≤ cfV F s k
  · rw [if_pos y, hS.1]
    have ny : ¬ cfV F s k < 0 := Int32.not_lt.mpr y
    by_cases x : out = []
    · subst x
      rw [if_pos (show nI ([] : List Int32).length ≤ 0 by decide)]
      refine j43 h (frC.rf h) ?_
      unfold sgl
      rw [if_neg ny, if_pos rfl]
      exact hS
    · have xl : 0 < out.length := List.length_pos_iff.mpr x
      rw [if_neg (nI_nle xl (by omega))]
      refine ok_bind (addC_ok (by omega) hS) (fun h1 ⟨b1, b2⟩ => ?_)
      refine j43 h1 b1 ?_
      unfold sgl
      rw [if_neg ny, if_neg x]
      exact b2
  · rw [if_neg y]
    refine ok_bind (addC_ok (by omega) hS) (fun h1 ⟨b1, b2⟩ => ?_)
    refine j43 h1 b1 ?_
    unfold sgl
    rw [if_pos (Int32.not_le.mp y)]
    exact b2
theorem tx_len (D : Nat) (cf : Nat → Int32) : ∀ t, (tx D cf t).length ≤ 12 * t
  | 0 => Nat.le_refl _
  | t + 1 => by
    have ih := tx_len D cf t
    rw [tx_s]
    split
    · omega
    · have q0 := sgl_len (cf t) (tx D cf t)
      have q1 := pwl_len 97 (D - (skT t).1)
      have q2 := pwl_len 98 ((skT t).1 - (skT t).2)
      have q3 := pwl_len 99 (skT t).2
      have q4 := nbl_len D (cf t)
      unfold bdy
      simp only [List.length_append]
      omega
def fin48 (l : List Int32) : List Int32 := if l = [] then [48] else l
/-- the form's text -/
def txF (F : pF) : List Int32 := fin48 (tx F.2.2.1 (cfT F) (tri (F.2.2.1 + 1)))
theorem spell_c (hF : okF F) (hs60 : smB 60 F) {f : Nat} (hf : f < 12) (hC : FormC h f F) (w : Int32) : ok (f_X7_spell f w h) (fun h' => frC h h' ∧ SPC h' w (txF F)) := by
  have hd := hF.2.2.1
  have hb := tri28 hd
  have hl := fun t => tx_len F.2.2.1 (cfT F) t
  unfold f_X7_spell
  simp only [hl_d]
  refine lp_forH (fun s h' => frC h h' ∧ SPC h' w (tx F.2.2.1 (cfT F) (tri s))) (F.2.2.1 + 1) ?_ ?_ 1000 0 _ (by omega) (by omega) ⟨?_, ?_, ?_, ?_⟩
  · intro s h' w18 hs ⟨f1, s1⟩ hw
    have hF' := hC.frC hf f1
    unfold f_X7_spell_l18
    rw [hF'.2.2.1, if_neg (nI_nlt (by omega) (by omega))]
    refine lp_forH (fun k h2 => frC h h2 ∧ SPC h2 w (tx F.2.2.1 (cfT F) (tri s + k))) (s + 1) ?_ ?_ 1000 0 h' (by omega) (by omega) ⟨f1, s1⟩
    · intro k h2 w29 hk ⟨f2, s2⟩ hw2
      have hF2 := hC.frC hf f2
      have ht : tri s + k < tri (F.2.2.1 + 1) := tri_lt hs (by omega)
      have hll := hl (tri s + k)
      unfold f_X7_spell_l29
      rw [if_neg (nI_nlt (by omega) (by omega)), hF2.2.2.1, pk_sub (by omega), pk_sub (by omega)]
      refine ok_bind (term_c hF hs60 (by omega) (by omega) hf hF2 (by omega) s2) (fun h3 ⟨b1, b2⟩ => ?_)
      rw [nI_1]
      exact hw2 h3 ⟨f2.tr b1, b2⟩
    · intro h2 w29 ⟨f2, s2⟩
      unfold f_X7_spell_l29 f_X7_spell_j58
      rw [if_pos (nI_lt (by omega) (by omega)), nI_1]
      refine hw h2 ⟨f2, ?_⟩
      rw [tri_succ]
      exact s2
  · intro h' w18 ⟨f1, s1⟩
    have hF' := hC.frC hf f1
    unfold f_X7_spell_l18 f_X7_spell_j64
    have hll := hl (tri (F.2.2.1 + 1))
    rw [hF'.2.2.1, if_pos (nI_lt (by omega) (by omega)), s1.1]
    unfold txF fin48
    by_cases z : tx F.2.2.1 (cfT F) (tri (F.2.2.1 + 1)) = []
    · rw [if_pos (by rw [z]; rfl), if_pos z]
      refine ok_bind (addC_ok (by omega) s1) (fun h3 ⟨b1, b2⟩ => ?_)
      rw [z] at b2
      exact ok_some ⟨f1.tr b1, b2⟩
    · have zl := List.length_pos_iff.mpr z
      rw [if_neg (nI_ne0 (by omega) (by omega)), if_neg z]
      exact ok_some ⟨f1, s1⟩
  · exact ((frC.wI _ _ _ _ (by omega)).tr (frC.wI _ _ _ _ (by omega))).tr (frC.wI _ _ _ _ (by omega))
  · show _ = nI 0
    rw [rI_ne (by omega), rI_ne (by omega), rI_same]
    rfl
  · rw [rI_same]
  · rw [rI_ne (by omega), rI_same]
    exact Or.inr ⟨fun j hj => absurd hj (Nat.not_lt_zero _), rfl⟩
variable {n f : Nat} {Fs : Nat → pF}
theorem spelled_size (S : St h n Fs) (hf : f < n) (hs60 : smB 60 (Fs f)) : ok (f_X10_spelled (nI f) (-1) h) (fun r => frC h r.2 ∧ r.1 = nI (txF (Fs f)).length) := by
  have h6 := S.1
  obtain ⟨c1, c3⟩ := S.2.2 f hf
  unfold f_X10_spelled
  rw [if_neg (Bf (S.lacks hf)), if_pos (by decide), inbN (show f < 6 by omega) (by decide), gd_t, nI_clamp (by omega)]
  refine ok_bind (spell_c c3 hs60 (by omega) c1 (-1)) (fun h' ⟨a, b⟩ => ?_)
  rw [if_pos rfl]
  exact ok_some ⟨a, b.1⟩
theorem spelled_at {k : Nat} {c : Int32} (S : St h n Fs) (hf : f < n) (hs60 : smB 60 (Fs f)) (hk : (txF (Fs f))[k]? = some c) (hk2 : k < 1000) : ok (f_X10_spelled (nI f) (nI k) h) (fun r => frC h r.2 ∧ r.1 = c) := by
  have h6 := S.1
  obtain ⟨c1, c3⟩ := S.2.2 f hf
  have hlen : (txF (Fs f)).length < 1000 := by
    have := tx_len (Fs f).2.2.1 (cfT (Fs f)) (tri ((Fs f).2.2.1 + 1))
    have := tri28 c3.2.2.1
    unfold txF fin48
    split
    · simp
    · omega
  unfold f_X10_spelled
  rw [if_neg (Bf (S.lacks hf)), if_pos (Int32.le_trans (show (-1 : Int32) ≤ 0 by decide) (nI_pos' (by omega))), inbN (show f < 6 by omega) (by decide), gd_t, nI_clamp (by omega)]
  refine ok_bind (spell_c c3 hs60 (by omega) c1 (nI k)) (fun h' ⟨a, b⟩ => ?_)
  rw [if_neg (show ¬ nI k = -1 from fun z => nI_pos (n := k) (by omega) (by rw [z]; decide))]
  refine ok_some ⟨a, ?_⟩
  rcases b.2.2 with ⟨j, j1, j2, j3⟩ | ⟨j1, -⟩
  · have := (ieq (by omega) (by omega)).mp j2
    subst this
    rw [hk] at j3
    exact (Option.some.inj j3).symm
  · have := (List.getElem?_eq_some_iff.mp hk).1
    exact absurd rfl (j1 k this)
end SPELLC
