section POINTS
variable {hC hM : pq_H}
def ptV (F : pF) (n t : Nat) : Int64 := valF F (nI (n - (skT t).1)) (nI ((skT t).1 - (skT t).2)) (nI (skT t).2)
def pv (F : pF) (g n p : Nat) : Int64 := ptV F n (num g n p)
theorem ptV_eq {F : pF} {n s k : Nat} (hk : k ≤ s) : ptV F n (tri s + k) = valF F (nI (n - s)) (nI (s - k)) (nI k) := by
  unfold ptV
  rw [skT_eq hk]
theorem worthAt_ok {h : pq_H} {F : pF} {g n p : Nat} (hd : F.2.2.1 ≤ 6) (h1 : 1 ≤ g) (h2 : g ≤ 7) (hn : n ≤ 18) (hW : WC h F.2.2.1 (wr0 F g)) (hp : p < plc g n) : f_X9_worthAt (nI g) (nI n) (nI p) h = some (pv F g n p) := by
  obtain ⟨s, k, a1, a2, a3, a4⟩ := num_at h1 h2 hp
  have o := onS_iff.mp a4
  unfold f_X9_worthAt
  rw [number_ok h1 h2 (by omega) hp, a3, behindA_nI s (by omega) k (by omega), Option.bind_some, termOf_nI0 (by omega), pk_sub (a := tri s + k) (by omega), show tri s + k - tri s = k by omega, pk_sub a1, pk_sub a2, bind_id, worth_ok (by omega) hW]
  unfold pv
  rw [a3, ptV_eq a2, worth_val]
  refine ⟨o.1.imp id (fun e => ?_), o.2.1.imp id (fun e => ?_), o.2.2.imp id (fun e => ?_)⟩
  · rw [show n - s = 0 by omega]; rfl
  · rw [show s - k = 0 by omega]; rfl
  · rw [e]; rfl
def FP (F : pF) (g : Nat) (q : Int32) (n : Nat) (r : Int32) : Prop := fstN (fun p => f_X10_fails (pv F g n p) q) (plc g n) r
theorem plc_b {g n : Nat} (hn : n ≤ 12) : plc g n ≤ 91 := Nat.le_trans plc_le (tri_mono (show n + 1 ≤ 13 by omega))
theorem failPt_ok {h : pq_H} {F : pF} {g n : Nat} (hd : F.2.2.1 ≤ 6) (h1 : 1 ≤ g) (h2 : g ≤ 7) (hn : n ≤ 12) (hW : WC h F.2.2.1 (wr0 F g)) (q : Int32) : ok (f_X9_failingPoint (nI g) q (nI n) h) (FP F g q n) := by
  have hb := plc_b (g := g) hn
  unfold f_X9_failingPoint
  refine lp_forR (fun i => ∀ j, j < i → f_X10_fails (pv F g n j) q = false) (plc g n) ?_ ?_ 1000 0 (by omega) (by omega) (fun j hj => by omega)
  · intro i w hi hI hw
    unfold f_X9_failingPoint_l3
    rw [places_ok h1 h2 (by omega), if_neg (nI_ge hi (by omega)), worthAt_ok hd h1 h2 (by omega) hW hi, Option.bind_some, nI_1]
    by_cases z : f_X10_fails (pv F g n i) q = true
    · rw [if_pos z]
      exact ok_some (Or.inl ⟨i, hi, z, hI, rfl⟩)
    · rw [if_neg z]
      refine hw (fun j hj => ?_)
      by_cases e : j = i
      · subst e; exact Bool.eq_false_iff.mpr z
      · exact hI j (by omega)
  · intro w hI
    unfold f_X9_failingPoint_l3
    rw [places_ok h1 h2 (by omega), if_pos (le_nIn (Nat.le_refl _) (by omega))]
    exact ok_some (Or.inr ⟨hI, rfl⟩)
def FS (F : pF) (g : Nat) (q : Int32) (p4 : Int32) (r : Int32) : Prop := (∃ n, 1 ≤ n ∧ n ≤ 12 ∧ (∃ v, FP F g q n v ∧ ¬ v = -9 ∧ r = if p4 = 0 then nI n else v) ∧ ∀ j, 1 ≤ j → j < n → FP F g q j (-9)) ∨ ((∀ j, 1 ≤ j → j ≤ 12 → FP F g q j (-9)) ∧ r = -9)
theorem FS_eq {F : pF} {g : Nat} {q p4 r r' : Int32} (h : FS F g q p4 r) (h' : FS F g q p4 r') : r = r' := by
  rcases h with ⟨n, a1, a2, ⟨v, a3, a4, a5⟩, a6⟩ | ⟨a1, a2⟩ <;> rcases h' with ⟨m, b1, b2, ⟨u, b3, b4, b5⟩, b6⟩ | ⟨b1, b2⟩
  · rcases Nat.lt_trichotomy n m with z | z | z
    · exact absurd (fstN_eq a3 (b6 n a1 z)) a4
    · subst z
      rw [a5, b5, fstN_eq a3 b3]
    · exact absurd (fstN_eq b3 (a6 m b1 z)) b4
  · exact absurd (fstN_eq a3 (b1 n a1 a2)) a4
  · exact absurd (fstN_eq b3 (a1 m b1 b2)) b4
  · rw [a2, b2]
theorem failSz_ok {h : pq_H} {F : pF} {g : Nat} (hd : F.2.2.1 ≤ 6) (h1 : 1 ≤ g) (h2 : g ≤ 7) (hW : WC h F.2.2.1 (wr0 F g)) (q : Int32) : ok (f_X9_failingSize (nI g) q h) (fun r => FS F g q 0 r) := by
  unfold f_X9_failingSize
  refine lp_forR (fun i => 1 ≤ i ∧ ∀ j, 1 ≤ j → j < i → FP F g q j (-9)) 13 ?_ ?_ 1000 1 (by omega) (by omega) ⟨by omega, fun j h1 h2 => by omega⟩
  · intro i w hi ⟨hi1, hI⟩ hw
    unfold f_X9_failingSize_l2
    rw [if_neg (show ¬ (12 : Int32) < nI i from nI_nlt (a := 12) (by omega) (by omega))]
    refine ok_bind (failPt_ok hd h1 h2 (by omega) hW q) (fun r hr => ?_)
    by_cases z : r = -9
    · rw [if_pos z, nI_1]
      refine hw ⟨by omega, fun j j1 j2 => ?_⟩
      by_cases e : j = i
      · subst e; rw [← z]; exact hr
      · exact hI j j1 (by omega)
    · rw [if_neg z]
      exact ok_some (Or.inl ⟨i, hi1, by omega, ⟨r, hr, z, by rw [if_pos rfl]⟩, hI⟩)
  · intro w ⟨_, hI⟩
    unfold f_X9_failingSize_l2
    rw [if_pos (show (12 : Int32) < nI 13 from nI_lt (a := 12) (by omega) (by omega))]
    exact ok_some (Or.inr ⟨fun j j1 j2 => hI j j1 (by omega), rfl⟩)
/-- the lowest of the first c points -/
def LO (F : pF) (g n c : Nat) (r : Int32) (v : Int64) : Prop := ∃ p, p < c ∧ r = nI p ∧ v = pv F g n p ∧ (∀ j, j < c → pv F g n p ≤ pv F g n j) ∧ ∀ j, j < p → pv F g n p < pv F g n j
theorem LO_eq {F : pF} {g n c : Nat} {r r' : Int32} {v v' : Int64} (h : LO F g n c r v) (h' : LO F g n c r' v') : r = r' ∧ v = v' := by
  obtain ⟨p, a1, a2, a3, a4, a5⟩ := h
  obtain ⟨p', b1, b2, b3, b4, b5⟩ := h'
  have e : p = p' := by
    rcases Nat.lt_trichotomy p p' with z | z | z
    · exact absurd (b5 p z) (Int64.not_lt.mpr (a4 p' b1))
    · exact z
    · exact absurd (a5 p' z) (Int64.not_lt.mpr (b4 p a1))
  subst e
  exact ⟨a2.trans b2.symm, a3.trans b3.symm⟩
theorem le64 {a b : Int64} : a ≤ b ↔ a.toInt ≤ b.toInt := Int64.le_iff_toInt_le
theorem lt64 {a b : Int64} : a < b ↔ a.toInt < b.toInt := Int64.lt_iff_toInt_lt
theorem LO_keep {F : pF} {g n c : Nat} {r : Int32} {v : Int64} (h : LO F g n c r v) (hv : v ≤ pv F g n c) : LO F g n (c + 1) r v := by
  obtain ⟨p, a1, a2, a3, a4, a5⟩ := h
  refine ⟨p, by omega, a2, a3, fun j hj => ?_, a5⟩
  by_cases e : j = c
  · subst e; rw [← a3]; exact hv
  · exact a4 j (by omega)
theorem LO_new {F : pF} {g n c : Nat} {r : Int32} {v : Int64} (h : c = 0 ∨ (LO F g n c r v ∧ ¬ v ≤ pv F g n c)) : LO F g n (c + 1) (nI c) (pv F g n c) := by
  refine ⟨c, by omega, rfl, rfl, fun j hj => ?_, fun j hj => ?_⟩
  · by_cases e : j = c
    · subst e; exact le64.mpr (Int.le_refl _)
    · rcases h with h | ⟨⟨p, a1, a2, a3, a4, a5⟩, hv⟩
      · omega
      · have b := le64.mp (a4 j (by omega))
        rw [a3] at hv
        have d := lt64.mp (Int64.not_le.mp hv)
        exact le64.mpr (by omega)
  · rcases h with h | ⟨⟨p, a1, a2, a3, a4, a5⟩, hv⟩
    · omega
    · have b := le64.mp (a4 j hj)
      rw [a3] at hv
      have d := lt64.mp (Int64.not_le.mp hv)
      exact lt64.mpr (by omega)
theorem lowPt_ok {h : pq_H} {F : pF} {g n : Nat} (hd : F.2.2.1 ≤ 6) (h1 : 1 ≤ g) (h2 : g ≤ 7) (hn : n ≤ 12) (hW : WC h F.2.2.1 (wr0 F g)) (hp : 0 < plc g n) : ok (f_X9_lowestPoint (nI g) (nI n) h) (fun r => ∃ p, p < plc g n ∧ r = nI p ∧ LO F g n (plc g n) (nI p) (pv F g n p)) := by
  have hb := plc_b (g := g) hn
  unfold f_X9_lowestPoint
  refine ok_be (worthAt_ok (p := 0) hd h1 h2 (by omega) hW hp) ?_
  refine lp_gen (fun (w : Int32 → Int64 → Int32 → Option Int32) (s : Int32 × Int64 × Int32) => w s.1 s.2.1 s.2.2) (fun i s => 1 ≤ i ∧ s.2.2 = nI i ∧ LO F g n i s.1 s.2.1) (plc g n) ?_ ?_ 1000 1 (0, pv F g n 0, 1) (by omega) (by omega) ⟨by omega, rfl, LO_new (r := 0) (v := 0) (Or.inl rfl)⟩
  · intro i s w hi hI hw
    obtain ⟨a, v, c⟩ := s
    obtain ⟨e0, e1, e2⟩ := hI
    simp only at e1 e2
    subst e1
    show ok (f_X9_lowestPoint_l14 (nI g) (nI n) h w a v (nI i)) _
    unfold f_X9_lowestPoint_l14 f_X9_lowestPoint_j49
    rw [places_ok h1 h2 (by omega), if_neg (nI_ge hi (by omega)), worthAt_ok hd h1 h2 (by omega) hW hi, Option.bind_some, nI_1]
    by_cases z : v ≤ pv F g n i
    · rw [if_pos z]
      exact hw (_, _, _) ⟨by omega, rfl, LO_keep e2 z⟩
    · rw [if_neg z]
      exact hw (_, _, _) ⟨by omega, rfl, LO_new (Or.inr ⟨e2, z⟩)⟩
  · intro s w hI
    obtain ⟨a, v, c⟩ := s
    obtain ⟨e0, e1, e2⟩ := hI
    simp only at e1 e2
    subst e1
    show ok (f_X9_lowestPoint_l14 (nI g) (nI n) h w a v (nI (plc g n))) _
    unfold f_X9_lowestPoint_l14
    rw [places_ok h1 h2 (by omega), if_pos (le_nIn (Nat.le_refl _) (by omega))]
    obtain ⟨p, b1, b2, b3, b4⟩ := id e2
    rw [b2, b3] at e2
    exact ok_some ⟨p, b1, b2, e2⟩
def abv (F : pF) (g n : Nat) (c : Nat) : Nat := cnt (fun p => decide (0 < pv F g n p)) c
/-- where the reference stands -/
def pos (h : pq_H) (n s k : Nat) : Prop := rI h 0 22 = nI (n - s) ∧ rI h 0 23 = nI (s - k) ∧ rI h 0 24 = nI k
theorem fstN_step {g : Nat → Bool} {c : Nat} {r : Int32} (hc : c < 100000) (h : fstN g c r) : (0 ≤ r → fstN g (c + 1) r) ∧ (¬ 0 ≤ r → (g c = false → fstN g (c + 1) r) ∧ (g c = true → fstN g (c + 1) (nI c))) := by
  rcases h with ⟨d, a2, a3, a4, a5⟩ | ⟨a1, a2⟩
  · refine ⟨fun _ => Or.inl ⟨d, by omega, a3, a4, a5⟩, fun z => ?_⟩
    refine ⟨fun y => Or.inl ⟨d, by omega, a3, a4, a5⟩, fun y => ?_⟩
    exfalso
    apply z
    rw [a5]
    exact nI_pos' (by omega)
  · refine ⟨fun z => ?_, fun z => ⟨fun y => Or.inr ⟨fun d hd => ?_, a2⟩, fun y => Or.inl ⟨c, by omega, y, a1, rfl⟩⟩⟩
    · rw [a2] at z; exact absurd z (by decide)
    · by_cases e : d = c
      · subst e; exact y
      · exact a1 d (by omega)
end POINTS
