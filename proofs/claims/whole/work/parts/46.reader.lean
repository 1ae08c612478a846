section READER
/-- the taped letters -/
def TPC (h : pq_H) (m : Nat) (L : Nat → Int32) : Prop := rI h 61 1 = nI m ∧ ∀ i, i < m → rI h 62 i = L i
def TPM (h : pq_H) (m : Nat) (L : Nat → Int32) : Prop := rI h 0 11 = nI m ∧ ∀ i, i < m → rI h 9 i = L i
def chr (m : Nat) (L : Nat → Int32) (e : Int32) (p : Nat) : Int32 := if p < m then L p else e
theorem TPC.wI {h : pq_H} {m : Nat} {L : Nat → Int32} (l : TPC h m L) (q k : Nat) (v : Int32) (hq : q ≠ 61 ∧ q ≠ 62) : TPC (wI h q k v) m L := ⟨by rw [rI_ne (by omega)]; exact l.1, fun i hi => by rw [rI_ne (by omega)]; exact l.2 i hi⟩
theorem TPM.wI {h : pq_H} {m : Nat} {L : Nat → Int32} (l : TPM h m L) (q k : Nat) (v : Int32) (hq : q ≠ 9 ∧ (q ≠ 0 ∨ k ≠ 11)) : TPM (wI h q k v) m L := ⟨by rw [rI_ne (by omega)]; exact l.1, fun i hi => by rw [rI_ne (by omega)]; exact l.2 i hi⟩
theorem TPC.fr {h h' : pq_H} {m : Nat} {L : Nat → Int32} (l : TPC h m L) (f : ∀ P k, (P = 61 ∨ P = 62) → rI h' P k = rI h P k) : TPC h' m L := ⟨(f 61 1 (by omega)).trans l.1, fun i hi => (f 62 i (by omega)).trans (l.2 i hi)⟩
theorem TPM.fr {h h' : pq_H} {m : Nat} {L : Nat → Int32} (l : TPM h m L) (f : ∀ P k, (P = 9 ∨ (P = 0 ∧ k = 11)) → rI h' P k = rI h P k) : TPM h' m L := ⟨(f 0 11 (by omega)).trans l.1, fun i hi => (f 9 i (by omega)).trans (l.2 i hi)⟩
theorem at_ch {h : pq_H} {m p : Nat} {L : Nat → Int32} (l : TPC h m L) (hm : m ≤ 72) (hp : p < 1000) : f_X3_at (nI p) h = some (chr m L (-1) p) := by
  unfold f_X3_at f_X10_notBelow chr
  rw [l.1, if_neg (nI_pos (by omega))]
  by_cases z : p < m
  · rw [if_pos (nI_lt z (by omega)), if_neg (by decide), inbN (show p < 72 by omega) (by decide), gd_t, nI_clamp (by omega), if_pos z, l.2 p z]
  · rw [if_neg (nI_nlt (by omega) (by omega)), if_pos rfl, if_neg z]
theorem next_ch {h : pq_H} {m p : Nat} {L : Nat → Int32} (l : TPM h m L) (hm : m ≤ 72) (hp : p < 1000) (e : rI h 0 12 = nI p) : f_X11_next h = some (chr m L (-9) p) := by
  unfold f_X11_next chr
  rw [l.1, e]
  by_cases z : p < m
  · rw [if_neg (nI_ge z (by omega)), inbN (show p < 72 by omega) (by decide), gd_t, nI_clamp (by omega), if_pos z, l.2 p z]
  · rw [if_pos (le_nIn (by omega) (by omega)), if_neg z]
theorem ch_no {c k : Nat} (hc : c < 1000) (hk : k < 1000) (h0 : 0 < k) : ¬ (-nI k : Int32) = nI c := by
  intro z
  have a := congrArg Int32.toInt z
  rw [nI_toInt (by omega), Int32.toInt_neg, nI_toInt (by omega), Int.bmod_eq_of_le (by omega) (by omega)] at a
  omega
theorem chC {m p c : Nat} {L : Nat → Int32} (hc : c < 1000) : (chr m L (-1) p = nI c) ↔ (p < m ∧ L p = nI c) := by
  unfold chr
  by_cases z : p < m
  · rw [if_pos z]; exact ⟨fun a => ⟨z, a⟩, fun a => a.2⟩
  · rw [if_neg z]; exact ⟨fun a => absurd a (ch_no (k := 1) hc (by omega) (by omega)), fun a => absurd a.1 z⟩
theorem chM {m p c : Nat} {L : Nat → Int32} (hc : c < 1000) : (chr m L (-9) p = nI c) ↔ (p < m ∧ L p = nI c) := by
  unfold chr
  by_cases z : p < m
  · rw [if_pos z]; exact ⟨fun a => ⟨z, a⟩, fun a => a.2⟩
  · rw [if_neg z]; exact ⟨fun a => absurd a (ch_no (k := 9) hc (by omega) (by omega)), fun a => absurd a.1 z⟩
def dg (m : Nat) (L : Nat → Int32) (p : Nat) : Bool := decide (p < m) && f_X11_isIn (L p) 48 57
theorem digitC {h : pq_H} {m p : Nat} {L : Nat → Int32} (l : TPC h m L) (hm : m ≤ 72) (hp : p < 1000) : f_X3_hasDigit (nI p) h = some (dg m L p) := by
  unfold f_X3_hasDigit
  rw [at_ch l hm hp, Option.bind_some, Option.bind_some]
  unfold chr dg f_X11_isIn
  by_cases z : p < m
  · rw [if_pos z, decide_eq_true z, Bool.true_and]
    split
    · rfl
    · split <;> rfl
  · rw [if_neg z, decide_eq_false z, Bool.false_and, if_pos (by decide)]
theorem digitM {h : pq_H} {m p : Nat} {L : Nat → Int32} (l : TPM h m L) (hm : m ≤ 72) (hp : p < 1000) (e : rI h 0 12 = nI p) : f_X11_isDigit h = some (dg m L p) := by
  unfold f_X11_isDigit
  rw [next_ch l hm hp e, Option.bind_some]
  unfold chr dg
  by_cases z : p < m
  · rw [if_pos z, decide_eq_true z, Bool.true_and]
  · rw [if_neg z, decide_eq_false z, Bool.false_and]
    rfl
theorem isIn_ex {c : Int32} {a b : Nat} (ha : a < 1000) (hb : b < 1000) (h : f_X11_isIn c (nI a) (nI b) = true) : ∃ x, a ≤ x ∧ x ≤ b ∧ c = nI x := by
  unfold f_X11_isIn at h
  by_cases z : c < nI a
  · rw [if_pos z] at h; cases h
  rw [if_neg z] at h
  by_cases y : nI b < c
  · rw [if_pos y] at h; cases h
  have z := Int32.le_iff_toInt_le.mp (Int32.not_lt.mp z)
  have y := Int32.le_iff_toInt_le.mp (Int32.not_lt.mp y)
  rw [nI_toInt (by omega)] at z y
  refine ⟨c.toInt.toNat, by omega, by omega, ?_⟩
  apply Int32.toInt_inj.mp
  rw [nI_toInt (by omega)]
  omega
theorem dg_ex {m p : Nat} {L : Nat → Int32} (h : dg m L p = true) : p < m ∧ ∃ d, d ≤ 9 ∧ L p = nI (48 + d) := by
  unfold dg at h
  rw [Bool.and_eq_true, decide_eq_true_iff] at h
  obtain ⟨x, x1, x2, x3⟩ := isIn_ex (a := 48) (b := 57) (by decide) (by decide) h.2
  exact ⟨h.1, x - 48, by omega, by rw [x3]; congr 1; omega⟩
/-- the digit of a power -/
theorem pw_no {c : Int32} (h : f_X11_isIn c 49 54 = false) : c - 48 < 1 ∨ 6 < c - 48 := by
  by_cases z : c - 48 < 1
  · exact Or.inl z
  right
  by_cases y : 6 < c - 48
  · exact y
  exfalso
  have z := Int32.le_iff_toInt_le.mp (Int32.not_lt.mp z)
  have y := Int32.le_iff_toInt_le.mp (Int32.not_lt.mp y)
  have c1 : (1 : Int32).toInt = 1 := rfl
  have c6 : (6 : Int32).toInt = 6 := rfl
  obtain ⟨w, hw⟩ : ∃ w, w = c - 48 := ⟨_, rfl⟩
  rw [← hw] at z y
  have e : c = w + 48 := by rw [hw, Int32.sub_add_cancel]
  have ec : c.toInt = w.toInt + 48 := by
    rw [e, Int32.toInt_add, show (48 : Int32).toInt = 48 from rfl, Int.bmod_eq_of_le (by omega) (by omega)]
  unfold f_X11_isIn at h
  rw [if_neg (fun q => by have q := Int32.lt_iff_toInt_lt.mp q; rw [show (49 : Int32).toInt = 49 from rfl] at q; omega), if_neg (fun q => by have q := Int32.lt_iff_toInt_lt.mp q; rw [show (54 : Int32).toInt = 54 from rfl] at q; omega)] at h
  cases h
end READER
