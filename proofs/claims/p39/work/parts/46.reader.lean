section READER
/-- the taped letters -/
def TPC (h : pq_H) (m : Nat) (L : Nat → Int32) : Prop := rI h 61 1 = nI m ∧ ∀ i, i < m → rI h 62 i = L i
def chr (m : Nat) (L : Nat → Int32) (e : Int32) (p : Nat) : Int32 := if p < m then L p else e
theorem TPC.wI {h : pq_H} {m : Nat} {L : Nat → Int32} (l : TPC h m L) (q k : Nat) (v : Int32) (hq : q ≠ 61 ∧ q ≠ 62) : TPC (wI h q k v) m L := ⟨by rw [rI_ne (by omega)]; exact l.1, fun i hi => by rw [rI_ne (by omega)]; exact l.2 i hi⟩
theorem TPC.fr {h h' : pq_H} {m : Nat} {L : Nat → Int32} (l : TPC h m L) (f : ∀ P k, (P = 61 ∨ P = 62) → rI h' P k = rI h P k) : TPC h' m L := ⟨(f 61 1 (by omega)).trans l.1, fun i hi => (f 62 i (by omega)).trans (l.2 i hi)⟩
theorem at_ch {h : pq_H} {m p : Nat} {L : Nat → Int32} (l : TPC h m L) (hm : m ≤ 72) (hp : p < 1000) : f_X3_at (nI p) h = some (chr m L (-1) p) := by
  unfold f_X3_at f_X10_notBelow chr
  rw [l.1, if_neg (nI_pos (by omega))]
  by_cases z : p < m
  · rw [if_pos (nI_lt z (by omega)), if_neg (by decide), inbN (show p < 72 by omega) (by decide), gd_t, nI_clamp (by omega), if_pos z, l.2 p z]
  · rw [if_neg (nI_nlt (by omega) (by omega)), if_pos rfl, if_neg z]
theorem ch_no {c k : Nat} (hc : c < 1000) (hk : k < 1000) (h0 : 0 < k) : ¬ (-nI k : Int32) = nI c := by
  intro z
  have a := congrArg Int32.toInt z
  rw [nI_toInt (by omega), Int32.toInt_neg, nI_toInt (by omega), Int.bmod_eq_of_le (by omega) (by omega)] at a
  omega
theorem chC {m p c : Nat} {L : Nat → Int32} (hc : c < 1000) : (chr m L (-1) p = nI c) ↔ (p < m ∧ L p = nI c) := by
  unfold chr
  by_cases z : p < m
  · rw [if_pos z]; exact ⟨fun a => ⟨z, a⟩, fun a => a.2⟩
  · rw [if_neg z]; exact ⟨fun a => absurd a (ch_no (k := 1) hc (by omega) (by omega)), fun a => absurd a.1 z⟩
theorem chM {m p c : Nat} {L : Nat → Int32} (hc : c < 1000) : (chr m L (-9) p = nI c) ↔ (p < m ∧ L p = nI c) := by
  unfold chr
  by_cases z : p < m
  · rw [if_pos z]; exact ⟨fun a => ⟨z, a⟩, fun a => a.2⟩
  · rw [if_neg z]; exact ⟨fun a => absurd a (ch_no (k := 9) hc (by omega) (by omega)), fun a => absurd a.1 z⟩
end READER
