section WORD
/-- a text at a place, byte by byte -/
def mtB (L : Nat → Int32) (p : Nat) : List Int32 → Bool
  | [] => true
  | b :: bs => if L p = b then mtB L (p + 1) bs else false
def twd : Nat → List Int32
  | 0 => [115, 117, 109]
  | 1 => [116, 105, 109, 101, 115]
  | 2 => [108, 105, 102, 116]
  | 3 => [109, 105, 110, 117, 115]
  | _ => [115, 105, 100, 101]
def small (m : Nat) (L : Nat → Int32) (p : Nat) : Bool := decide (p < m) && f_X11_isIn (L p) 97 122
theorem smallC {h : pq_H} {m p : Nat} {L : Nat → Int32} (l : TPC h m L) (hm : m ≤ 72) (hp : p < 1000) : f_X3_hasSmall (nI p) h = some (small m L p) := by
  unfold f_X3_hasSmall
  rw [at_ch l hm hp, Option.bind_some, Option.bind_some]
  unfold chr small f_X11_isIn
  by_cases z : p < m
  · rw [if_pos z, decide_eq_true z, Bool.true_and]
    split
    · rfl
    · split <;> rfl
  · rw [if_neg z, decide_eq_false z, Bool.false_and, if_pos (by decide)]
theorem smallM {m p : Nat} {L : Nat → Int32} : f_X11_isIn (chr m L (-9) p) 97 122 = small m L p := by
  unfold chr small
  by_cases z : p < m
  · rw [if_pos z, decide_eq_true z, Bool.true_and]
  · rw [if_neg z, decide_eq_false z, Bool.false_and]
    rfl
theorem small_lt {m p : Nat} {L : Nat → Int32} (h : small m L p = true) : p < m := by
  unfold small at h
  rw [Bool.and_eq_true, decide_eq_true_iff] at h
  exact h.1
/-- where a run of small letters ends -/
theorem end_ex (m : Nat) (L : Nat → Int32) (p : Nat) (hp : p ≤ m) : ∃ e, p ≤ e ∧ e ≤ m ∧ (∀ i, p ≤ i → i < e → small m L i = true) ∧ small m L e = false := by
  have go : ∀ x, ∀ p, p + x = m → ∃ e, p ≤ e ∧ e ≤ m ∧ (∀ i, p ≤ i → i < e → small m L i = true) ∧ small m L e = false := by
    intro x
    induction x with
    | zero =>
      intro p h
      refine ⟨p, by omega, by omega, fun i _ _ => by omega, ?_⟩
      exact b2n (fun y => by have := small_lt y; omega)
    | succ x ih =>
      intro p h
      by_cases z : small m L p = true
      · obtain ⟨e, a, b, c, d⟩ := ih (p + 1) (by omega)
        refine ⟨e, by omega, b, fun i h1 h2 => ?_, d⟩
        by_cases y : i = p
        · subst y; exact z
        · exact c i (by omega) h2
      · exact ⟨p, by omega, by omega, fun i _ _ => by omega, b2n z⟩
  exact go (m - p) p (by omega)
theorem textC {h : pq_H} {m p : Nat} {L : Nat → Int32} (l : TPC h m L) (hm : m ≤ 72) (hp : p < 100) (w : Nat) (hw : w < 5) (hl : p + (twd w).length ≤ m) : f_X3_hasText w (nI p) h = some (mtB L p (twd w)) := by
  have ch : ∀ j, p + j < m → f_X3_at (nI p + nI j) h = some (L (p + j)) := fun j hj => by
    rw [nI_add, at_ch l hm (by omega)]
    unfold chr
    rw [if_pos hj]
  have st : ∀ (bs : List Int32) (j N : Nat), j + bs.length = (twd w).length → bs.length < N → (∀ k, k < bs.length → ((txB.getD w []).getD (nI (j + k)).toNatClampNeg 0) = bs.getD k 0) → lp (fun _ => none) (f_X3_hasText_l2 w (nI p) h) N (nI j) = some (mtB L (p + j) bs) := by
    intro bs
    have hlw : txL.getD w 0 = (twd w).length ∧ (twd w).length ≤ 5 := by
      have : w = 0 ∨ w = 1 ∨ w = 2 ∨ w = 3 ∨ w = 4 := by omega
      rcases this with rfl | rfl | rfl | rfl | rfl <;> decide
    induction bs with
    | nil =>
      intro j N h1 h2 h3
      obtain ⟨N, rfl⟩ := Nat.exists_eq_add_of_le' (show 1 ≤ N by have : 0 < N := h2; omega)
      have h1 : j = (twd w).length := h1
      rw [lp_s]
      unfold f_X3_hasText_l2
      rw [hlw.1, if_pos (le_nIn (by omega) (by omega))]
      rfl
    | cons b bs ih =>
      intro j N h1 h2 h3
      have h1 : j + (bs.length + 1) = (twd w).length := h1
      have h2 : bs.length + 1 < N := h2
      obtain ⟨N, rfl⟩ := Nat.exists_eq_add_of_le' (show 1 ≤ N by omega)
      rw [lp_s]
      have e0 := h3 0 (by show 0 < bs.length + 1; omega)
      rw [Nat.add_zero] at e0
      have e0 : ((txB.getD w []).getD (nI j).toNatClampNeg 0) = b := e0
      have nx := ih (j + 1) N (by omega) (by omega) (fun k hk => by
        have := h3 (k + 1) (by show k + 1 < bs.length + 1; omega)
        rw [show j + (k + 1) = j + 1 + k by omega] at this
        exact this)
      unfold f_X3_hasText_l2 at *
      rw [hlw.1, if_neg (nI_ge (by omega) (by omega)), ch j (by omega), Option.bind_some, inbN (by omega) (by omega), gd_t, e0, nI_1]
      show (if L (p + j) = b then _ else _) = some (if L (p + j) = b then mtB L (p + j + 1) bs else false)
      by_cases z : L (p + j) = b
      · rw [if_pos z, if_pos z, ← hlw.1]
        exact nx
      · rw [if_neg z, if_neg z]
  have := st (twd w) 0 1000 (by omega) (by
    have : w = 0 ∨ w = 1 ∨ w = 2 ∨ w = 3 ∨ w = 4 := by omega
    rcases this with rfl | rfl | rfl | rfl | rfl <;> decide) (by
    have : w = 0 ∨ w = 1 ∨ w = 2 ∨ w = 3 ∨ w = 4 := by omega
    rcases this with rfl | rfl | rfl | rfl | rfl <;> decide)
  exact this
def wq (L : Nat → Int32) (p e w : Nat) : Bool := decide (p + (twd w).length = e) && mtB L p (twd w)
/-- the word between p and e, -1 where it is none of the five -/
def wd (L : Nat → Int32) (p e : Nat) : Int32 := if wq L p e 0 = true then 0 else if wq L p e 1 = true then 1 else if wq L p e 2 = true then 2 else if wq L p e 3 = true then 3 else if wq L p e 4 = true then 4 else -1
end WORD
