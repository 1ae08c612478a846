section CORE
def ok {β : Type} (x : Option β) (Q : β → Prop) : Prop := ∃ r, x = some r ∧ Q r
theorem ok_some {β : Type} {r : β} {Q : β → Prop} (h : Q r) : ok (some r) Q := ⟨r, rfl, h⟩
theorem ok_gd {β : Type} {c : Bool} {F : Option β} {Q : β → Prop} (hc : c = true) (h : ok F Q) : ok (gd c F) Q := by subst hc; exact h
theorem ok_bind {α β : Type} {x : Option α} {f : α → Option β} {P : α → Prop} {Q : β → Prop} (hx : ok x P) (h : ∀ r, P r → ok (f r) Q) : ok (x.bind f) Q := by
  obtain ⟨r, e, p⟩ := hx
  subst e
  exact h r p
theorem ok_be {α β : Type} {x : Option α} {f : α → Option β} {r : α} {Q : β → Prop} (hx : x = some r) (h : ok (f r) Q) : ok (x.bind f) Q := by
  subst hx
  exact h
theorem ok_bd2 {α β : Type} {x : Option (α × pq_H)} {f : α → pq_H → Option β} {P : α × pq_H → Prop} {Q : β → Prop} (hx : ok x P) (h : ∀ r h, P (r, h) → ok (f r h) Q) : ok (bd2 x f) Q := by
  obtain ⟨⟨r, h1⟩, e, p⟩ := hx
  subst e
  exact h r h1 p
theorem ok_ite {β : Type} {c : Prop} [Decidable c] {a b : Option β} {Q : β → Prop} (ha : c → ok a Q) (hb : ¬ c → ok b Q) : ok (if c then a else b) Q := by
  by_cases h : c
  · rw [if_pos h]; exact ha h
  · rw [if_neg h]; exact hb h
theorem ok_pos {β : Type} {c : Prop} [Decidable c] {a b : Option β} {Q : β → Prop} (h : c) (ha : ok a Q) : ok (if c then a else b) Q := by rw [if_pos h]; exact ha
theorem ok_neg {β : Type} {c : Prop} [Decidable c] {a b : Option β} {Q : β → Prop} (h : ¬ c) (hb : ok b Q) : ok (if c then a else b) Q := by rw [if_neg h]; exact hb
theorem ok_mono {β : Type} {x : Option β} {P Q : β → Prop} (hx : ok x P) (h : ∀ r, P r → Q r) : ok x Q := by
  obtain ⟨r, e, p⟩ := hx
  exact ⟨r, e, h r p⟩
theorem ok_eq {β : Type} {x : Option β} {r : β} (h : ok x (fun y => y = r)) : x = some r := by
  obtain ⟨y, e, p⟩ := h
  rw [e, p]
theorem eq_ok {β : Type} {x : Option β} {r : β} (h : x = some r) : ok x (fun y => y = r) := ⟨r, h, rfl⟩
/-- a loop, by a property of what is left of the fuel -/
theorem lp_run {σ : Type} {z : σ} {f : σ → σ} (P : Nat → σ → Prop) (h0 : P 0 z) (hs : ∀ n w, P n w → P (n + 1) (f w)) : ∀ n, P n (lp z f n) := by
  intro n
  induction n with
  | zero => exact h0
  | succ n ih => exact hs n _ ih
theorem gd_t {β : Type} (F : Option β) : gd true F = F := rfl
theorem hl_d {β : Type} (h : pq_H) (F : pq_H → β) : hl h F = F h := rfl
theorem bd2_some {α β : Type} (r : α) (h : pq_H) (f : α → pq_H → Option β) : bd2 (some (r, h)) f = f r h := rfl
theorem inbN {i n : Nat} (h : i < n) (hn : n < 2 ^ 31) : inb (nI i) n = true := by
  unfold inb
  have h1 : ¬ nI i < 0 := nI_pos (by omega)
  rw [nI_clamp (by omega)]
  simp [h1]
  omega
theorem inbF {i : Int32} {n : Nat} (h : inb i n = true) (hn : n < 2 ^ 31) : ∃ j : Nat, j < n ∧ i = nI j := vp_in_of (inb_in h) hn
theorem rI_wI (h : pq_H) (p k q j : Nat) (v : Int32) : rI (wI h p k v) q j = if q = p ∧ j = k then v else rI h q j := rfl
theorem rI_wJ (h : pq_H) (p k q j : Nat) (v : Int64) : rI (wJ h p k v) q j = rI h q j := rfl
theorem rI_wR (h : pq_H) (p k q j : Nat) (v : Option Nat) : rI (wR h p k v) q j = rI h q j := rfl
theorem rJ_wJ (h : pq_H) (p k q j : Nat) (v : Int64) : rJ (wJ h p k v) q j = if q = p ∧ j = k then v else rJ h q j := rfl
theorem rJ_wI (h : pq_H) (p k q j : Nat) (v : Int32) : rJ (wI h p k v) q j = rJ h q j := rfl
theorem rJ_wR (h : pq_H) (p k q j : Nat) (v : Option Nat) : rJ (wR h p k v) q j = rJ h q j := rfl
theorem rR_wR (h : pq_H) (p k q j : Nat) (v : Option Nat) : rR (wR h p k v) q j = if q = p ∧ j = k then v else rR h q j := rfl
theorem rR_wI (h : pq_H) (p k q j : Nat) (v : Int32) : rR (wI h p k v) q j = rR h q j := rfl
theorem rR_wJ (h : pq_H) (p k q j : Nat) (v : Int64) : rR (wJ h p k v) q j = rR h q j := rfl
/-- numbers of terms: s the powers behind the first letter, k the last one's -/
def tri (s : Nat) : Nat := s * (s + 1) / 2
theorem tri_succ (s : Nat) : tri (s + 1) = tri s + (s + 1) := by
  unfold tri
  have h : (s + 1) * (s + 1 + 1) = s * (s + 1) + (s + 1) * 2 := by
    rw [Nat.mul_comm s, ← Nat.mul_add, Nat.add_assoc]
  rw [h, Nat.add_mul_div_right _ _ (by decide)]
theorem tri_mono {a b : Nat} (h : a ≤ b) : tri a ≤ tri b := by
  induction b with
  | zero => rw [Nat.le_zero.mp h]; exact Nat.le_refl _
  | succ b ih =>
    by_cases hb : a ≤ b
    · exact Nat.le_trans (ih hb) (by rw [tri_succ]; omega)
    · rw [show a = b + 1 by omega]; exact Nat.le_refl _
theorem tri_lt {a b k : Nat} (h : a < b) (hk : k ≤ a) : tri a + k < tri b := by
  have := tri_mono (show a + 1 ≤ b from h)
  rw [tri_succ] at this
  omega
theorem tri_inj {a b k c : Nat} (hk : k ≤ a) (hc : c ≤ b) (h : tri a + k = tri b + c) : a = b ∧ k = c := by
  rcases Nat.lt_trichotomy a b with g | g | g
  · have := tri_lt g hk; omega
  · subst g; exact ⟨rfl, by omega⟩
  · have := tri_lt g hc; omega
theorem tri_ex (t : Nat) : ∃ s k, k ≤ s ∧ t = tri s + k := by
  induction t with
  | zero => exact ⟨0, 0, Nat.le_refl _, rfl⟩
  | succ t ih =>
    obtain ⟨s, k, h, e⟩ := ih
    by_cases hk : k < s
    · exact ⟨s, k + 1, hk, by omega⟩
    · exact ⟨s + 1, 0, by omega, by rw [tri_succ]; omega⟩
theorem tri_exD {d t : Nat} (h : t < tri (d + 1)) : ∃ s k, s ≤ d ∧ k ≤ s ∧ t = tri s + k := by
  obtain ⟨s, k, hk, e⟩ := tri_ex t
  refine ⟨s, k, ?_, hk, e⟩
  by_cases g : s ≤ d
  · exact g
  · have := tri_mono (show d + 1 ≤ s by omega); omega
theorem tri_b {s : Nat} (h : s ≤ 40) : tri s ≤ 820 := tri_mono h
theorem tri18 {s : Nat} (h : s ≤ 18) : tri s ≤ 171 := tri_mono h
theorem tri6 {s : Nat} (h : s ≤ 6) : tri s ≤ 21 := tri_mono h
theorem termOf_nI {j k : Nat} (h : j + k ≤ 1000) : f_X10_termOf (nI j) (nI k) = nI (tri (j + k) + k) := by
  unfold f_X10_termOf
  rw [nI_add, nI_1, pk_mul]
  have e : (2 : Int32) = nI 2 := rfl
  have hb : (j + k) * (j + k + 1) ≤ 1000 * 1001 := Nat.mul_le_mul h (by omega)
  rw [e, pk_div (by omega) (by decide) (by decide), nI_add]
  rfl
theorem termOf_nI0 {j : Nat} (h : j ≤ 1000) : f_X10_termOf (nI j) 0 = nI (tri j) := termOf_nI (k := 0) (by omega)
theorem termsOf_nI {d : Nat} (h : d ≤ 1000) : f_X10_termsOf (nI d) = nI (tri (d + 1)) := by
  unfold f_X10_termsOf
  have e : (2 : Int32) = nI 2 := rfl
  have hb : (d + 1) * (d + 2) ≤ 1001 * 1002 := Nat.mul_le_mul (by omega) (by omega)
  rw [nI_1, e, nI_add, pk_mul, pk_div (by omega) (by decide) (by decide)]
  rfl
theorem behindA_nI : ∀ s, s < 19 → ∀ k, k < s + 1 → f_X10_behindA (nI (tri s + k)) = some (nI s) := by decide +kernel
end CORE
