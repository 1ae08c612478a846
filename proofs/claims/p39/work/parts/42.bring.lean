section BRING
variable {hC hM : pq_H}
theorem on7 (d s k : Nat) : onS 7 d s k = true := onS_iff.mpr ⟨Or.inl rfl, Or.inl rfl, Or.inl rfl⟩
theorem wr7 (F : pF) (s k : Nat) : wr0 F 7 s k = (cfV F s k).toInt64 := by
  unfold wr0
  rw [if_pos (on7 _ _ _)]
/-- one of the class's own loops over its row -/
def EQ {β : Type} (x : Option β) (P : pq_H → Prop) (f : pq_H → Option β) : Prop := ∃ h, P h ∧ x = f h
theorem EQ_bind {β : Type} {x : Option pq_H} {g f : pq_H → Option β} {P Q : pq_H → Prop} (hx : ok x P) (h : ∀ h1, P h1 → EQ (g h1) Q f) : EQ (x.bind g) Q f := by
  obtain ⟨r, e, p⟩ := hx
  subst e
  exact h r p
theorem lp_forE {β : Type} {z : Int32 → pq_H → Option β} {f : (Int32 → pq_H → Option β) → Int32 → pq_H → Option β} {Q : pq_H → Prop} {e : pq_H → Option β} (I : Nat → pq_H → Prop) (n : Nat) (hs : ∀ i h w, i < n → I i h → ∃ h', f w (nI i) h = w (nI (i + 1)) h' ∧ I (i + 1) h') (he : ∀ h w, I n h → EQ (f w (nI n) h) Q e) (N a : Nat) (h : pq_H) (ha : a ≤ n) (hN : n < a + N) (hI : I a h) : EQ (lp z f N (nI a) h) Q e := by
  induction N generalizing a h with
  | zero => omega
  | succ N ih =>
    rw [lp_s]
    by_cases c : a = n
    · subst c; exact he h _ hI
    · obtain ⟨h', e1, e2⟩ := hs a h (lp z f N) (by omega) hI
      rw [e1]
      exact ih (a + 1) h' (by omega) (by omega) e2
theorem neg64 {x : Int32} (h : -1000009 ≤ x.toInt ∧ x.toInt ≤ 1000000) : (-x).toInt64 = -x.toInt64 := by
  apply Int64.toInt_inj.mp
  rw [Int32.toInt_toInt64, Int32.toInt_neg, Int64.toInt_neg, Int32.toInt_toInt64, Int.bmod_eq_of_le (by omega) (by omega), Int.bmod_eq_of_le (by omega) (by omega)]
end BRING
