section AMADE
theorem mK_pt {o a b c : Nat} {U V : Nat → Nat → Int} (ho : o ≤ 3) (ha : a < 28) (hb : b < 28) (hc : c < 28) (h : ∀ i, i < o → ∀ t, t < 28 → U i t = V i t) : mK o U a b c = mK o V a b c := by
  have : o = 0 ∨ o = 1 ∨ o = 2 ∨ o = 3 := by omega
  rcases this with rfl | rfl | rfl | rfl
  · rfl
  · rw [mK1, mK1, h 0 (by omega) a ha]
  · rw [mK2, mK2]
    unfold m2
    rw [h 0 (by omega) a ha, h 0 (by omega) b hb, h 1 (by omega) a ha, h 1 (by omega) b hb]
  · rw [mK3, mK3]
    unfold m3 m2
    rw [h 0 (by omega) a ha, h 0 (by omega) b hb, h 0 (by omega) c hc, h 1 (by omega) a ha, h 1 (by omega) b hb, h 1 (by omega) c hc, h 2 (by omega) a ha, h 2 (by omega) b hb, h 2 (by omega) c hc]
theorem FOUND_pt {o : Nat} {U V : Nat → Nat → Int} (ho : o ≤ 3) (h : ∀ i, i < o → ∀ t, t < 28 → U i t = V i t) : FOUND o U → FOUND o V := by
  intro ⟨a, b, c, y1, y2, y3, y4⟩
  have b28 : b < 28 := by split at y2 <;> omega
  have c28 : c < 28 := by split at y3 <;> omega
  exact ⟨a, b, c, y1, y2, y3, by rw [← mK_pt ho y1 b28 c28 h]; exact y4⟩
theorem DEP_pt {R k : Nat} {U V : Nat → Nat → Int} {w v : Nat → Int} (h : ∀ i, i < k → ∀ t, t < R → U i t = V i t) (hw : ∀ t, t < R → w t = v t) : DEP R k U w → DEP R k V v := by
  intro ⟨x, z, hz, e⟩
  refine ⟨x, z, hz, fun t ht => ?_⟩
  rw [← e t ht, hw t ht]
  congr 1
  exact sK_congr (fun i hi => by rw [h i hi t ht])
theorem lp_genR {σ S β : Type} {z : σ} {f : σ → σ} {R : Option β → Prop} (app : σ → S → Option β) (I : Nat → S → Prop) (n : Nat) (hs : ∀ i s w, i < n → I i s → (∀ s', I (i + 1) s' → R (app w s')) → R (app (f w) s)) (he : ∀ s w, I n s → R (app (f w) s)) (N a : Nat) (s : S) (ha : a ≤ n) (hN : n < a + N) (hI : I a s) : R (app (lp z f N) s) := by
  induction N generalizing a s with
  | zero => omega
  | succ N ih =>
    rw [lp_s]
    by_cases c : a = n
    · subst c; exact he s _ hI
    · exact hs a s _ (by omega) hI (fun s' h => ih (a + 1) s' (by omega) (by omega) h)
theorem shareM_ok {h : pq_H} {k g : Nat} {p : Int32} {sl : Nat → Nat} (hk : k ≤ 3) (e : rI h 0 31 = nI k) (hs : ∀ i, i < k → rI h 18 i = nI (sl i) ∧ sl i < 6) (hg : g < 6) : (∃ i, i < k ∧ sl i = g ∧ lp (fun _ => none) (f_X11_made_l118 (nI g) p h) 1000 0 = f_X11_made_j138 p (nI i) h) ∨ ((∀ i, i < k → sl i ≠ g) ∧ lp (fun _ => none) (f_X11_made_l118 (nI g) p h) 1000 0 = some (p.toInt64, h)) := by
  refine lp_genR (R := fun x => (∃ i, i < k ∧ sl i = g ∧ x = f_X11_made_j138 p (nI i) h) ∨ ((∀ i, i < k → sl i ≠ g) ∧ x = some (p.toInt64, h))) (fun (w : Int32 → Option (Int64 × pq_H)) (s : Int32) => w s) (fun i s => s = nI i ∧ ∀ j, j < i → sl j ≠ g) k ?_ ?_ 1000 0 0 (by omega) (by omega) ⟨rfl, fun j hj => by omega⟩
  · intro i s w hi ⟨k1, k2⟩ hw
    subst k1
    show (∃ i', i' < k ∧ sl i' = g ∧ f_X11_made_l118 (nI g) p h w (nI i) = f_X11_made_j138 p (nI i') h) ∨ ((∀ i, i < k → sl i ≠ g) ∧ f_X11_made_l118 (nI g) p h w (nI i) = some (p.toInt64, h))
    obtain ⟨s1, s2⟩ := hs i hi
    by_cases z : sl i = g
    · refine Or.inl ⟨i, hi, z, ?_⟩
      unfold f_X11_made_l118
      rw [e, if_neg (nI_ge hi (by omega)), inbN (show i < 3 by omega) (by decide), gd_t, nI_clamp (by omega), s1, if_pos (by rw [z])]
    · have e2 : f_X11_made_l118 (nI g) p h w (nI i) = w (nI (i + 1)) := by
        unfold f_X11_made_l118
        rw [e, if_neg (nI_ge hi (by omega)), inbN (show i < 3 by omega) (by decide), gd_t, nI_clamp (by omega), s1, if_neg (fun y => z ((ieq (by omega) (by omega)).mp y)), nI_1]
      rw [e2]
      refine hw _ ⟨rfl, fun j hj => ?_⟩
      by_cases y : j = i
      · subst y; exact z
      · exact k2 j (by omega)
  · intro s w ⟨k1, k2⟩
    subst k1
    show (∃ i', i' < k ∧ sl i' = g ∧ f_X11_made_l118 (nI g) p h w (nI k) = f_X11_made_j138 p (nI i') h) ∨ ((∀ i, i < k → sl i ≠ g) ∧ f_X11_made_l118 (nI g) p h w (nI k) = some (p.toInt64, h))
    refine Or.inr ⟨k2, ?_⟩
    unfold f_X11_made_l118 f_X11_made_j167
    rw [e, if_pos (le_nIn (Nat.le_refl _) (by omega))]
theorem bd62_o {x : Int} (h : -1200000000000000000 ≤ x ∧ x ≤ 1200000000000000000) : bd62 (Int64.ofInt x) ∧ (Int64.ofInt x).toInt = x := by
  have e := oT (x := x) (by omega)
  unfold bd62
  rw [e]
  omega
end AMADE
