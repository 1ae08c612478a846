section WORD2
theorem lp_6 {σ : Type} (z : σ) (f : σ → σ) : lp z f 1000 = f (f (f (f (f (f (lp z f 994)))))) := rfl
theorem wq_t {L : Nat → Int32} {p e w : Nat} : (wq L p e w = true) ↔ (p + (twd w).length = e ∧ mtB L p (twd w) = true) := by
  unfold wq
  rw [Bool.and_eq_true, decide_eq_true_iff]
theorem wordStep {h : pq_H} {m p e : Nat} {L : Nat → Int32} (l : TPC h m L) (hm : m ≤ 72) (r : rR h 65 5 = some 61) (hpe : p ≤ e) (he : e ≤ m) (w : Nat) (hw : w < 5) (W : Int32 → Option Int32) : f_X0_wordAt_l32 (nI p) h (nI e) W (nI w) = if wq L p e w = true then some (nI w) else W (nI (w + 1)) := by
  unfold f_X0_wordAt_l32 f_X0_wordAt_j69
  have ht : f_X0_textOf (nI w) = w ∧ txL.getD w 0 = (twd w).length ∧ (twd w).length ≤ 5 := by
    have : w = 0 ∨ w = 1 ∨ w = 2 ∨ w = 3 ∨ w = 4 := by omega
    rcases this with rfl | rfl | rfl | rfl | rfl <;> decide
  have g : (rR h 65 5 == some 61) = true := by rw [r]; rfl
  rw [if_neg (show ¬ (5 : Int32) ≤ nI w from nI_ge (b := 5) hw (by omega)), ht.1, ht.2.1, pk_sub hpe, g, gd_t, nI_1]
  by_cases z : p + (twd w).length = e
  · rw [if_pos ((ieq (by omega) (by omega)).mpr (by omega)), textC l hm (by omega) w hw (by omega), Option.bind_some]
    by_cases y : mtB L p (twd w) = true
    · rw [if_pos y, if_pos (wq_t.mpr ⟨z, y⟩)]
    · rw [if_neg y, if_neg (fun x => y (wq_t.mp x).2)]
  · rw [if_neg (fun x => z (by have := (ieq (by omega) (by omega)).mp x; omega)), if_neg (fun x => z (wq_t.mp x).1)]
theorem wordC {h : pq_H} {m p e : Nat} {L : Nat → Int32} (l : TPC h m L) (hm : m ≤ 72) (r : rR h 65 5 = some 61) (hpe : p ≤ e) (he : e ≤ m) (e1 : ∀ i, p ≤ i → i < e → small m L i = true) (e2 : small m L e = false) : f_X0_wordAt (nI p) h = some (wd L p e) := by
  have g : (rR h 65 5 == some 61) = true := by rw [r]; rfl
  have j30 : f_X0_wordAt_j30 (nI p) h (nI e) = some (wd L p e) := by
    unfold f_X0_wordAt_j30
    rw [lp_6]
    have s0 := wordStep l hm r hpe he 0 (by omega)
    have s1 := wordStep l hm r hpe he 1 (by omega)
    have s2 := wordStep l hm r hpe he 2 (by omega)
    have s3 := wordStep l hm r hpe he 3 (by omega)
    have s4 := wordStep l hm r hpe he 4 (by omega)
    rw [show (0 : Int32) = nI 0 from rfl, s0, s1, s2, s3, s4]
    have s5 : ∀ W, f_X0_wordAt_l32 (nI p) h (nI e) W (nI 5) = some (-1) := fun W => by
      unfold f_X0_wordAt_l32
      rw [if_pos (by decide)]
    rw [s5]
    unfold wd
    repeat' split
    all_goals rfl
  unfold f_X0_wordAt
  apply ok_eq
  refine lp_forR (fun i => p ≤ i) e ?_ ?_ 1000 p hpe (by omega) (Nat.le_refl _)
  · intro i w hi hp hw
    unfold f_X0_wordAt_l2
    rw [g, gd_t, gd_t, l.1, if_neg (nI_ge (by omega) (by omega)), smallC l hm (by omega), Option.bind_some, e1 i hp hi, if_pos rfl, nI_1]
    exact hw (by omega)
  · intro w _
    unfold f_X0_wordAt_l2
    rw [g, gd_t, gd_t, l.1, j30]
    by_cases z : e = m
    · rw [if_pos (le_nIn (by omega) (by omega))]
      exact ok_some rfl
    · rw [if_neg (nI_ge (by omega) (by omega)), smallC l hm (by omega), Option.bind_some, e2, if_neg (by decide)]
      exact ok_some rfl
theorem cell9 {h : pq_H} {m p : Nat} {L : Nat → Int32} (l : TPM h m L) (hm : m ≤ 72) (j : Nat) (hj : p + j < m) (x y : Option Bool) (b : Int32) : gd (inb (nI p + nI j) 72) (if rI h 9 (nI p + nI j).toNatClampNeg = b then x else y) = if L (p + j) = b then x else y := by
  rw [nI_add, inbN (show p + j < 72 by omega) (by decide), gd_t, nI_clamp (by omega), l.2 _ hj]
theorem ite_b {c : Prop} [Decidable c] (x : Bool) : (if c then some x else some false) = some (if c then x else false) := by
  split <;> rfl
theorem word3 {h : pq_H} {m p e : Nat} {L : Nat → Int32} (l : TPM h m L) (hm : m ≤ 72) (hpe : p ≤ e) (he : e ≤ m) (k : rI h 0 12 = nI e) (a b c : Int32) : f_X11_isWord (nI p) a b c 0 0 h = some (decide (p + 3 = e) && mtB L p [a, b, c]) := by
  unfold f_X11_isWord f_X11_isWord_j19 f_X11_isWord_j86
  rw [if_pos rfl, if_pos rfl, k, pk_sub hpe]
  by_cases z : p + 3 = e
  · rw [if_pos (show nI (e - p) = 3 by rw [show e - p = 3 by omega]; rfl), decide_eq_true z, Bool.true_and]
    have c0 := fun x y => cell9 l hm (p := p) 0 (by omega) x y a
    have c1 := fun x y => cell9 l hm (p := p) 1 (by omega) x y b
    have c2 := fun x y => cell9 l hm (p := p) 2 (by omega) x y c
    rw [show nI p + nI 0 = nI p from nI_add ..] at c0
    rw [c0, show (1 : Int32) = nI 1 from rfl, c1, show (2 : Int32) = nI 2 from rfl, c2, if_pos (show (3 : Int32) < 4 by decide), if_pos (show (3 : Int32) < 5 by decide), ite_b, ite_b, ite_b]
    rfl
  · rw [if_neg (show ¬ nI (e - p) = 3 from fun x => z (by have := (ieq (b := 3) (by omega) (by omega)).mp x; omega)), decide_eq_false z]
    rfl
theorem word4 {h : pq_H} {m p e : Nat} {L : Nat → Int32} (l : TPM h m L) (hm : m ≤ 72) (hpe : p ≤ e) (he : e ≤ m) (k : rI h 0 12 = nI e) (a b c d : Int32) (hd : ¬ d = 0) : f_X11_isWord (nI p) a b c d 0 h = some (decide (p + 4 = e) && mtB L p [a, b, c, d]) := by
  unfold f_X11_isWord f_X11_isWord_j19 f_X11_isWord_j86
  rw [if_pos rfl, if_neg hd, k, pk_sub hpe]
  by_cases z : p + 4 = e
  · rw [if_pos (show nI (e - p) = 4 by rw [show e - p = 4 by omega]; rfl), decide_eq_true z, Bool.true_and]
    have c0 := fun x y => cell9 l hm (p := p) 0 (by omega) x y a
    have c1 := fun x y => cell9 l hm (p := p) 1 (by omega) x y b
    have c2 := fun x y => cell9 l hm (p := p) 2 (by omega) x y c
    have c3 := fun x y => cell9 l hm (p := p) 3 (by omega) x y d
    rw [show nI p + nI 0 = nI p from nI_add ..] at c0
    rw [c0, show (1 : Int32) = nI 1 from rfl, c1, show (2 : Int32) = nI 2 from rfl, c2, if_neg (show ¬ (4 : Int32) < 4 by decide), show (3 : Int32) = nI 3 from rfl, c3, if_pos (show (4 : Int32) < 5 by decide), ite_b, ite_b, ite_b, ite_b]
    rfl
  · rw [if_neg (show ¬ nI (e - p) = 4 from fun x => z (by have := (ieq (b := 4) (by omega) (by omega)).mp x; omega)), decide_eq_false z]
    rfl
theorem word5 {h : pq_H} {m p e : Nat} {L : Nat → Int32} (l : TPM h m L) (hm : m ≤ 72) (hpe : p ≤ e) (he : e ≤ m) (k : rI h 0 12 = nI e) (a b c d f : Int32) (hf : ¬ f = 0) : f_X11_isWord (nI p) a b c d f h = some (decide (p + 5 = e) && mtB L p [a, b, c, d, f]) := by
  unfold f_X11_isWord f_X11_isWord_j19 f_X11_isWord_j86
  rw [if_neg hf, k, pk_sub hpe]
  by_cases z : p + 5 = e
  · rw [if_pos (show nI (e - p) = 5 by rw [show e - p = 5 by omega]; rfl), decide_eq_true z, Bool.true_and]
    have c0 := fun x y => cell9 l hm (p := p) 0 (by omega) x y a
    have c1 := fun x y => cell9 l hm (p := p) 1 (by omega) x y b
    have c2 := fun x y => cell9 l hm (p := p) 2 (by omega) x y c
    have c3 := fun x y => cell9 l hm (p := p) 3 (by omega) x y d
    have c4 := fun x y => cell9 l hm (p := p) 4 (by omega) x y f
    rw [show nI p + nI 0 = nI p from nI_add ..] at c0
    rw [c0, show (1 : Int32) = nI 1 from rfl, c1, show (2 : Int32) = nI 2 from rfl, c2, if_neg (show ¬ (5 : Int32) < 4 by decide), show (3 : Int32) = nI 3 from rfl, c3, if_neg (show ¬ (5 : Int32) < 5 by decide), show (4 : Int32) = nI 4 from rfl, c4, ite_b, ite_b, ite_b, ite_b, ite_b]
    rfl
  · rw [if_neg (show ¬ nI (e - p) = 5 from fun x => z (by have := (ieq (b := 5) (by omega) (by omega)).mp x; omega)), decide_eq_false z]
    rfl
theorem wordM {h : pq_H} {m p e : Nat} {L : Nat → Int32} (l : TPM h m L) (hm : m ≤ 72) (k : rI h 0 12 = nI p) (hpe : p ≤ e) (he : e ≤ m) (e1 : ∀ i, p ≤ i → i < e → small m L i = true) (e2 : small m L e = false) : ok (f_X11_readsWord h) (fun r => F12 h r.2 ∧ ((∃ w, w < 5 ∧ wd L p e = nI w ∧ p + (twd w).length = e ∧ r.1 = nI w ∧ rI r.2 0 12 = nI e) ∨ (wd L p e = -1 ∧ r.1 = -9 ∧ rI r.2 0 12 = nI p))) := by
  unfold f_X11_readsWord
  rw [k]
  refine lp_gen (fun (w : pq_H → Option (Int32 × pq_H)) (s : pq_H) => w s) (fun i s => p ≤ i ∧ rI s 0 12 = nI i ∧ F12 h s) e ?_ ?_ 1000 p h hpe (by omega) ⟨Nat.le_refl _, k, F12.rf h⟩
  · intro i s w hi ⟨a1, a2, a3⟩ hw
    have l' : TPM s m L := l.fr (fun P k hP => a3.1 P k (by omega))
    unfold f_X11_readsWord_l5
    rw [next_ch l' hm (by omega) a2, Option.bind_some, smallM, e1 i a1 hi, if_pos rfl, a2, nI_1]
    exact hw _ ⟨by omega, rI_same _ _ _ _, a3.wI _⟩
  · intro s w ⟨a1, a2, a3⟩
    have l' : TPM s m L := l.fr (fun P k hP => a3.1 P k (by omega))
    unfold f_X11_readsWord_l5 f_X11_readsWord_j32
    rw [next_ch l' hm (by omega) a2, Option.bind_some, smallM, e2, if_neg (by decide)]
    rw [word3 l' hm hpe he a2, Option.bind_some, word5 l' hm hpe he a2 _ _ _ _ _ (by decide), word4 l' hm hpe he a2 _ _ _ _ (by decide), word5 l' hm hpe he a2 _ _ _ _ _ (by decide), word4 l' hm hpe he a2 _ _ _ _ (by decide)]
    simp only [Option.bind_some]
    have w0 : (decide (p + 3 = e) && mtB L p [115, 117, 109]) = wq L p e 0 := rfl
    have w1 : (decide (p + 5 = e) && mtB L p [116, 105, 109, 101, 115]) = wq L p e 1 := rfl
    have w2 : (decide (p + 4 = e) && mtB L p [108, 105, 102, 116]) = wq L p e 2 := rfl
    have w3 : (decide (p + 5 = e) && mtB L p [109, 105, 110, 117, 115]) = wq L p e 3 := rfl
    have w4 : (decide (p + 4 = e) && mtB L p [115, 105, 100, 101]) = wq L p e 4 := rfl
    rw [w0, w1, w2, w3, w4]
    unfold wd
    by_cases z0 : wq L p e 0 = true
    · rw [if_pos z0, if_pos z0]
      exact ok_some ⟨a3, Or.inl ⟨0, by omega, rfl, (wq_t.mp z0).1, rfl, a2⟩⟩
    rw [if_neg z0, if_neg z0]
    by_cases z1 : wq L p e 1 = true
    · rw [if_pos z1, if_pos z1]
      exact ok_some ⟨a3, Or.inl ⟨1, by omega, rfl, (wq_t.mp z1).1, rfl, a2⟩⟩
    rw [if_neg z1, if_neg z1]
    by_cases z2 : wq L p e 2 = true
    · rw [if_pos z2, if_pos z2]
      exact ok_some ⟨a3, Or.inl ⟨2, by omega, rfl, (wq_t.mp z2).1, rfl, a2⟩⟩
    rw [if_neg z2, if_neg z2]
    by_cases z3 : wq L p e 3 = true
    · rw [if_pos z3, if_pos z3]
      exact ok_some ⟨a3, Or.inl ⟨3, by omega, rfl, (wq_t.mp z3).1, rfl, a2⟩⟩
    rw [if_neg z3, if_neg z3]
    by_cases z4 : wq L p e 4 = true
    · rw [if_pos z4, if_pos z4]
      exact ok_some ⟨a3, Or.inl ⟨4, by omega, rfl, (wq_t.mp z4).1, rfl, a2⟩⟩
    rw [if_neg z4, if_neg z4]
    exact ok_some ⟨a3.wI _, Or.inr ⟨rfl, rfl, rI_same _ _ _ _⟩⟩
end WORD2
