section MEMBER3
theorem lp_4 {σ : Type} (z : σ) (f : σ → σ) : lp z f 1000 = f (f (f (f (lp z f 996)))) := rfl
def FR2 (n : Nat) (h h' : pq_H) : Prop := (∀ P k, P ≠ 63 → P ≠ 64 → P ≠ n + 12 → rI h' P k = rI h P k) ∧ ∀ P k, rR h' P k = rR h P k
def FM2 (h h' : pq_H) : Prop := ∀ P k, (P ≠ 0 ∨ k ≠ 12) → P ≠ 10 → rI h' P k = rI h P k
def sgn (neg : Bool) (v : Nat) : Int32 := if neg = true then -nI v else nI v
def MB (n m p : Nat) (neg : Bool) (hC hM : pq_H) (a : Bool × pq_H) (b : Int32 × pq_H) : Prop :=
  FR2 n hC a.2 ∧ FM2 hM b.2 ∧ ∃ p', p ≤ p' ∧ p' ≤ m ∧ rI a.2 63 2 = nI p' ∧ rI b.2 0 12 = nI p' ∧ ((a.1 = false ∧ b.1 = -9) ∨ (a.1 = true ∧ p < p' ∧ ∃ D t v, b.1 = nI D ∧ D ≤ 6 ∧ (rI hC 63 4 = -1 ∨ rI hC 63 4 = nI D) ∧ rI a.2 63 4 = nI D ∧ t < tri (D + 1) ∧ v ≤ 999 ∧ rI a.2 (n + 12) t = rI hC (n + 12) t + sgn neg v ∧ (∀ k, k ≠ t → rI a.2 (n + 12) k = rI hC (n + 12) k) ∧ rJ b.2 8 t = rJ hM 8 t + (sgn neg v).toInt64 ∧ ∀ k, k ≠ t → rJ b.2 8 k = rJ hM 8 k))
theorem ok2_bd2 {α β γ δ : Type} {x : Option (α × pq_H)} {y : Option (γ × pq_H)} {f : α → pq_H → Option β} {g : γ → pq_H → Option δ} {P : α × pq_H → γ × pq_H → Prop} {Q : β → δ → Prop} (h : ok2 x y P) (k : ∀ a h1 b h2, P (a, h1) (b, h2) → ok2 (f a h1) (g b h2) Q) : ok2 (bd2 x f) (bd2 y g) Q := by
  obtain ⟨⟨a, h1⟩, ⟨b, h2⟩, e1, e2, p⟩ := h
  subst e1 e2
  exact k a h1 b h2 p
theorem member2 {m n p lim : Nat} {L : Nat → Int32} {neg : Bool} {P2 : Int32} {hC hM : pq_H} (hm : m ≤ 72) (hn : n < 6) (hp : p ≤ m) (hl : lim ≤ 6) (lc : TPC hC m L) (lm : TPM hM m L) (rC : rR hC 63 1 = some 61) (pC : rI hC 63 2 = nI p) (pM : rI hM 0 12 = nI p) (fC : (rI hC 63 4 = -1 ∧ lim = 6 ∧ P2 = -9) ∨ (rI hC 63 4 = nI lim ∧ P2 = nI lim)) : ok2 (f_X2_readMember n neg hC) (f_X11_readsMember neg P2 hM) (MB n m p neg hC hM) := by
  obtain ⟨v, p1, v1, pp1, pp2, pd, ⟨⟨r, C1⟩, ec, rfl, c1, c2⟩, num⟩ := number2 hm hp lc lm rC pC pM
  obtain ⟨M1, em, m1, m2⟩ := num neg P2
  simp only at c1 c2
  have fC' : (rI hC 63 4 = -1 ∧ lim = 6) ∨ rI hC 63 4 = nI lim := by
    rcases fC with ⟨a, b, _⟩ | ⟨a, _⟩
    · exact Or.inl ⟨a, b⟩
    · exact Or.inr a
  unfold f_X2_readMember
  rw [em, ec, bd2_some, hl_d, pC]
  unfold f_X11_readsMember_j60
  -- one power
  have stp : ∀ (i d p' : Nat) (C M : pq_H) (w1 : Int32 → pq_H → Option (Bool × pq_H)) (w2 : Int32 → Int32 → pq_H → Option (Int32 × pq_H)), i < 3 → d ≤ lim → p' ≤ m → p ≤ p' → (FR2 n hC C ∧ rI C 63 4 = rI hC 63 4) → FM2 hM M → rI C 63 2 = nI p' → rI M 0 12 = nI p' → rI C 63 3 = nI d → (∀ e p'' C' M', d + e ≤ lim → p' ≤ p'' → p'' ≤ m → (e = 0 ↔ p'' = p') → FRC i C C' → FRM i M M' → rI C' 63 2 = nI p'' → rI M' 0 12 = nI p'' → rI C' 63 3 = nI (d + e) → rI C' 64 i = nI e → rI M' 10 i = nI e → ok2 (w1 (nI (i + 1)) C') (w2 (nI (d + e)) (nI (i + 1)) M') (MB n m p neg hC hM)) → ok2 (f_X2_readMember_l19 n neg (nI p) (nI v) w1 (nI i) C) (f_X11_readsMember_l66 neg P2 (nI v) (dg m L p) w2 (nI d) (nI i) M) (MB n m p neg hC hM) := by
    intro i d p' C M w1 w2 hi hd hp' hpp ⟨F1, F4⟩ F2 k1 k2 k3 k
    have lc' : TPC C m L := lc.fr (fun P j hP => F1.1 P j (by omega) (by omega) (by omega))
    have lm' : TPM M m L := lm.fr (fun P j hP => F2 P j (by omega) (by omega))
    have pw := power2 hm hi hp' hl hd lc' lm' ((F1.2 _ _).trans rC) k1 k2 k3 (by rw [F4]; exact fC')
    have e85 : f_X11_readsMember_l66 neg P2 (nI v) (dg m L p) w2 (nI d) (nI i) M = bd2 (f_X11_readsPower (nI i) (nI (lim - d)) M) fun r88 h88 => if r88 = true then (gd (inb (nI i) 3) (w2 (nI d + (rI h88 10 (nI i).toNatClampNeg)) (nI i + 1) h88)) else (some ((-9), h88)) := by
      unfold f_X11_readsMember_l66 f_X11_readsMember_j85
      rw [if_neg (show ¬ (3 : Int32) ≤ nI i from nI_ge (b := 3) hi (by omega))]
      rcases fC with ⟨a, b, c⟩ | ⟨a, c⟩
      · subst b c
        rw [if_neg (by decide), show (6 : Int32) = nI 6 from rfl, pk_sub hd]
      · subst c
        rw [if_pos (nI_pos' (by omega)), pk_sub hd]
    rw [e85]
    unfold f_X2_readMember_l19
    rw [if_neg (show ¬ (3 : Int32) ≤ nI i from nI_ge (b := 3) hi (by omega))]
    refine ok2_bd2 pw (fun a h1 b h2 ⟨q1, p'', q2, q3, q4, q5, q6, q7, q8⟩ => ?_)
    simp only at q1 q4 q5 q6 q7 q8
    subst q1
    by_cases z : a = true
    · obtain ⟨e, s1, s2, s3, s4, s5⟩ := q8 z
      rw [if_pos z, if_pos z, inbN hi (by decide), gd_t, nI_clamp (by omega), s5, nI_add, nI_1]
      exact k e p'' h1 h2 s1 q2 q3 s2 q6 q7 q4 q5 s3 s4 s5
    · rw [if_neg z, if_neg z]
      refine ok2_some ⟨⟨fun P j e1 e2 e3 => ?_, fun P j => (q6.2 P j).trans (F1.2 P j)⟩, fun P j e1 e2 => ?_, p'', by omega, q3, q4, q5, Or.inl ⟨rfl, rfl⟩⟩
      · rw [q6.1 P j (by omega) (by omega)]; exact F1.1 P j e1 e2 e3
      · rw [q7.1 P j (by omega) (by omega)]; exact F2 P j e1 e2
  -- the number goes to its term
  have fin : ∀ (Cx M : pq_H) (e0 e1 e2 p3 : Nat), e0 + e1 + e2 ≤ 6 → p < p3 → p3 ≤ m → (rI hC 63 4 = -1 ∨ rI hC 63 4 = nI (e0 + e1 + e2)) → (∀ P k, P ≠ 63 → P ≠ 64 → rI Cx P k = rI hC P k) → (∀ P k, rR Cx P k = rR hC P k) → (∀ P k, rJ M P k = rJ hM P k) → FM2 hM M → rI Cx 63 2 = nI p3 → rI M 0 12 = nI p3 → rI Cx 63 3 = nI (e0 + e1 + e2) → rI Cx 63 4 = nI (e0 + e1 + e2) → rI Cx 64 1 = nI e1 → rI Cx 64 2 = nI e2 → rI M 10 0 = nI e0 → rI M 10 2 = nI e2 → ok2 (f_X2_readMember_j68 n neg (nI v) Cx) (f_X11_readsMember_j138 neg (nI v) (nI (e0 + e1 + e2)) M) (MB n m p neg hC hM) := by
    intro Cx M e0 e1 e2 p3 g0 g1 g2 g3 f1 f2 f3 f4 k1 k2 k3 k4 k5 k6 k7 k8
    have q : tri (e1 + e2) + e2 < 28 := tri_28 (by omega) (by omega)
    have q' : tri (e1 + e2) + e2 < tri (e0 + e1 + e2 + 1) := tri_lt (by omega) (by omega)
    unfold f_X2_readMember_j68 f_X11_readsMember_j138 f_X2_readMember_j114 f_X11_readsMember_j173
    rw [k3, k4, if_pos (le_nIn (Nat.le_refl _) (by omega)), show (1 : Int32).toNatClampNeg = 1 from rfl, show (2 : Int32).toNatClampNeg = 2 from rfl, show (0 : Int32).toNatClampNeg = 0 from rfl, k5, k6, k7, k8, termOf_nI (by omega), termOfM_nI (by omega) (by omega) (by omega), show e0 + e1 + e2 - e0 = e1 + e2 by omega, inbN q (by decide), show inb (0 : Int32) 3 = true from rfl, show inb (1 : Int32) 3 = true from rfl, show inb (2 : Int32) 3 = true from rfl, nI_clamp (by omega), f3]
    simp only [gd_t]
    have e63 : rI Cx (n + 12) (tri (e1 + e2) + e2) = rI hC (n + 12) (tri (e1 + e2) + e2) := f1 _ _ (by omega) (by omega)
    have out : ok2 (some (true, wI Cx (n + 12) (tri (e1 + e2) + e2) (rI hC (n + 12) (tri (e1 + e2) + e2) + sgn neg v))) (some (nI (e0 + e1 + e2), wJ M 8 (tri (e1 + e2) + e2) (rJ hM 8 (tri (e1 + e2) + e2) + (sgn neg v).toInt64))) (MB n m p neg hC hM) := by
      refine ok2_some ⟨⟨fun P k a b c => by rw [rI_ne (by omega)]; exact f1 P k a b, f2⟩, f4, p3, by omega, g2, by rw [rI_ne (by omega)]; exact k1, k2, Or.inr ⟨rfl, g1, e0 + e1 + e2, tri (e1 + e2) + e2, v, rfl, g0, g3, by rw [rI_ne (by omega)]; exact k4, q', v1, rI_same _ _ _ _, fun k hk => by rw [rI_ne (by omega)]; exact f1 _ _ (by omega) (by omega), rJ_same _ _ _ _, fun k hk => by rw [rJ_ne (by omega)]; exact f3 _ _⟩⟩
    rw [e63]
    cases neg
    · rw [if_neg (by decide), if_neg (by decide)]
      exact out
    · rw [if_pos rfl, if_pos rfl]
      exact out
  rw [lp_4, lp_4]
  have A1 : FR2 n hC (wI C1 63 3 0) := ⟨fun P k a b c => by rw [rI_ne (by omega)]; exact c2.1 P k (by omega), c2.2⟩
  have B1 : FM2 hM M1 := fun P k a b => m2.1 P k (by omega)
  have C14 : rI (wI C1 63 3 0) 63 4 = rI hC 63 4 := by rw [rI_ne (by omega)]; exact c2.1 _ _ (by omega)
  have J1 : ∀ P k, rJ M1 P k = rJ hM P k := m2.2
  have K1 : ∀ P k, P ≠ 63 → P ≠ 64 → rI (wI C1 63 3 0) P k = rI hC P k := fun P k a b => by rw [rI_ne (by omega)]; exact c2.1 P k (by omega)
  refine stp 0 0 p1 (wI C1 63 3 0) M1 _ _ (by omega) (by omega) pp2 pp1 ⟨A1, C14⟩ B1 (by rw [rI_ne (by omega)]; exact c1) m1 (rI_same _ _ _ _) (fun e0 p2 C2 M2 a1 a2 a3 a4 a5 a6 a7 a8 a9 a10 a11 => ?_)
  rw [Nat.zero_add] at a1 a9
  rw [show (0 : Nat) + e0 = e0 from Nat.zero_add _]
  have A2 : FR2 n hC C2 := ⟨fun P k a b c => by rw [a5.1 P k (by omega) (by omega)]; exact A1.1 P k a b c, fun P k => (a5.2 P k).trans (A1.2 P k)⟩
  have B2 : FM2 hM M2 := fun P k a b => by rw [a6.1 P k (by omega) (by omega)]; exact B1 P k a b
  have C24 : rI C2 63 4 = rI hC 63 4 := by rw [a5.1 _ _ (by omega) (by omega)]; exact C14
  have J2 : ∀ P k, rJ M2 P k = rJ hM P k := fun P k => (a6.2 P k).trans (J1 P k)
  have K2 : ∀ P k, P ≠ 63 → P ≠ 64 → rI C2 P k = rI hC P k := fun P k a b => by rw [a5.1 P k (by omega) (by omega)]; exact K1 P k a b
  refine stp 1 e0 p2 C2 M2 _ _ (by omega) a1 a3 (by omega) ⟨A2, C24⟩ B2 a7 a8 a9 (fun e1 p3 C3 M3 b1 b2 b3 b4 b5 b6 b7 b8 b9 b10 b11 => ?_)
  have A3 : FR2 n hC C3 := ⟨fun P k a b c => by rw [b5.1 P k (by omega) (by omega)]; exact A2.1 P k a b c, fun P k => (b5.2 P k).trans (A2.2 P k)⟩
  have B3 : FM2 hM M3 := fun P k a b => by rw [b6.1 P k (by omega) (by omega)]; exact B2 P k a b
  have C34 : rI C3 63 4 = rI hC 63 4 := by rw [b5.1 _ _ (by omega) (by omega)]; exact C24
  have J3 : ∀ P k, rJ M3 P k = rJ hM P k := fun P k => (b6.2 P k).trans (J2 P k)
  have K3 : ∀ P k, P ≠ 63 → P ≠ 64 → rI C3 P k = rI hC P k := fun P k a b => by rw [b5.1 P k (by omega) (by omega)]; exact K2 P k a b
  refine stp 2 (e0 + e1) p3 C3 M3 _ _ (by omega) b1 b3 (by omega) ⟨A3, C34⟩ B3 b7 b8 b9 (fun e2 p4 C4 M4 d1 d2 d3 d4 d5 d6 d7 d8 d9 d10 d11 => ?_)
  have A4 : FR2 n hC C4 := ⟨fun P k a b c => by rw [d5.1 P k (by omega) (by omega)]; exact A3.1 P k a b c, fun P k => (d5.2 P k).trans (A3.2 P k)⟩
  have B4 : FM2 hM M4 := fun P k a b => by rw [d6.1 P k (by omega) (by omega)]; exact B3 P k a b
  have C44 : rI C4 63 4 = rI hC 63 4 := by rw [d5.1 _ _ (by omega) (by omega)]; exact C34
  have J4 : ∀ P k, rJ M4 P k = rJ hM P k := fun P k => (d6.2 P k).trans (J3 P k)
  have K4 : ∀ P k, P ≠ 63 → P ≠ 64 → rI C4 P k = rI hC P k := fun P k a b => by rw [d5.1 P k (by omega) (by omega)]; exact K3 P k a b
  have t0M : rI M4 10 0 = nI e0 := by rw [d6.1 _ _ (by omega) (by omega), b6.1 _ _ (by omega) (by omega)]; exact a11
  have t1 : rI C4 64 1 = nI e1 := by rw [d5.1 _ _ (by omega) (by omega)]; exact b10
  unfold f_X2_readMember_l19 f_X11_readsMember_l66 f_X2_readMember_j42 f_X11_readsMember_j115
  rw [if_pos (show (3 : Int32) ≤ nI (2 + 1) from le_nIn (a := 3) (by omega) (by omega)), if_pos (show (3 : Int32) ≤ nI (2 + 1) from le_nIn (a := 3) (by omega) (by omega)), d7, C44]
  by_cases z : p4 = p
  · -- nothing was read
    have z0 : dg m L p = false := b2n (fun y => by have := pd.mp y; omega)
    have z1 : e0 + e1 + e2 = 0 := by omega
    rw [if_pos (by rw [z]), z0, if_neg (by decide), z1, if_pos (by rfl)]
    exact ok2_some ⟨A4, B4, p4, by omega, d3, d7, d8, Or.inl ⟨rfl, rfl⟩⟩
  rw [if_neg (fun y => z ((ieq (by omega) (by omega)).mp y))]
  have e125 : (if dg m L p = true then f_X11_readsMember_j125 neg P2 (nI v) (nI (e0 + e1 + e2)) M4 else if nI (e0 + e1 + e2) = 0 then some (-9, M4) else f_X11_readsMember_j125 neg P2 (nI v) (nI (e0 + e1 + e2)) M4) = f_X11_readsMember_j125 neg P2 (nI v) (nI (e0 + e1 + e2)) M4 := by
    by_cases y : dg m L p = true
    · rw [if_pos y]
    · have y2 : ¬ p < p1 := fun w => y (pd.mpr w)
      rw [if_neg y, if_neg (nI_ne0 (by omega) (by omega))]
  rw [e125]
  unfold f_X11_readsMember_j125
  rcases fC with ⟨a, b, c⟩ | ⟨a, c⟩
  · subst b c
    rw [a, if_pos rfl, if_pos (by decide), d9]
    refine fin (wI C4 63 4 (nI (e0 + e1 + e2))) M4 e0 e1 e2 p4 d1 (by omega) d3 (Or.inl a) (fun P k e f => by rw [rI_ne (by omega)]; exact K4 P k e f) A4.2 J4 B4 ?_ d8 ?_ (rI_same _ _ _ _) ?_ ?_ t0M d11
    · rw [rI_ne (by omega)]; exact d7
    · rw [rI_ne (by omega)]; exact d9
    · rw [rI_ne (by omega)]; exact t1
    · rw [rI_ne (by omega)]; exact d10
  · subst c
    rw [a, if_neg (fun y => ch_no (k := 1) (c := lim) (by omega) (by omega) (by omega) y.symm), if_neg (nI_pos (by omega))]
    by_cases y : lim ≤ e0 + e1 + e2
    · have y2 : lim = e0 + e1 + e2 := by omega
      subst y2
      rw [if_pos (le_nIn y (by omega))]
      exact fin C4 M4 e0 e1 e2 p4 (by omega) (by omega) d3 (Or.inr a) K4 A4.2 J4 B4 d7 d8 d9 (C44.trans a) t1 d10 t0M d11
    · unfold f_X2_readMember_j68
      rw [if_neg (nI_ge (by omega) (by omega)), C44, a, d9, if_neg (nI_ge (by omega) (by omega))]
      exact ok2_some ⟨A4, B4, p4, by omega, d3, d7, d8, Or.inl ⟨rfl, rfl⟩⟩
end MEMBER3
