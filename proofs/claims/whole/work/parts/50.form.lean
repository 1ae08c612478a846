section READFORM
theorem FR2.tr {n : Nat} {a b c : pq_H} (h1 : FR2 n a b) (h2 : FR2 n b c) : FR2 n a c := ⟨fun P k x y z => (h2.1 P k x y z).trans (h1.1 P k x y z), fun P k => (h2.2 P k).trans (h1.2 P k)⟩
theorem FM2.tr {a b c : pq_H} (h1 : FM2 a b) (h2 : FM2 b c) : FM2 a c := fun P k x y => (h2 P k x y).trans (h1 P k x y)
def TI (q n : Nat) (hC hM : pq_H) : Prop := ∀ t, t < 28 → (rI hC (n + 12) t).toInt = (rJ hM 8 t).toInt ∧ -(999 * (q : Int)) ≤ (rJ hM 8 t).toInt ∧ (rJ hM 8 t).toInt ≤ 999 * (q : Int)
def TZ (n : Nat) (hC : pq_H) : Prop := ∀ D, D ≤ 6 → (rI hC 63 4 = -1 ∨ rI hC 63 4 = nI D) → ∀ t, tri (D + 1) ≤ t → t < 28 → rI hC (n + 12) t = 0
theorem sgn_toInt {neg : Bool} {v : Nat} (h : v ≤ 999) : (sgn neg v).toInt64.toInt = (sgn neg v).toInt ∧ -999 ≤ (sgn neg v).toInt ∧ (sgn neg v).toInt ≤ 999 := by
  refine ⟨Int32.toInt_toInt64 _, ?_⟩
  unfold sgn
  cases neg
  · rw [if_neg (by decide), nI_toInt (by omega)]
    omega
  · rw [if_pos rfl, Int32.toInt_neg, nI_toInt (by omega), Int.bmod_eq_of_le (by omega) (by omega)]
    omega
theorem TI.step {q n t v : Nat} {neg : Bool} {hC hM a b : pq_H} (h : TI q n hC hM) (hq : q ≤ 72) (ht : t < 28) (hv : v ≤ 999) (e1 : rI a (n + 12) t = rI hC (n + 12) t + sgn neg v) (e2 : ∀ k, k ≠ t → rI a (n + 12) k = rI hC (n + 12) k) (e3 : rJ b 8 t = rJ hM 8 t + (sgn neg v).toInt64) (e4 : ∀ k, k ≠ t → rJ b 8 k = rJ hM 8 k) : TI (q + 1) n a b := by
  intro s hs
  obtain ⟨h1, h2, h3⟩ := h s hs
  by_cases z : s = t
  · subst z
    obtain ⟨g1, g2, g3⟩ := sgn_toInt (neg := neg) hv
    rw [e1, e3, Int32.toInt_add, Int64.toInt_add, g1, h1, Int.bmod_eq_of_le (by omega) (by omega), Int.bmod_eq_of_le (by omega) (by omega)]
    omega
  · rw [e2 s z, e4 s z]
    omega
def ST (m n p q : Nat) (L : Nat → Int32) (B B' hC hM : pq_H) : Prop := TPC hC m L ∧ TPM hM m L ∧ rR hC 63 1 = some 61 ∧ rI hC 63 2 = nI p ∧ rI hM 0 12 = nI p ∧ TI q n hC hM ∧ TZ n hC ∧ FR2 n B hC ∧ FM2 B' hM ∧ p ≤ m ∧ 2 * q ≤ p
theorem ST.lc {m n p q : Nat} {L : Nat → Int32} {B B' hC hM : pq_H} (s : ST m n p q L B B' hC hM) : TPC hC m L := s.1
theorem ST.lm {m n p q : Nat} {L : Nat → Int32} {B B' hC hM : pq_H} (s : ST m n p q L B B' hC hM) : TPM hM m L := s.2.1
theorem ST.rC {m n p q : Nat} {L : Nat → Int32} {B B' hC hM : pq_H} (s : ST m n p q L B B' hC hM) : rR hC 63 1 = some 61 := s.2.2.1
theorem ST.pC {m n p q : Nat} {L : Nat → Int32} {B B' hC hM : pq_H} (s : ST m n p q L B B' hC hM) : rI hC 63 2 = nI p := s.2.2.2.1
theorem ST.pM {m n p q : Nat} {L : Nat → Int32} {B B' hC hM : pq_H} (s : ST m n p q L B B' hC hM) : rI hM 0 12 = nI p := s.2.2.2.2.1
theorem ST.ti {m n p q : Nat} {L : Nat → Int32} {B B' hC hM : pq_H} (s : ST m n p q L B B' hC hM) : TI q n hC hM := s.2.2.2.2.2.1
theorem ST.tz {m n p q : Nat} {L : Nat → Int32} {B B' hC hM : pq_H} (s : ST m n p q L B B' hC hM) : TZ n hC := s.2.2.2.2.2.2.1
theorem ST.fC {m n p q : Nat} {L : Nat → Int32} {B B' hC hM : pq_H} (s : ST m n p q L B B' hC hM) : FR2 n B hC := s.2.2.2.2.2.2.2.1
theorem ST.fM {m n p q : Nat} {L : Nat → Int32} {B B' hC hM : pq_H} (s : ST m n p q L B B' hC hM) : FM2 B' hM := s.2.2.2.2.2.2.2.2.1
theorem ST.hp {m n p q : Nat} {L : Nat → Int32} {B B' hC hM : pq_H} (s : ST m n p q L B B' hC hM) : p ≤ m := s.2.2.2.2.2.2.2.2.2.1
theorem ST.hq {m n p q : Nat} {L : Nat → Int32} {B B' hC hM : pq_H} (s : ST m n p q L B B' hC hM) : 2 * q ≤ p := s.2.2.2.2.2.2.2.2.2.2
def QF (m n : Nat) (B B' : pq_H) (a b : Int32 × pq_H) : Prop := ∃ p', p' ≤ m ∧ rI b.2 0 12 = nI p' ∧ FM2 B' b.2 ∧ ((a.1 = nI p' ∧ b.1 = -9 ∧ FR2 n B a.2) ∨ (a.1 = -1 ∧ ∃ D, b.1 = nI D ∧ D ≤ 6 ∧ (∀ P k, P ≠ 63 → P ≠ 64 → P ≠ n + 12 → (P ≠ n ∨ k ≠ 3) → rI a.2 P k = rI B P k) ∧ (∀ P k, rR a.2 P k = rR B P k) ∧ rI a.2 n 3 = nI D ∧ (∀ t, t < 28 → rI a.2 (n + 12) t = if t < tri (D + 1) then (rJ b.2 8 t).toInt32 else 0) ∧ ∀ t, t < tri (D + 1) → rgJ (rJ b.2 8 t) = true))
def RST (m n : Nat) (L : Nat → Int32) (B B' : pq_H) (zC : Bool → Int32 → pq_H → Option (Int32 × pq_H)) (zM : Int32 → pq_H → Option (Int32 × pq_H)) (N : Nat) : Prop := ∀ (p q D : Nat) (sign : Bool) (hC hM : pq_H), D ≤ 6 → ST m n p q L B B' hC hM → rI hC 63 4 = nI D → m - p < N → ok2 (lp zC (f_X2_read_l55 n) N sign (nI q) hC) (bd2 (f_X11_readsMember sign (nI D) hM) fun r h => lp zM (f_X11_readsForm_l64 (nI D)) N r h) (QF m n B B')
theorem after2 {m n p q N : Nat} {L : Nat → Int32} {B B' hC hM : pq_H} {zC : Bool → Int32 → pq_H → Option (Int32 × pq_H)} {zM : Int32 → pq_H → Option (Int32 × pq_H)} (ih : RST m n L B B' zC zM N) (hm : m ≤ 72) (hn : n < 6) {sign : Bool} (s : ST m n p q L B B' hC hM) (hN : m - p < N + 1) {a : Bool} {b v2 : Int32} {h1 h2 : pq_H} (mb : MB n m p sign hC hM (a, h1) (b, h2)) (hv : b = -9 ∨ v2 = b) : ok2 (if a = true then (gd (rR h1 63 1 == some 61) (if (rI h1 63 2) < (rI h1 61 1) then (gd (rR h1 63 1 == some 61) ((f_X3_at (rI h1 63 2) h1).bind fun r101 => if r101 = 43 then (f_X2_read_j125 (lp zC (f_X2_read_l55 n) N) (nI q) r101 h1) else (if r101 = 45 then (f_X2_read_j125 (lp zC (f_X2_read_l55 n) N) (nI q) r101 h1) else (f_X2_read_j120 h1)))) else (f_X2_read_j90 n h1))) else (f_X2_read_j71 h1)) (f_X11_readsForm_l64 v2 (lp zM (f_X11_readsForm_l64 v2) N) b h2) (QF m n B B') := by
  obtain ⟨m1, m2, p', w1, w2, w3, w4, w5⟩ := mb
  simp only at m1 m2 w3 w4 w5
  have f1 := s.fC.tr m1
  have f2 := s.fM.tr m2
  have hp := s.hp
  have hq := s.hq
  rcases w5 with ⟨rfl, rfl⟩ | ⟨rfl, u1, D, t, v, rfl, u2, u3, u4, u5, u6, u7, u8, u9, u10⟩
  · rw [if_neg (by decide)]
    unfold f_X2_read_j71 f_X11_readsForm_l64 f_X11_readsForm_j126
    rw [if_pos (by decide), if_pos (by decide), w3]
    exact ok2_some ⟨p', w2, w4, f2, Or.inl ⟨rfl, rfl, f1⟩⟩
  have ev : v2 = nI D := by
    rcases hv with h | h
    · exact absurd h.symm (ch_no (k := 9) (c := D) (by omega) (by omega) (by omega))
    · exact h
  subst ev
  have hb := tri28 u2
  have lc1 : TPC h1 m L := s.lc.fr (fun P k hP => m1.1 P k (by omega) (by omega) (by omega))
  have lm1 : TPM h2 m L := s.lm.fr (fun P k hP => m2 P k (by omega) (by omega))
  have rC1 : rR h1 63 1 = some 61 := (m1.2 _ _).trans s.rC
  have g1 : (rR h1 63 1 == some 61) = true := by rw [rC1]; rfl
  have ti1 : TI (q + 1) n h1 h2 := s.ti.step (by omega) (by omega) u6 u7 u8 u9 u10
  have tz0 := s.tz D u2 u3
  have tz1 : ∀ t, tri (D + 1) ≤ t → t < 28 → rI h1 (n + 12) t = 0 := fun x hx hx2 => by
    rw [u8 x (by omega)]
    exact tz0 x hx hx2
  have tzz : TZ n h1 := fun D' hD6 hD' => by
    have : D' = D := by
      rcases hD' with h | h
      · rw [u4] at h
        exact absurd h.symm (ch_no (k := 1) (c := D) (by omega) (by omega) (by omega))
      · rw [u4] at h
        exact ((ieq (by omega) (by omega)).mp h).symm
    subst this
    exact tz1
  rw [if_pos rfl, g1, gd_t, gd_t, w3, lc1.1]
  unfold f_X11_readsForm_l64
  rw [if_neg (nI_pos (by omega)), next_ch lm1 hm (by omega) w4, Option.bind_some, Option.bind_some]
  by_cases y : p' < m
  case neg =>
    -- the end
    have y : p' = m := by omega
    subst y
    have cm : chr p' L (-9) p' = -9 := by unfold chr; rw [if_neg (by omega)]
    rw [if_neg (nI_nlt (by omega) (by omega)), cm, if_neg (by decide), if_neg (by decide)]
    unfold f_X2_read_j90 f_X2_read_j154 f_X11_readsForm_j126
    rw [if_neg (nI_pos (by omega)), w4, lm1.1, if_pos rfl, u4]
    refine ok2_some ⟨p', by omega, w4, f2, Or.inr ⟨rfl, D, rfl, u2, fun P k x y z w => ?_, f1.2, rI_same _ _ _ _, fun x hx => ?_, fun x hx => ?_⟩⟩
    · rw [rI_ne (by omega)]; exact f1.1 P k x y z
    · rw [rI_ne (by omega)]
      by_cases z : x < tri (D + 1)
      · rw [if_pos z]
        obtain ⟨t1, t2, t3⟩ := ti1 x hx
        apply Int32.toInt_inj.mp
        show (rI h1 (n + 12) x).toInt = (rJ h2 8 x).toInt32.toInt
        rw [t1, Int64.toInt_toInt32, Int.bmod_eq_of_le (by omega) (by omega)]
      · rw [if_neg z]
        exact tz1 x (by omega) hx
    · obtain ⟨t1, t2, t3⟩ := ti1 x (by omega)
      show rgJ (rJ h2 8 x) = true
      rw [rgJ_iff]
      refine ⟨Int64.not_lt.mpr (Int64.le_iff_toInt_le.mpr ?_), Int64.le_iff_toInt_le.mpr ?_⟩
      · rw [show (-1000000 : Int64).toInt = -1000000 by decide]; omega
      · rw [show (1000000 : Int64).toInt = 1000000 by decide]; omega
  have cC : ∀ e, chr m L e p' = L p' := fun e => by unfold chr; rw [if_pos y]
  rw [if_pos (nI_lt y (by omega)), at_ch lc1 hm (by omega), Option.bind_some, cC, cC]
  -- the next member
  have go : ∀ sg : Bool, ok2 (f_X2_read_j137 (lp zC (f_X2_read_l55 n) N) (nI q) sg h1) (f_X11_readsForm_j118 (nI D) (lp zM (f_X11_readsForm_l64 (nI D)) N) sg (wI h2 0 12 (nI (p' + 1)))) (QF m n B B') := by
    intro sg
    unfold f_X2_read_j137 f_X11_readsForm_j118
    rw [w3, nI_1, nI_1]
    refine ih (p' + 1) (q + 1) D sg _ _ u2 ⟨lc1.wI _ _ _ (by omega), lm1.wI _ _ _ (by omega), rC1, rI_same _ _ _ _, rI_same _ _ _ _, fun x hx => ?_, fun D' hD6 hD' x hx1 hx2 => ?_, ⟨fun P k x y z => ?_, f1.2⟩, fun P k x y => ?_, by omega, by omega⟩ ?_ (by omega)
    · rw [rI_ne (by omega)]; exact ti1 x hx
    · rw [rI_ne (by omega)] at hD' ⊢
      exact tzz D' hD6 hD' x hx1 hx2
    · rw [rI_ne (by omega)]; exact f1.1 P k x y z
    · rw [rI_ne (by omega)]; exact f2 P k x y
    · rw [rI_ne (by omega)]; exact u4
  have go2 : (L p' = 43 ∨ L p' = 45) → ok2 (f_X2_read_j125 (lp zC (f_X2_read_l55 n) N) (nI q) (L p') h1) (f_X11_readsForm_j86 (nI D) (lp zM (f_X11_readsForm_l64 (nI D)) N) h2) (QF m n B B') := by
    intro _
    unfold f_X2_read_j125 f_X11_readsForm_j86
    rw [w4, nI_1, hl_d, rI_same, show nI (p' + 1) - 1 = nI p' by rw [show (1 : Int32) = nI 1 from rfl, pk_sub (by omega), Nat.add_sub_cancel], inbN (show p' < 72 by omega) (by decide), gd_t, nI_clamp (by omega), rI_ne (by omega), lm1.2 p' y]
    by_cases z : L p' = 45
    · rw [if_pos z, if_pos z]; exact go true
    · rw [if_neg z, if_neg z]; exact go false
  by_cases z : L p' = 43
  · rw [if_pos z, if_pos z]
    exact go2 (Or.inl z)
  rw [if_neg z, if_neg z]
  by_cases z2 : L p' = 45
  · rw [if_pos z2, if_pos z2]
    exact go2 (Or.inr z2)
  rw [if_neg z2, if_neg z2]
  unfold f_X2_read_j120 f_X11_readsForm_j126
  rw [if_neg (nI_pos (by omega)), w4, lm1.1, if_neg (fun x => by have := (ieq (by omega) (by omega)).mp x; omega), w3]
  exact ok2_some ⟨p', by omega, w4, f2, Or.inl ⟨rfl, rfl, f1⟩⟩
theorem rest2 {m n : Nat} {L : Nat → Int32} {B B' : pq_H} (zC : Bool → Int32 → pq_H → Option (Int32 × pq_H)) (zM : Int32 → pq_H → Option (Int32 × pq_H)) (hm : m ≤ 72) (hn : n < 6) : ∀ N, RST m n L B B' zC zM N := by
  intro N
  induction N with
  | zero => intro p q D sign hC hM hD s hF hN; omega
  | succ N ih =>
    intro p q D sign hC hM hD s hF hN
    have hq := s.hq
    have hp := s.hp
    rw [lp_s, lp_s]
    have e : f_X2_read_l55 n (lp zC (f_X2_read_l55 n) N) sign (nI q) hC = bd2 (f_X2_readMember n sign hC) fun r65 h65 => if r65 = true then (gd (rR h65 63 1 == some 61) (if (rI h65 63 2) < (rI h65 61 1) then (gd (rR h65 63 1 == some 61) ((f_X3_at (rI h65 63 2) h65).bind fun r101 => if r101 = 43 then (f_X2_read_j125 (lp zC (f_X2_read_l55 n) N) (nI q) r101 h65) else (if r101 = 45 then (f_X2_read_j125 (lp zC (f_X2_read_l55 n) N) (nI q) r101 h65) else (f_X2_read_j120 h65)))) else (f_X2_read_j90 n h65))) else (f_X2_read_j71 h65) := by
      show (if 72 ≤ nI q then _ else _) = _
      rw [if_neg (show ¬ (72 : Int32) ≤ nI q from nI_ge (b := 72) (by omega) (by omega))]
    rw [e]
    refine ok2_bd2 (member2 hm hn hp hD s.lc s.lm s.rC s.pC s.pM (Or.inr ⟨hF, rfl⟩)) (fun a h1 b h2 mb => ?_)
    refine after2 ih hm hn s hN mb ?_
    rcases mb.2.2 with ⟨p', w1, w2, w3, w4, ⟨_, w5⟩ | ⟨_, _, D', t, v, w6, w7, w8, _⟩⟩
    · exact Or.inl w5
    · refine Or.inr ?_
      rcases w8 with h | h
      · rw [hF] at h
        exact absurd h.symm (ch_no (k := 1) (c := D) (by omega) (by omega) (by omega))
      · rw [← hF, h]
        exact w6.symm
end READFORM
