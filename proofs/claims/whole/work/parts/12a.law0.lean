section LAW
variable {X : pq_X} {S1 S2 : pq_S} {k n pc : Nat} {L : List (Nat × Value)} {st : List Value} {h1 h2 : pq_H} {b Ln : Nat} {xs : Nat → Int32}
/-- the law's machine, its script -/
def LX (X : pq_X) (b Ln : Nat) (xs : Nat → Int32) : Prop := pq_B X cL_law 4 RL ∧ X.2.2.2.2 = X.1.2.2.2.2.heap ∧ (∀ q, X.2.2.2.1 q ↔ X.2.2.2.2.size ≤ q) ∧ X.1.2.2.2.1 = room_1 ∧ va_X b Ln xs X.1.2.2.2.2 X.2.2.2.2 ∧ b < X.2.2.2.2.size
/-- a side of the law, its cells in A1 -/
def LSd (X : pq_X) (S : pq_S) (A1 : Nat → Prop) : Prop := va_K S.2.1.1 S.2.1.2.1 S.2.1.2.2 X.1.2.2.2.2 ∧ S.2.2 A1 X.1.2.2.2.2 X.1.2.2.2.2.heap ∧ pq_A S A1 ∧ ∀ q, A1 q → X.2.2.2.2.size ≤ q
/-- the law's walk over both worlds -/
def LW (X : pq_X) (S1 S2 : pq_S) (k n pc : Nat) (L : List (Nat × Value)) (st : List Value) (h1 h2 : pq_H) : Prop :=
  ∀ (ls : Array Slot) (H : Heap) (locs : List Loc), lv_has ls 4 L → va_P S1.2.1.1 S1.2.1.2.1 (pq_W S1 h1) H → va_P S2.2.1.1 S2.2.1.2.1 (pq_W S2 h2) H → va_S X.2.2.2.1 X.2.2.2.2 H locs → W X.1.1 X.1.2.1 X.1.2.2.1 X.1.2.2.2.1 X.1.2.2.2.2 X.2.1.1 X.2.1.2.1 X.2.1.2.2.1 X.2.1.2.2.2.1 X.2.1.2.2.2.2 H locs k n X.2.2.1 (F0 X.2.1.1 pc ls st)
theorem LW.swap (kk : LW X S2 S1 k n pc L st h2 h1) : LW X S1 S2 k n pc L st h1 h2 := fun ls H locs hl p1 p2 hS => kk ls H locs hl p2 p1 hS
theorem l_aload (hx : LX X b Ln xs) {kf : Fin 4} {x i : Nat} (d : decode cL_law pc = .ok (.aload_n kf, 1)) (hi : (kf : Nat) = i) (j : Nat) (hk : L[j]? = some (i, .ref x)) (kk : LW X S1 S2 k n (pc + 1) L (.ref x :: st) h1 h2) : LW X S1 S2 k n pc L st h1 h2 := fun ls H locs hl p1 p2 hS => lv_aload_n hx.1.1 hx.1.2.1 d hi (lv_at hl j hk) (kk ls H locs hl p1 p2 hS)
theorem l_iload (hx : LX X b Ln xs) {kf : Fin 4} {i : Nat} {x : Int32} (d : decode cL_law pc = .ok (.iload_n kf, 1)) (hi : (kf : Nat) = i) (j : Nat) (hk : L[j]? = some (i, .int x)) (kk : LW X S1 S2 k n (pc + 1) L (.int x :: st) h1 h2) : LW X S1 S2 k n pc L st h1 h2 := fun ls H locs hl p1 p2 hS => lv_iload_n hx.1.1 hx.1.2.1 d hi (lv_at hl j hk) (kk ls H locs hl p1 p2 hS)
theorem l_iconst (hx : LX X b Ln xs) {z : Int} {v : Int32} (d : decode cL_law pc = .ok (.iconst z, 1)) (hv : Int32.ofInt z = v) (kk : LW X S1 S2 k n (pc + 1) L (.int v :: st) h1 h2) : LW X S1 S2 k n pc L st h1 h2 := fun ls H locs hl p1 p2 hS => lv_iconst hx.1.1 hx.1.2.1 d hv (kk ls H locs hl p1 p2 hS)
theorem l_bipush (hx : LX X b Ln xs) {z : Int} {v : Int32} (d : decode cL_law pc = .ok (.bipush z, 2)) (hv : (Int8.ofInt z).toInt32 = v) (kk : LW X S1 S2 k n (pc + 2) L (.int v :: st) h1 h2) : LW X S1 S2 k n pc L st h1 h2 := fun ls H locs hl p1 p2 hS => lv_bipush hx.1.1 hx.1.2.1 d hv (kk ls H locs hl p1 p2 hS)
theorem l_iadd (hx : LX X b Ln xs) {x y : Int32} (d : decode cL_law pc = .ok (.iadd, 1)) (kk : LW X S1 S2 k n (pc + 1) L (.int (x + y) :: st) h1 h2) : LW X S1 S2 k n pc L (.int y :: .int x :: st) h1 h2 := fun ls H locs hl p1 p2 hS => lv_iadd hx.1.1 hx.1.2.1 d (kk ls H locs hl p1 p2 hS)
theorem l_isub (hx : LX X b Ln xs) {x y : Int32} (d : decode cL_law pc = .ok (.isub, 1)) (kk : LW X S1 S2 k n (pc + 1) L (.int (x - y) :: st) h1 h2) : LW X S1 S2 k n pc L (.int y :: .int x :: st) h1 h2 := fun ls H locs hl p1 p2 hS => lv_isub hx.1.1 hx.1.2.1 d (kk ls H locs hl p1 p2 hS)
theorem l_iand (hx : LX X b Ln xs) {x y : Int32} (d : decode cL_law pc = .ok (.iand, 1)) (kk : LW X S1 S2 k n (pc + 1) L (.int (x &&& y) :: st) h1 h2) : LW X S1 S2 k n pc L (.int y :: .int x :: st) h1 h2 := fun ls H locs hl p1 p2 hS => lv_iand hx.1.1 hx.1.2.1 d (kk ls H locs hl p1 p2 hS)
theorem LX.nb (hx : LX X b Ln xs) : ¬ X.2.2.2.1 b := fun z => Nat.not_le.mpr hx.2.2.2.2.2 ((hx.2.2.1 b).mp z)
theorem l_slen (hx : LX X b Ln xs) (d : decode cL_law pc = .ok (.arraylength, 1)) (kk : LW X S1 S2 k n (pc + 1) L (.int (Int32.ofNat Ln) :: st) h1 h2) : LW X S1 S2 k n pc L (.ref b :: st) h1 h2 := fun ls H locs hl p1 p2 hS => va_slen hx.1.1 hx.1.2.1 hx.2.2.2.2.1 hx.2.2.2.2.2 hx.nb hS d (kk ls H locs hl p1 p2 hS)
theorem l_sld (hx : LX X b Ln xs) {i : Int32} (hin : vp_in i Ln) (d : decode cL_law pc = .ok (.iaload, 1)) (kk : LW X S1 S2 k n (pc + 1) L (.int (xs i.toNatClampNeg) :: st) h1 h2) : LW X S1 S2 k n pc L (.int i :: .ref b :: st) h1 h2 := fun ls H locs hl p1 p2 hS => va_sld hx.1.1 hx.1.2.1 hx.2.2.2.2.1 hx.2.2.2.2.2 hx.nb hS hin d (kk ls H locs hl p1 p2 hS)
theorem l_gt (hx : LX X b Ln xs) {x y : Int32} {off : Int} {tgt : Nat} (d : decode cL_law pc = .ok (.if_icmp .gt off, 3)) (ht : (pc : Int) + off = (tgt : Int)) (kt : y < x → LW X S1 S2 k n tgt L st h1 h2) (kf : ¬ y < x → LW X S1 S2 k n (pc + 3) L st h1 h2) : LW X S1 S2 k n pc L (.int y :: .int x :: st) h1 h2 := fun ls H locs hl p1 p2 hS => lv_icmp_gt hx.1.1 hx.1.2.1 d ht (fun z => kt z ls H locs hl p1 p2 hS) (fun z => kf z ls H locs hl p1 p2 hS)
theorem l_ieq (hx : LX X b Ln xs) {r : Int32} {off : Int} {tgt : Nat} (d : decode cL_law pc = .ok (.if_icmp .eq off, 3)) (ht : (pc : Int) + off = (tgt : Int)) (kk : LW X S1 S2 k n tgt L st h1 h2) : LW X S1 S2 k n pc L (.int r :: .int r :: st) h1 h2 := fun ls H locs hl p1 p2 hS => lv_icmp_eq hx.1.1 hx.1.2.1 d ht (fun _ => kk ls H locs hl p1 p2 hS) (fun z => absurd rfl z)
theorem lg_cmp_self (x : Int64) : lg_cmp x x = 0 := by
  have h : ¬ x > x := fun z => lg_lt_not z z
  unfold lg_cmp
  rw [if_neg h, if_pos rfl]
theorem l_leq (hx : LX X b Ln xs) {r : Int64} {off : Int} {tgt : Nat} (d0 : decode cL_law pc = .ok (.lcmp, 1)) (d : decode cL_law (pc + 1) = .ok (.ifCond .eq off, 3)) (ht : ((pc + 1 : Nat) : Int) + off = (tgt : Int)) (kk : LW X S1 S2 k n tgt L st h1 h2) : LW X S1 S2 k n pc L (.long r :: .long r :: st) h1 h2 := fun ls H locs hl p1 p2 hS => W.lcmp hx.1.1 hx.1.2.1 d0 (by
  rw [lg_cmp_self]
  exact lv_if_eq hx.1.1 hx.1.2.1 d ht (fun _ => kk ls H locs hl p1 p2 hS) (fun z => absurd rfl z))
theorem l_goto (hx : LX X b Ln xs) {off : Int} {tgt : Nat} (d : decode cL_law pc = .ok (.goto off, 3)) (ht : (pc : Int) + off = (tgt : Int)) (kk : LW X S1 S2 k n tgt L st h1 h2) : LW X S1 S2 k n pc L st h1 h2 := fun ls H locs hl p1 p2 hS => lv_goto hx.1.1 hx.1.2.1 d ht (kk ls H locs hl p1 p2 hS)
theorem l_iinc (hx : LX X b Ln xs) {i j : Nat} {z : Int} {x v : Int32} {L' : List (Nat × Value)} (d : decode cL_law pc = .ok (.iinc i z, 3)) (hk : L[j]? = some (i, .int x)) (hv : x + Int32.ofInt z = v) (hn : i < 4) (hl : (i, Value.int v) :: L.filter (fun q => !(q.1 == i) && !(q.1 + 1 == i && q.2.category == 2)) = L') (kk : LW X S1 S2 k n (pc + 3) L' st h1 h2) : LW X S1 S2 k n pc L st h1 h2 := fun ls H locs hh p1 p2 hS => lv_iinc hx.1.1 hx.1.2.1 d hh hk hv hn hl (fun ls' hh' => kk ls' H locs hh' p1 p2 hS)
theorem l_call {A1 : Nat → Prop} {y : MethodName} {bb : ByteArray} {nn : Nat} {ret : Option FieldType} {kp idx rf rl p ci : Nat} {v : Value} {h1' : pq_H} {st0 : List Value} (hx : LX X b Ln xs) (k1 : LSd X S1 A1) (hdis : ∀ p, p < S2.1.1 → ¬ A1 (S2.1.2.1 p)) (As st : List Value) (ob : pq_o S1 p ci y.cls) (lk : pq_LB y bb nn ret kp) (lv : Cond.methodLink RL idx y ∈ pq_G ∧ Cond.instanceMethod y ∈ pq_G ∧ Cond.selects y.cls y y ∈ pq_G) (hM : pq_M S1 A1 X.1.2.1 y bb nn ret rf rl (.ref (S1.1.2.1 p) :: As) h1 (some v) h1') (d : decode cL_law pc = .ok (.invokevirtual idx, 3)) (hn : As.length = kp) (hst : st0 = As.reverse ++ .ref (S1.1.2.1 p) :: st) (hW : (st.map fun v => v.category).sum ≤ 8) (hr : rf + 1 ≤ 12) (hr2 : 8 + (nn + 11) + rl ≤ 432) (hkn : k ≤ 600000 ∧ n ≤ 7302250) (kk : LW X S1 S2 k n (pc + 3) L (v :: st) h1' h2) : LW X S1 S2 k n pc L st0 h1 h2 := by
  intro ls H locs hl p1 p2 hS T hT Xs
  obtain ⟨hB, hH, hA, hR, -, -⟩ := hx
  obtain ⟨hK, hE, hA1, hAH⟩ := k1
  obtain ⟨hp, ⟨fs, e1⟩, TT, N, hc⟩ := ob
  have hRm : pq_Rm X 12 432 := ⟨by rw [hR]; exact Nat.le_refl _, by rw [hR]; exact Nat.le_refl _⟩
  have hsub : ∀ q, A1 q → X.2.2.2.1 q := fun q h => (hA q).mpr (hAH q h)
  have hwd : ∀ U : State, U.heap = H → X.1.2.2.2.2.WarmedH U.vm → pq_Wd S1 A1 h1 U := fun U hU hW => by
    refine ⟨by rw [hU]; exact p1, va_K.moved hW.alike hK, ?_⟩
    have hS1 := hS
    rw [hH] at hS1
    exact hA1.2 X.1.2.2.2.2 U _ _ hW (by rw [hU]; exact hS1.1) (fun q g1 g2 => by rw [hU]; exact hS1.2.1 q g1 (fun z => by have := (hA q).mp z; rw [hH] at this; exact Nat.not_le.mpr g1 this)) hE
  have hrun := va_runV (R := X.1.2.2.2.1) (s := X.1.2.2.2.2) (p := X.1.1) (l := X.1.2.1) (e := X.1.2.2.1) (m := X.2.1.1) (args := X.2.1.2.1) (below := X.2.1.2.2.1) (meth := X.2.1.2.2.2.1) (c := X.2.1.2.2.2.2) (H := H) (locs := locs) (cells := k) (slots := n) (g := F0 X.2.1.1 pc ls st0) (As := As) (rest := st) (C := y.cls) ⟨hB.1, hB.2.1, hB.2.2.1, hB.2.2.2.1, hB.2.2.2.2⟩ hM ⟨pq_cb hB hRm lk lv.1 hr hr2, hB.2.2.2.2 _ lv.2.1, hB.2.2.2.2 _ lv.2.2⟩ ⟨pq_blind hA1, va_recv hK p1 (q0 := p) hc (pq_get hp (e1 _ _ _)), fun U hU hW2 => ⟨rfl, hwd U hU hW2⟩⟩ rfl hn hl.1 hst (lv_room hW) d ⟨by rw [hR]; exact hkn.1, by rw [hR]; exact hkn.2⟩
  obtain ⟨v', st₀, t, T', L1, h0, X', hL1, e2, e3, ⟨⟨hv, hw⟩, hz, hkp⟩, hgo⟩ := hrun T hT Xs
  cases hv
  rw [h0] at hz hkp
  have q2 : va_P S2.2.1.1 S2.2.1.2.1 (pq_W S2 h2) T'.heap := p2.kept (fun j x hj => by
    have hlt := (p2 j x hj).lt
    rw [e2]
    refine hkp x.1 hlt ?_
    obtain ⟨i, hi, rfl⟩ := List.mem_map.mp (List.mem_of_getElem? hj)
    exact hdis i (List.mem_range.mp hi))
  obtain ⟨t2, a1, b1⟩ := kk ls T'.heap (locs ++ L1) hl (by rw [e2]; exact hw) q2 ⟨Nat.le_trans hS.1 (by rw [e2]; exact hz), fun q g1 g2 => by rw [e2, hkp q (Nat.lt_of_lt_of_le g1 hS.1) (fun z => g2 (hsub q z))]; exact hS.2.1 q g1 g2, fun q hq => by
      rcases List.mem_append.mp hq with h | h
      · exact hS.2.2 q h
      · exact hsub _ (hL1 q h)⟩ T' rfl X'
  exact ⟨t2, hgo t2 a1, b1⟩
/-- the law's locals -/
abbrev lL (b mo co i : Nat) : List (Nat × Value) := [(3, .int (nI i)), (2, .ref mo), (1, .ref co), (0, .ref b)]
theorem nI_inN {i Ln : Nat} (h : i < Ln) (hN : Ln ≤ 2560) : vp_in (nI i) Ln := by
  rintro (z | z)
  · have h1 := Int32.lt_iff_toInt_lt.mp z
    rw [nI_toInt (by omega)] at h1
    have h2 : (0 : Int32).toInt = 0 := rfl
    omega
  · rw [nI_clamp (by omega)] at z
    omega
theorem l_arg (hx : LX X b Ln xs) {mo co : Nat} (i c : Nat) (hi : i + 5 ≤ Ln) (hN : Ln ≤ 2560) (hc : c < 5) {z : Int} (hz : Int32.ofInt z = nI c) (d0 : decode cL_law pc = .ok (.aload_n 0, 1)) (d1 : decode cL_law (pc + 1) = .ok (.iload_n 3, 1)) (d2 : decode cL_law (pc + 1 + 1) = .ok (.iconst z, 1)) (d3 : decode cL_law (pc + 1 + 1 + 1) = .ok (.iadd, 1)) (d4 : decode cL_law (pc + 1 + 1 + 1 + 1) = .ok (.iaload, 1)) (kk : LW X S1 S2 k n (pc + 1 + 1 + 1 + 1 + 1) (lL b mo co i) (.int (xs (i + c)) :: st) h1 h2) : LW X S1 S2 k n pc (lL b mo co i) st h1 h2 := by
  refine l_aload hx d0 rfl 3 rfl ?_
  refine l_iload hx d1 rfl 0 rfl ?_
  refine l_iconst hx d2 hz ?_
  refine l_iadd hx d3 ?_
  rw [nI_add]
  refine l_sld hx (nI_inN (show i + c < Ln by omega) hN) d4 ?_
  rw [nI_clamp (show i + c < 2 ^ 31 by omega)]
  exact kk
def ag {β : Type} (Inv : pq_H → pq_H → Prop) (x y : Option (β × pq_H)) : Prop := ∃ r hC hM, x = some (r, hC) ∧ y = some (r, hM) ∧ Inv hC hM
def LC (X : pq_X) (gC gM : pq_g) (AC AM : Nat → Prop) : Prop := LSd X (SC gC) AC ∧ LSd X (SM gM) AM ∧ (∀ p, p < 23 → ¬ AC (gM.1 p)) ∧ ∀ p, p < 83 → ¬ AM (gC.1 p)
def LE (X : pq_X) (gC gM : pq_g) (b k n : Nat) (Inv : pq_H → pq_H → Prop) (i : Nat) : Prop := ∀ hC hM, Inv hC hM → LW X (SC gC) (SM gM) k n 1457 (lL b (gM.1 0) (gC.1 55) i) [] hC hM
end LAW
