section ENV
variable {X : pq_X} {g : pq_g} {α : Type} {res : α} {nL pc : Nat} {L : List (Nat × Value)} {st : List Value} {h : pq_H} {F : Option α} {b : ByteArray} {own : String}
theorem v_sld (hB : pq_B X b nL own) (hK : pq_K X (SC g)) {i : Int32} (d : decode b pc = .ok (.iaload, 1)) (kk : V X (SC g) res nL (pc + 1) L (.int (g.2.2.2.2.2 i.toNatClampNeg) :: st) h F) : V X (SC g) res nL pc L (.int i :: .ref g.2.2.2.1 :: st) h (gd (inb i g.2.2.2.2.1) F) := fun e ls H locs hl hP hS => by
  obtain ⟨c1, c2⟩ := gd_some e
  have hS1 := hS
  rw [hK.2.2.1] at hS1
  exact va_ti hB.1 hB.2.1 (envC_scr hK.2.2.2.1) hS1 (inb_in c1) (v := .int (g.2.2.2.2.2 i.toNatClampNeg)) rfl d (kk c2 ls H locs hl hP hS)
theorem v_slen (hB : pq_B X b nL own) (hK : pq_K X (SC g)) (d : decode b pc = .ok (.arraylength, 1)) (kk : V X (SC g) res nL (pc + 1) L (.int (Int32.ofNat g.2.2.2.2.1) :: st) h F) : V X (SC g) res nL pc L (.ref g.2.2.2.1 :: st) h F := fun e ls H locs hl hP hS => by
  have hS1 := hS
  rw [hK.2.2.1] at hS1
  exact va_tlen hB.1 hB.2.1 (envC_scr hK.2.2.2.1) hS1 rfl d (kk e ls H locs hl hP hS)
end ENV
