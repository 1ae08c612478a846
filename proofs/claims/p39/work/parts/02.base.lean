/-! the heap as numbers: ints, longs, references by cell and place; a walk V in step with its pure answer F -/
def pq_G : List Cond := lw_tbl.filter goodWord
theorem pq_in {w : Cond} (i : Nat) (h : lw_tbl[i]? = some w) (g : goodWord w = true) : w ∈ pq_G := List.mem_filter.mpr ⟨List.mem_of_getElem? h, g⟩
theorem pq_t0 {w : Cond} (i : Nat) (h : (k2_sels lw_privs)[i]? = some w) (g : goodWord w = true) : w ∈ pq_G := List.mem_filter.mpr ⟨List.mem_append_left _ (List.mem_of_getElem? h), g⟩
theorem pq_t1 {w : Cond} (i : Nat) (h : tables_1_1[i]? = some w) (g : goodWord w = true) : w ∈ pq_G := List.mem_filter.mpr ⟨List.mem_append_right _ (List.mem_append_left _ (List.mem_of_getElem? h)), g⟩
theorem pq_t2 {w : Cond} (i : Nat) (h : tables_1_2[i]? = some w) (g : goodWord w = true) : w ∈ pq_G := List.mem_filter.mpr ⟨List.mem_append_right _ (List.mem_append_right _ (List.mem_append_left _ (List.mem_of_getElem? h))), g⟩
theorem pq_t3 {w : Cond} (i : Nat) (h : tables_1_3[i]? = some w) (g : goodWord w = true) : w ∈ pq_G := List.mem_filter.mpr ⟨List.mem_append_right _ (List.mem_append_right _ (List.mem_append_right _ (List.mem_of_getElem? h))), g⟩
theorem pq_goodIn {y : MethodName} {b : ByteArray} {n : Nat} {ret : Option FieldType} {Ts : List Cond} (hc : Cond.code y b n ret ∈ Ts) (hG : ∀ w ∈ pq_G, w ∈ Ts) : GoodIn Ts (Cond.code y b n ret :: pq_G) := by
  intro w hw
  rcases List.mem_cons.mp hw with rfl | hw
  · exact ⟨hc, Or.inl rfl⟩
  · exact ⟨hG w hw, good_of_word (List.mem_filter.mp hw).2⟩
abbrev pq_H : Type := (Nat → Nat → Int32) × (Nat → Nat → Int64) × (Nat → Nat → Option Nat)
def rI (h : pq_H) (p k : Nat) : Int32 := h.1 p k
def rJ (h : pq_H) (p k : Nat) : Int64 := h.2.1 p k
def rR (h : pq_H) (p k : Nat) : Option Nat := h.2.2 p k
def wI (h : pq_H) (p k : Nat) (v : Int32) : pq_H := (fun q j => if q = p ∧ j = k then v else h.1 q j, h.2)
def wJ (h : pq_H) (p k : Nat) (v : Int64) : pq_H := (h.1, fun q j => if q = p ∧ j = k then v else h.2.1 q j, h.2.2)
def wR (h : pq_H) (p k : Nat) (v : Option Nat) : pq_H := (h.1, h.2.1, fun q j => if q = p ∧ j = k then v else h.2.2 q j)
abbrev pq_C : Type := Nat → (Nat → Int32) → (Nat → Int64) → (Nat → Option Nat) → va_E
abbrev pq_S : Type := (Nat × (Nat → Nat) × pq_C) × (va_G × List vw_C × List (ClassId × FieldType)) × ((Nat → Prop) → State → Heap → Prop)
def pq_W (S : pq_S) (h : pq_H) : va_W := (List.range S.1.1).map fun p => (S.1.2.1 p, S.1.2.2 p (h.1 p) (h.2.1 p) (h.2.2 p))
theorem pq_get {S : pq_S} {h : pq_H} {p : Nat} {e : va_E} (hp : p < S.1.1) (he : S.1.2.2 p (h.1 p) (h.2.1 p) (h.2.2 p) = e) : (pq_W S h)[p]? = some (S.1.2.1 p, e) := by
  unfold pq_W
  rw [List.getElem?_map, List.getElem?_range hp, ← he]
  rfl
theorem pq_set {S : pq_S} {h h' : pq_H} {p : Nat} {e : va_E} (hp : p < S.1.1) (he : S.1.2.2 p (h'.1 p) (h'.2.1 p) (h'.2.2 p) = e) (ho : ∀ q, q ≠ p → h'.1 q = h.1 q ∧ h'.2.1 q = h.2.1 q ∧ h'.2.2 q = h.2.2 q) : (pq_W S h).set p (S.1.2.1 p, e) = pq_W S h' := by
  apply List.ext_getElem?
  intro k
  by_cases hk : k = p
  · subst hk
    rw [List.getElem?_set_self (by simp [pq_W]; exact hp), pq_get hp he]
  · rw [List.getElem?_set_ne (fun q => hk q.symm)]
    by_cases hl : k < S.1.1
    · obtain ⟨h1, h2, h3⟩ := ho k hk
      rw [pq_get hl rfl, pq_get hl rfl, h1, h2, h3]
    · rw [List.getElem?_eq_none (by simp [pq_W]; omega), List.getElem?_eq_none (by simp [pq_W]; omega)]
theorem wI_ne {h : pq_H} {p k : Nat} {v : Int32} (q : Nat) (hq : q ≠ p) : (wI h p k v).1 q = h.1 q ∧ (wI h p k v).2.1 q = h.2.1 q ∧ (wI h p k v).2.2 q = h.2.2 q := ⟨funext fun j => if_neg (fun z => hq z.1), rfl, rfl⟩
theorem wJ_ne {h : pq_H} {p k : Nat} {v : Int64} (q : Nat) (hq : q ≠ p) : (wJ h p k v).1 q = h.1 q ∧ (wJ h p k v).2.1 q = h.2.1 q ∧ (wJ h p k v).2.2 q = h.2.2 q := ⟨rfl, funext fun j => if_neg (fun z => hq z.1), rfl⟩
theorem wR_ne {h : pq_H} {p k : Nat} {v : Option Nat} (q : Nat) (hq : q ≠ p) : (wR h p k v).1 q = h.1 q ∧ (wR h p k v).2.1 q = h.2.1 q ∧ (wR h p k v).2.2 q = h.2.2 q := ⟨rfl, rfl, funext fun j => if_neg (fun z => hq z.1)⟩
theorem wI_self (h : pq_H) (p k : Nat) (v : Int32) : (wI h p k v).1 p = upd (h.1 p) k v := funext fun j => by
  show (if p = p ∧ j = k then v else h.1 p j) = if j = k then v else h.1 p j
  by_cases hj : j = k
  · rw [if_pos ⟨rfl, hj⟩, if_pos hj]
  · rw [if_neg (fun z => hj z.2), if_neg hj]
theorem wJ_self (h : pq_H) (p k : Nat) (v : Int64) : (wJ h p k v).2.1 p = vp_updL (h.2.1 p) k v := funext fun j => by
  show (if p = p ∧ j = k then v else h.2.1 p j) = if j = k then v else h.2.1 p j
  by_cases hj : j = k
  · rw [if_pos ⟨rfl, hj⟩, if_pos hj]
  · rw [if_neg (fun z => hj z.2), if_neg hj]
theorem wR_self (h : pq_H) (p k : Nat) (v : Option Nat) : (wR h p k v).2.2 p = va_up (h.2.2 p) k v := funext fun j => by
  show (if p = p ∧ j = k then v else h.2.2 p j) = if j = k then v else h.2.2 p j
  by_cases hj : j = k
  · rw [if_pos ⟨rfl, hj⟩, if_pos hj]
  · rw [if_neg (fun z => hj z.2), if_neg hj]
abbrev pq_X : Type := (Program × Launch × Env × Room × State) × (MethodId × Array Value × List Frame × Method × Code × Nat × Nat) × ((State → Prop) × (Nat → Prop) × Heap)
/-- the walk from a place, with locals L, a stack, a heap h: if the pure answer F is res, it comes to Q -/
def V (X : pq_X) (S : pq_S) {α : Type} (res : α) (nL pc : Nat) (L : List (Nat × Value)) (st : List Value) (h : pq_H) (F : Option α) : Prop :=
  F = some res → ∀ (ls : Array Slot) (H : Heap) (locs : List Loc), lv_has ls nL L → va_P S.2.1.1 S.2.1.2.1 (pq_W S h) H → va_S X.2.2.2.1 X.2.2.2.2 H locs → W X.1.1 X.1.2.1 X.1.2.2.1 X.1.2.2.2.1 X.1.2.2.2.2 X.2.1.1 X.2.1.2.1 X.2.1.2.2.1 X.2.1.2.2.2.1 X.2.1.2.2.2.2.1 H locs X.2.1.2.2.2.2.2.1 X.2.1.2.2.2.2.2.2 X.2.2.1 (F0 X.2.1.1 pc ls st)
/-- the machine, the code -/
def pq_B (X : pq_X) (b : ByteArray) (nL : Nat) (own : String) : Prop := X.1.1.tables.exec = Jvm.exec ∧ X.2.1.2.2.2.2.1.code = b ∧ X.2.1.2.2.2.2.1.maxLocals = nL ∧ X.1.2.2.2.2.vm.findClass own = some X.2.1.1.cls ∧ ∀ w ∈ pq_G, w.before X.2.1.2.1 X.1.2.2.2.2 = true
/-- what a world says of the state beside its cells -/
def pq_K (X : pq_X) (S : pq_S) : Prop := va_K S.2.1.1 S.2.1.2.1 S.2.1.2.2 X.1.2.2.2.2 ∧ (∀ h, va_D X.2.2.2.1 (pq_W S h)) ∧ X.2.2.2.2 = X.1.2.2.2.2.heap ∧ S.2.2 X.2.2.2.1 X.1.2.2.2.2 X.1.2.2.2.2.heap ∧ (∀ (s U : State) (H H' : Heap), s.WarmedH U.vm → H.size ≤ H'.size → (∀ q : Nat, q < H.size → ¬ X.2.2.2.1 q → H'[q]? = H[q]?) → S.2.2 X.2.2.2.1 s H → S.2.2 X.2.2.2.1 U H')
def pq_Wd (S : pq_S) (A : Nat → Prop) (h : pq_H) (U : State) : Prop := va_P S.2.1.1 S.2.1.2.1 (pq_W S h) U.heap ∧ va_K S.2.1.1 S.2.1.2.1 S.2.1.2.2 U ∧ S.2.2 A U U.heap
def pq_Q (o : Option Value) (h' : pq_H) (S : pq_S) (A : Nat → Prop) : Array Value → State → Outcome → State → Prop := fun _ st oc t => (oc = .returned o ∧ va_P S.2.1.1 S.2.1.2.1 (pq_W S h') t.heap) ∧ va_F A st t
/-- a method's contract: on a heap h it answers o and leaves h' -/
def pq_M (S : pq_S) (A : Nat → Prop) (l : Launch) (y : MethodName) (b : ByteArray) (n : Nat) (ret : Option FieldType) (rf rl : Nat) (av : List Value) (h : pq_H) (o : Option Value) (h' : pq_H) : Prop :=
  Met l y (Cond.code y b n ret :: pq_G) ({ frames := rf, cells := 0, slots := 0, locals := rl }) (va_Pc av (pq_Wd S A h)) (pq_Q o h' S A) 0 0 A
/-- the world's own laws: its cells lie in A, apart; what it says beside them is kept -/
def pq_A (S : pq_S) (A : Nat → Prop) : Prop := (∀ h, va_D A (pq_W S h)) ∧ ∀ (s U : State) (H H' : Heap), s.WarmedH U.vm → H.size ≤ H'.size → (∀ q : Nat, q < H.size → ¬ A q → H'[q]? = H[q]?) → S.2.2 A s H → S.2.2 A U H'
/-- the room and the end of the method in hand -/
def pq_R (X : pq_X) (S : pq_S) (ret : Option FieldType) (rf rl : Nat) (o : Option Value) (h' : pq_H) : Prop := X.1.2.2.2.1 = { frames := rf, cells := 0, slots := 0, locals := rl } ∧ X.2.1.2.2.2.1.sig.returnType = ret ∧ X.2.1.2.2.2.1.locks = false ∧ X.2.2.1 = MQ X.2.1.2.2.1 (pq_Q o h' S X.2.2.2.1) X.2.1.2.1 X.1.2.2.2.2 0 0 X.2.2.2.1 ∧ X.2.1.2.2.2.2.2 = (0, 0)
theorem pq_met {S : pq_S} {A : Nat → Prop} (hA : pq_A S A) (l : Launch) {y : MethodName} {b : ByteArray} {n : Nat} {ret : Option FieldType} {own : String} (rf rl : Nat) (av : List Value) (L : List (Nat × Value)) (h : pq_H) (o : Option Value) (h' : pq_H)
    (hy : plainName y.cls = true) (ho : y.cls = own) (hlen : (lg_sl av).length ≤ n) (hL : lv_args 0 av = L)
    (key : ∀ X : pq_X, X.1.2.1 = l → X.2.2.2.1 = A → pq_B X b n own → pq_K X S → pq_R X S ret rf rl o h' → V X S () n 0 L [] h (some ())) : pq_M S A l y b n ret rf rl av h o h' := by
  subst ho
  refine Met.ofW (cc := b) (maxL := n) (ret := ret) hy rfl ?_
  intro p e s m args below meth c s₁ B hml hv
  obtain ⟨rfl, hP, hK, hE⟩ := hv
  have hts : ∀ w ∈ pq_G, w.before av.toArray s = true := fun w hw => atoms_spec (ws := Cond.code y b n ret :: pq_G) B.pre w (List.mem_cons_of_mem _ hw)
  have hl := lv_entry av (n := n) hlen
  rw [lg_entry_eq]
  rw [hL] at hl
  have k := key ((p, l, e, { frames := rf, cells := 0, slots := 0, locals := rl }, s), (m, av.toArray, below, meth, c, 0, 0), (MQ below (pq_Q o h' S A) av.toArray s 0 0 A, A, s.heap)) rfl rfl ⟨B.exec, B.bytes, hml, findClass_of_methodNamed B.named, hts⟩ ⟨hK, hA.1, rfl, hE, hA.2⟩ ⟨rfl, B.returns, B.notSynchronized, rfl, rfl⟩
  exact k rfl _ _ _ hl hP va_S.rf
def b2i (b : Bool) : Int32 := match b with | true => 1 | false => 0
def inb (i : Int32) (n : Nat) : Bool := !(decide (i < 0) || decide (n ≤ i.toNatClampNeg))
def gd {β : Type} (c : Bool) (F : Option β) : Option β := match c with | true => F | false => none
def lp {σ : Type} (z : σ) (f : σ → σ) : Nat → σ | 0 => z | n + 1 => f (lp z f n)
theorem inb_in {i : Int32} {n : Nat} (h : inb i n = true) : vp_in i n := by
  unfold inb at h
  unfold vp_in
  intro q
  rcases q with q | q <;> simp [q] at h
theorem inb_lt {i : Int32} {n : Nat} (h : inb i n = true) : i.toNatClampNeg < n := Nat.not_le.mp fun q => inb_in h (Or.inr q)
theorem gd_some {β : Type} {c : Bool} {F : Option β} {r : β} (h : gd c F = some r) : c = true ∧ F = some r := by
  cases c
  · cases h
  · exact ⟨rfl, h⟩
section PQ
variable {X : pq_X} {S : pq_S} {α : Type} {res : α} {nL pc : Nat} {L : List (Nat × Value)} {st : List Value} {h : pq_H} {F : Option α} {b : ByteArray} {own : String}
theorem V.none (pc : Nat) (L : List (Nat × Value)) (st : List Value) (h : pq_H) : V X S res nL pc L st h none := fun e => by cases e
theorem V.sub {L' : List (Nat × Value)} (ks : List Nat) (hl : lv_pick L ks = L') (k : V X S res nL pc L' st h F) : V X S res nL pc L st h F := fun e ls H locs a hP hS => k e ls H locs (lv_sub a ks hl) hP hS
theorem V.cast {β : Type} {res' : β} {F' : Option β} (hF : F = some res → F' = some res') (k : V X S res' nL pc L st h F') : V X S res nL pc L st h F := fun e => k (hF e)
theorem v_iadd (hB : pq_B X b nL own) {a c : Int32} (d : decode b pc = .ok (.iadd, 1)) (k : V X S res nL (pc + 1) L (.int (a + c) :: st) h F) : V X S res nL pc L (.int c :: .int a :: st) h F := fun e ls H locs hl hP hS => lv_iadd hB.1 hB.2.1 d (k e ls H locs hl hP hS)
theorem v_isub (hB : pq_B X b nL own) {a c : Int32} (d : decode b pc = .ok (.isub, 1)) (k : V X S res nL (pc + 1) L (.int (a - c) :: st) h F) : V X S res nL pc L (.int c :: .int a :: st) h F := fun e ls H locs hl hP hS => lv_isub hB.1 hB.2.1 d (k e ls H locs hl hP hS)
theorem v_imul (hB : pq_B X b nL own) {a c : Int32} (d : decode b pc = .ok (.imul, 1)) (k : V X S res nL (pc + 1) L (.int (a * c) :: st) h F) : V X S res nL pc L (.int c :: .int a :: st) h F := fun e ls H locs hl hP hS => lv_imul hB.1 hB.2.1 d (k e ls H locs hl hP hS)
theorem v_iand (hB : pq_B X b nL own) {a c : Int32} (d : decode b pc = .ok (.iand, 1)) (k : V X S res nL (pc + 1) L (.int (a &&& c) :: st) h F) : V X S res nL pc L (.int c :: .int a :: st) h F := fun e ls H locs hl hP hS => lv_iand hB.1 hB.2.1 d (k e ls H locs hl hP hS)
theorem v_ior (hB : pq_B X b nL own) {a c : Int32} (d : decode b pc = .ok (.ior, 1)) (k : V X S res nL (pc + 1) L (.int (a ||| c) :: st) h F) : V X S res nL pc L (.int c :: .int a :: st) h F := fun e ls H locs hl hP hS => lv_ior hB.1 hB.2.1 d (k e ls H locs hl hP hS)
theorem v_ixor (hB : pq_B X b nL own) {a c : Int32} (d : decode b pc = .ok (.ixor, 1)) (k : V X S res nL (pc + 1) L (.int (a ^^^ c) :: st) h F) : V X S res nL pc L (.int c :: .int a :: st) h F := fun e ls H locs hl hP hS => lv_ixor hB.1 hB.2.1 d (k e ls H locs hl hP hS)
theorem v_ladd (hB : pq_B X b nL own) {a c : Int64} (d : decode b pc = .ok (.ladd, 1)) (k : V X S res nL (pc + 1) L (.long (a + c) :: st) h F) : V X S res nL pc L (.long c :: .long a :: st) h F := fun e ls H locs hl hP hS => lv_ladd hB.1 hB.2.1 d (k e ls H locs hl hP hS)
theorem v_lsub (hB : pq_B X b nL own) {a c : Int64} (d : decode b pc = .ok (.lsub, 1)) (k : V X S res nL (pc + 1) L (.long (a - c) :: st) h F) : V X S res nL pc L (.long c :: .long a :: st) h F := fun e ls H locs hl hP hS => lv_lsub hB.1 hB.2.1 d (k e ls H locs hl hP hS)
theorem v_lmul (hB : pq_B X b nL own) {a c : Int64} (d : decode b pc = .ok (.lmul, 1)) (k : V X S res nL (pc + 1) L (.long (a * c) :: st) h F) : V X S res nL pc L (.long c :: .long a :: st) h F := fun e ls H locs hl hP hS => lv_lmul hB.1 hB.2.1 d (k e ls H locs hl hP hS)
theorem v_ineg (hB : pq_B X b nL own) {a : Int32} (d : decode b pc = .ok (.ineg, 1)) (k : V X S res nL (pc + 1) L (.int (-a) :: st) h F) : V X S res nL pc L (.int a :: st) h F := fun e ls H locs hl hP hS => lv_ineg hB.1 hB.2.1 d (k e ls H locs hl hP hS)
theorem v_lneg (hB : pq_B X b nL own) {a : Int64} (d : decode b pc = .ok (.lneg, 1)) (k : V X S res nL (pc + 1) L (.long (-a) :: st) h F) : V X S res nL pc L (.long a :: st) h F := fun e ls H locs hl hP hS => lv_lneg hB.1 hB.2.1 d (k e ls H locs hl hP hS)
theorem v_ishl (hB : pq_B X b nL own) {a c : Int32} (d : decode b pc = .ok (.ishl, 1)) (k : V X S res nL (pc + 1) L (.int (a <<< (c &&& 31)) :: st) h F) : V X S res nL pc L (.int c :: .int a :: st) h F := fun e ls H locs hl hP hS => lv_ishl hB.1 hB.2.1 d (k e ls H locs hl hP hS)
theorem v_ishr (hB : pq_B X b nL own) {a c : Int32} (d : decode b pc = .ok (.ishr, 1)) (k : V X S res nL (pc + 1) L (.int (a >>> (c &&& 31)) :: st) h F) : V X S res nL pc L (.int c :: .int a :: st) h F := fun e ls H locs hl hP hS => lv_ishr hB.1 hB.2.1 d (k e ls H locs hl hP hS)
theorem v_idiv (hB : pq_B X b nL own) {a c : Int32} (d : decode b pc = .ok (.idiv, 1)) (hne : ¬ c = 0) (k : V X S res nL (pc + 1) L (.int (a / c) :: st) h F) : V X S res nL pc L (.int c :: .int a :: st) h F := fun e ls H locs hl hP hS => lv_idiv hB.1 hB.2.1 d hne (k e ls H locs hl hP hS)
theorem v_irem (hB : pq_B X b nL own) {a c : Int32} (d : decode b pc = .ok (.irem, 1)) (hne : ¬ c = 0) (k : V X S res nL (pc + 1) L (.int (a - a / c * c) :: st) h F) : V X S res nL pc L (.int c :: .int a :: st) h F := fun e ls H locs hl hP hS => lv_irem hB.1 hB.2.1 d hne (k e ls H locs hl hP hS)
theorem v_ldiv (hB : pq_B X b nL own) {a c : Int64} (d : decode b pc = .ok (.ldiv, 1)) (hne : ¬ c = 0) (k : V X S res nL (pc + 1) L (.long (a / c) :: st) h F) : V X S res nL pc L (.long c :: .long a :: st) h F := fun e ls H locs hl hP hS => lv_ldiv hB.1 hB.2.1 d hne (k e ls H locs hl hP hS)
theorem v_lrem (hB : pq_B X b nL own) {a c : Int64} (d : decode b pc = .ok (.lrem, 1)) (hne : ¬ c = 0) (k : V X S res nL (pc + 1) L (.long (a - a / c * c) :: st) h F) : V X S res nL pc L (.long c :: .long a :: st) h F := fun e ls H locs hl hP hS => lv_lrem hB.1 hB.2.1 d hne (k e ls H locs hl hP hS)
theorem v_i2l (hB : pq_B X b nL own) {a : Int32} (d : decode b pc = .ok (.i2l, 1)) (k : V X S res nL (pc + 1) L (.long a.toInt64 :: st) h F) : V X S res nL pc L (.int a :: st) h F := fun e ls H locs hl hP hS => lv_i2l hB.1 hB.2.1 d rfl (k e ls H locs hl hP hS)
theorem v_l2i (hB : pq_B X b nL own) {a : Int64} (d : decode b pc = .ok (.l2i, 1)) (k : V X S res nL (pc + 1) L (.int a.toInt32 :: st) h F) : V X S res nL pc L (.long a :: st) h F := fun e ls H locs hl hP hS => lv_l2i hB.1 hB.2.1 d rfl (k e ls H locs hl hP hS)
theorem v_iconst (hB : pq_B X b nL own) {n : Int} (v : Int32) (d : decode b pc = .ok (.iconst n, 1)) (hv : Int32.ofInt n = v) (k : V X S res nL (pc + 1) L (.int v :: st) h F) : V X S res nL pc L (st) h F := fun e ls H locs hl hP hS => lv_iconst hB.1 hB.2.1 d hv (k e ls H locs hl hP hS)
theorem v_bipush (hB : pq_B X b nL own) {n : Int} (v : Int32) (d : decode b pc = .ok (.bipush n, 2)) (hv : (Int8.ofInt n).toInt32 = v) (k : V X S res nL (pc + 2) L (.int v :: st) h F) : V X S res nL pc L (st) h F := fun e ls H locs hl hP hS => lv_bipush hB.1 hB.2.1 d hv (k e ls H locs hl hP hS)
theorem v_sipush (hB : pq_B X b nL own) {n : Int} (v : Int32) (d : decode b pc = .ok (.sipush n, 3)) (hv : (Int16.ofInt n).toInt32 = v) (k : V X S res nL (pc + 3) L (.int v :: st) h F) : V X S res nL pc L (st) h F := fun e ls H locs hl hP hS => lv_sipush hB.1 hB.2.1 d hv (k e ls H locs hl hP hS)
theorem v_lconst (hB : pq_B X b nL own) {n : Fin 2} (v : Int64) (d : decode b pc = .ok (.lconst n, 1)) (hv : Int64.ofNat (n : Nat) = v) (k : V X S res nL (pc + 1) L (.long v :: st) h F) : V X S res nL pc L (st) h F := fun e ls H locs hl hP hS => lv_lconst hB.1 hB.2.1 d hv (k e ls H locs hl hP hS)
theorem v_ldc (hB : pq_B X b nL own) {i : Nat} (v : Int32) (hc : Cond.constant own i v ∈ pq_G) (d : decode b pc = .ok (.ldc i, 2)) (k : V X S res nL (pc + 2) L (.int v :: st) h F) : V X S res nL pc L st h F := fun e ls H locs hl hP hS => lv_ldc hB.1 hB.2.1 hB.2.2.2.1 (hB.2.2.2.2 _ hc) d (k e ls H locs hl hP hS)
theorem v_ldcw (hB : pq_B X b nL own) {i : Nat} (v : Int32) (hc : Cond.constant own i v ∈ pq_G) (d : decode b pc = .ok (.ldc_w i, 3)) (k : V X S res nL (pc + 3) L (.int v :: st) h F) : V X S res nL pc L st h F := fun e ls H locs hl hP hS => lv_ldcw hB.1 hB.2.1 hB.2.2.2.1 (hB.2.2.2.2 _ hc) d (k e ls H locs hl hP hS)
theorem v_ldc2 (hB : pq_B X b nL own) {i : Nat} (v : Int64) (hc : Cond.constantLong own i v ∈ pq_G) (d : decode b pc = .ok (.ldc2_w i, 3)) (k : V X S res nL (pc + 3) L (.long v :: st) h F) : V X S res nL pc L st h F := fun e ls H locs hl hP hS => lv_ldc2 hB.1 hB.2.1 hB.2.2.2.1 (hB.2.2.2.2 _ hc) d (k e ls H locs hl hP hS)
theorem v_dup (hB : pq_B X b nL own) {va : Value} (d : decode b pc = .ok (.dup, 1)) (hva : va.category = 1) (k : V X S res nL (pc + 1) L (va :: va :: st) h F) : V X S res nL pc L (va :: st) h F := fun e ls H locs hl hP hS => lv_dup hB.1 hB.2.1 d hva (k e ls H locs hl hP hS)
theorem v_pop (hB : pq_B X b nL own) {va : Value} (d : decode b pc = .ok (.pop, 1)) (hva : va.category = 1) (k : V X S res nL (pc + 1) L (st) h F) : V X S res nL pc L (va :: st) h F := fun e ls H locs hl hP hS => lv_pop hB.1 hB.2.1 d hva (k e ls H locs hl hP hS)
theorem v_dup2 (hB : pq_B X b nL own) {va vb : Value} (d : decode b pc = .ok (.dup2, 1)) (hva : va.category = 1) (hvb : vb.category = 1) (k : V X S res nL (pc + 1) L (va :: vb :: va :: vb :: st) h F) : V X S res nL pc L (va :: vb :: st) h F := fun e ls H locs hl hP hS => lv_dup2_11 hB.1 hB.2.1 d hva hvb (k e ls H locs hl hP hS)
theorem v_iload_n (hB : pq_B X b nL own) {kk : Fin 4} {i : Nat} {x : Int32} (j : Nat) (d : decode b pc = .ok (.iload_n kk, 1)) (hi : (kk : Nat) = i) (hL : L[j]? = some (i, .int x)) (k : V X S res nL (pc + 1) L (.int x :: st) h F) : V X S res nL pc L st h F := fun e ls H locs hl hP hS => lv_iload_n hB.1 hB.2.1 d hi (lv_at hl j hL) (k e ls H locs hl hP hS)
theorem v_iload (hB : pq_B X b nL own) {i : Nat} {x : Int32} (j : Nat) (d : decode b pc = .ok (.iload i, 2)) (hL : L[j]? = some (i, .int x)) (k : V X S res nL (pc + 2) L (.int x :: st) h F) : V X S res nL pc L st h F := fun e ls H locs hl hP hS => lv_iload hB.1 hB.2.1 d (lv_at hl j hL) (k e ls H locs hl hP hS)
theorem v_lload_n (hB : pq_B X b nL own) {kk : Fin 4} {i : Nat} {x : Int64} (j : Nat) (d : decode b pc = .ok (.lload_n kk, 1)) (hi : (kk : Nat) = i) (hL : L[j]? = some (i, .long x)) (k : V X S res nL (pc + 1) L (.long x :: st) h F) : V X S res nL pc L st h F := fun e ls H locs hl hP hS => lv_lload_n hB.1 hB.2.1 d hi (lv_at hl j hL) (k e ls H locs hl hP hS)
theorem v_lload (hB : pq_B X b nL own) {i : Nat} {x : Int64} (j : Nat) (d : decode b pc = .ok (.lload i, 2)) (hL : L[j]? = some (i, .long x)) (k : V X S res nL (pc + 2) L (.long x :: st) h F) : V X S res nL pc L st h F := fun e ls H locs hl hP hS => lv_lload hB.1 hB.2.1 d (lv_at hl j hL) (k e ls H locs hl hP hS)
theorem v_aload_n (hB : pq_B X b nL own) {kk : Fin 4} {i : Nat} {x : Nat} (j : Nat) (d : decode b pc = .ok (.aload_n kk, 1)) (hi : (kk : Nat) = i) (hL : L[j]? = some (i, .ref x)) (k : V X S res nL (pc + 1) L (.ref x :: st) h F) : V X S res nL pc L st h F := fun e ls H locs hl hP hS => lv_aload_n hB.1 hB.2.1 d hi (lv_at hl j hL) (k e ls H locs hl hP hS)
theorem v_aload (hB : pq_B X b nL own) {i : Nat} {x : Nat} (j : Nat) (d : decode b pc = .ok (.aload i, 2)) (hL : L[j]? = some (i, .ref x)) (k : V X S res nL (pc + 2) L (.ref x :: st) h F) : V X S res nL pc L st h F := fun e ls H locs hl hP hS => lv_aload hB.1 hB.2.1 d (lv_at hl j hL) (k e ls H locs hl hP hS)
theorem v_istore_n (hB : pq_B X b nL own) {kk : Fin 4} {i : Nat} {x : Int32} (L' : List (Nat × Value)) (ks : List Nat) (d : decode b pc = .ok (.istore_n kk, 1)) (hi : (kk : Nat) = i) (hn : i < nL) (hL : lv_pick ((i, Value.int x) :: L.filter (fun q => !(q.1 == i) && !(q.1 + 1 == i && q.2.category == 2))) ks = L') (k : V X S res nL (pc + 1) L' st h F) : V X S res nL pc L (.int x :: st) h F := fun e ls H locs hl hP hS => lv_istore_n hB.1 hB.2.1 d hi hl hn rfl (fun ls2 hl2 => k e ls2 H locs (lv_sub hl2 ks hL) hP hS)
theorem v_istore (hB : pq_B X b nL own) {i : Nat} {x : Int32} (L' : List (Nat × Value)) (ks : List Nat) (d : decode b pc = .ok (.istore i, 2)) (hn : i < nL) (hL : lv_pick ((i, Value.int x) :: L.filter (fun q => !(q.1 == i) && !(q.1 + 1 == i && q.2.category == 2))) ks = L') (k : V X S res nL (pc + 2) L' st h F) : V X S res nL pc L (.int x :: st) h F := fun e ls H locs hl hP hS => lv_istore hB.1 hB.2.1 d hl hn rfl (fun ls2 hl2 => k e ls2 H locs (lv_sub hl2 ks hL) hP hS)
theorem v_lstore_n (hB : pq_B X b nL own) {kk : Fin 4} {i : Nat} {x : Int64} (L' : List (Nat × Value)) (ks : List Nat) (d : decode b pc = .ok (.lstore_n kk, 1)) (hi : (kk : Nat) = i) (hn : i + 1 < nL) (hL : lv_pick ((i, Value.long x) :: L.filter (fun q => !(q.1 == i) && (!(q.1 == i + 1) && !(q.1 + 1 == i && q.2.category == 2)))) ks = L') (k : V X S res nL (pc + 1) L' st h F) : V X S res nL pc L (.long x :: st) h F := fun e ls H locs hl hP hS => lv_lstore_n hB.1 hB.2.1 d hi hl hn rfl (fun ls2 hl2 => k e ls2 H locs (lv_sub hl2 ks hL) hP hS)
theorem v_lstore (hB : pq_B X b nL own) {i : Nat} {x : Int64} (L' : List (Nat × Value)) (ks : List Nat) (d : decode b pc = .ok (.lstore i, 2)) (hn : i + 1 < nL) (hL : lv_pick ((i, Value.long x) :: L.filter (fun q => !(q.1 == i) && (!(q.1 == i + 1) && !(q.1 + 1 == i && q.2.category == 2)))) ks = L') (k : V X S res nL (pc + 2) L' st h F) : V X S res nL pc L (.long x :: st) h F := fun e ls H locs hl hP hS => lv_lstore hB.1 hB.2.1 d hl hn rfl (fun ls2 hl2 => k e ls2 H locs (lv_sub hl2 ks hL) hP hS)
theorem v_astore_n (hB : pq_B X b nL own) {kk : Fin 4} {i : Nat} {x : Nat} (L' : List (Nat × Value)) (ks : List Nat) (d : decode b pc = .ok (.astore_n kk, 1)) (hi : (kk : Nat) = i) (hn : i < nL) (hL : lv_pick ((i, Value.ref x) :: L.filter (fun q => !(q.1 == i) && !(q.1 + 1 == i && q.2.category == 2))) ks = L') (k : V X S res nL (pc + 1) L' st h F) : V X S res nL pc L (.ref x :: st) h F := fun e ls H locs hl hP hS => lv_astore_n hB.1 hB.2.1 d hi hl hn rfl (fun ls2 hl2 => k e ls2 H locs (lv_sub hl2 ks hL) hP hS)
theorem v_astore (hB : pq_B X b nL own) {i : Nat} {x : Nat} (L' : List (Nat × Value)) (ks : List Nat) (d : decode b pc = .ok (.astore i, 2)) (hn : i < nL) (hL : lv_pick ((i, Value.ref x) :: L.filter (fun q => !(q.1 == i) && !(q.1 + 1 == i && q.2.category == 2))) ks = L') (k : V X S res nL (pc + 2) L' st h F) : V X S res nL pc L (.ref x :: st) h F := fun e ls H locs hl hP hS => lv_astore hB.1 hB.2.1 d hl hn rfl (fun ls2 hl2 => k e ls2 H locs (lv_sub hl2 ks hL) hP hS)
theorem v_iinc (hB : pq_B X b nL own) {i : Nat} {n : Int} {x : Int32} (v : Int32) (L' : List (Nat × Value)) (j : Nat) (ks : List Nat) (d : decode b pc = .ok (.iinc i n, 3)) (hx : L[j]? = some (i, .int x)) (hv : x + Int32.ofInt n = v) (hn : i < nL) (hL : lv_pick ((i, Value.int v) :: L.filter (fun q => !(q.1 == i) && !(q.1 + 1 == i && q.2.category == 2))) ks = L') (k : V X S res nL (pc + 3) L' st h F) : V X S res nL pc L st h F := fun e ls H locs hl hP hS => lv_iinc hB.1 hB.2.1 d hl hx hv hn rfl (fun ls2 hl2 => k e ls2 H locs (lv_sub hl2 ks hL) hP hS)
theorem v_goto (hB : pq_B X b nL own) {off : Int} {tgt : Nat} (d : decode b pc = .ok (.goto off, 3)) (ht : (pc : Int) + off = (tgt : Int)) (k : V X S res nL tgt L st h F) : V X S res nL pc L st h F := fun e ls H locs hl hP hS => lv_goto hB.1 hB.2.1 d ht (k e ls H locs hl hP hS)
theorem v_icmp_eq (hB : pq_B X b nL own) {a c : Int32} {off : Int} {tgt : Nat} {F1 F2 : Option α} (d : decode b pc = .ok (.if_icmp .eq off, 3)) (ht : (pc : Int) + off = (tgt : Int)) (k1 : V X S res nL tgt L st h F1) (k2 : V X S res nL (pc + 3) L st h F2) : V X S res nL pc L (.int c :: .int a :: st) h (if a = c then F1 else F2) := fun e ls H locs hl hP hS => lv_icmp_eq hB.1 hB.2.1 d ht (fun z => (k1 (by rw [if_pos z] at e; exact e) ls H locs hl hP hS)) (fun z => (k2 (by rw [if_neg z] at e; exact e) ls H locs hl hP hS))
theorem v_if_eq (hB : pq_B X b nL own) {a : Int32} {off : Int} {tgt : Nat} {F1 F2 : Option α} (d : decode b pc = .ok (.ifCond .eq off, 3)) (ht : (pc : Int) + off = (tgt : Int)) (k1 : V X S res nL tgt L st h F1) (k2 : V X S res nL (pc + 3) L st h F2) : V X S res nL pc L (.int a :: st) h (if a = 0 then F1 else F2) := fun e ls H locs hl hP hS => lv_if_eq hB.1 hB.2.1 d ht (fun z => (k1 (by rw [if_pos z] at e; exact e) ls H locs hl hP hS)) (fun z => (k2 (by rw [if_neg z] at e; exact e) ls H locs hl hP hS))
theorem v_icmp_ne (hB : pq_B X b nL own) {a c : Int32} {off : Int} {tgt : Nat} {F1 F2 : Option α} (d : decode b pc = .ok (.if_icmp .ne off, 3)) (ht : (pc : Int) + off = (tgt : Int)) (k1 : V X S res nL tgt L st h F1) (k2 : V X S res nL (pc + 3) L st h F2) : V X S res nL pc L (.int c :: .int a :: st) h (if a = c then F2 else F1) := fun e ls H locs hl hP hS => lv_icmp_ne hB.1 hB.2.1 d ht (fun z => (k1 (by rw [if_neg z] at e; exact e) ls H locs hl hP hS)) (fun z => (k2 (by rw [if_pos z] at e; exact e) ls H locs hl hP hS))
theorem v_if_ne (hB : pq_B X b nL own) {a : Int32} {off : Int} {tgt : Nat} {F1 F2 : Option α} (d : decode b pc = .ok (.ifCond .ne off, 3)) (ht : (pc : Int) + off = (tgt : Int)) (k1 : V X S res nL tgt L st h F1) (k2 : V X S res nL (pc + 3) L st h F2) : V X S res nL pc L (.int a :: st) h (if a = 0 then F2 else F1) := fun e ls H locs hl hP hS => lv_if_ne hB.1 hB.2.1 d ht (fun z => (k1 (by rw [if_neg z] at e; exact e) ls H locs hl hP hS)) (fun z => (k2 (by rw [if_pos z] at e; exact e) ls H locs hl hP hS))
theorem v_icmp_lt (hB : pq_B X b nL own) {a c : Int32} {off : Int} {tgt : Nat} {F1 F2 : Option α} (d : decode b pc = .ok (.if_icmp .lt off, 3)) (ht : (pc : Int) + off = (tgt : Int)) (k1 : V X S res nL tgt L st h F1) (k2 : V X S res nL (pc + 3) L st h F2) : V X S res nL pc L (.int c :: .int a :: st) h (if a < c then F1 else F2) := fun e ls H locs hl hP hS => lv_icmp_lt hB.1 hB.2.1 d ht (fun z => (k1 (by rw [if_pos z] at e; exact e) ls H locs hl hP hS)) (fun z => (k2 (by rw [if_neg z] at e; exact e) ls H locs hl hP hS))
theorem v_if_lt (hB : pq_B X b nL own) {a : Int32} {off : Int} {tgt : Nat} {F1 F2 : Option α} (d : decode b pc = .ok (.ifCond .lt off, 3)) (ht : (pc : Int) + off = (tgt : Int)) (k1 : V X S res nL tgt L st h F1) (k2 : V X S res nL (pc + 3) L st h F2) : V X S res nL pc L (.int a :: st) h (if a < 0 then F1 else F2) := fun e ls H locs hl hP hS => lv_if_lt hB.1 hB.2.1 d ht (fun z => (k1 (by rw [if_pos z] at e; exact e) ls H locs hl hP hS)) (fun z => (k2 (by rw [if_neg z] at e; exact e) ls H locs hl hP hS))
theorem v_icmp_ge (hB : pq_B X b nL own) {a c : Int32} {off : Int} {tgt : Nat} {F1 F2 : Option α} (d : decode b pc = .ok (.if_icmp .ge off, 3)) (ht : (pc : Int) + off = (tgt : Int)) (k1 : V X S res nL tgt L st h F1) (k2 : V X S res nL (pc + 3) L st h F2) : V X S res nL pc L (.int c :: .int a :: st) h (if c ≤ a then F1 else F2) := fun e ls H locs hl hP hS => lv_icmp_ge hB.1 hB.2.1 d ht (fun z => (k1 (by rw [if_pos z] at e; exact e) ls H locs hl hP hS)) (fun z => (k2 (by rw [if_neg z] at e; exact e) ls H locs hl hP hS))
theorem v_if_ge (hB : pq_B X b nL own) {a : Int32} {off : Int} {tgt : Nat} {F1 F2 : Option α} (d : decode b pc = .ok (.ifCond .ge off, 3)) (ht : (pc : Int) + off = (tgt : Int)) (k1 : V X S res nL tgt L st h F1) (k2 : V X S res nL (pc + 3) L st h F2) : V X S res nL pc L (.int a :: st) h (if 0 ≤ a then F1 else F2) := fun e ls H locs hl hP hS => lv_if_ge hB.1 hB.2.1 d ht (fun z => (k1 (by rw [if_pos z] at e; exact e) ls H locs hl hP hS)) (fun z => (k2 (by rw [if_neg z] at e; exact e) ls H locs hl hP hS))
theorem v_icmp_gt (hB : pq_B X b nL own) {a c : Int32} {off : Int} {tgt : Nat} {F1 F2 : Option α} (d : decode b pc = .ok (.if_icmp .gt off, 3)) (ht : (pc : Int) + off = (tgt : Int)) (k1 : V X S res nL tgt L st h F1) (k2 : V X S res nL (pc + 3) L st h F2) : V X S res nL pc L (.int c :: .int a :: st) h (if c < a then F1 else F2) := fun e ls H locs hl hP hS => lv_icmp_gt hB.1 hB.2.1 d ht (fun z => (k1 (by rw [if_pos z] at e; exact e) ls H locs hl hP hS)) (fun z => (k2 (by rw [if_neg z] at e; exact e) ls H locs hl hP hS))
theorem v_if_gt (hB : pq_B X b nL own) {a : Int32} {off : Int} {tgt : Nat} {F1 F2 : Option α} (d : decode b pc = .ok (.ifCond .gt off, 3)) (ht : (pc : Int) + off = (tgt : Int)) (k1 : V X S res nL tgt L st h F1) (k2 : V X S res nL (pc + 3) L st h F2) : V X S res nL pc L (.int a :: st) h (if 0 < a then F1 else F2) := fun e ls H locs hl hP hS => lv_if_gt hB.1 hB.2.1 d ht (fun z => (k1 (by rw [if_pos z] at e; exact e) ls H locs hl hP hS)) (fun z => (k2 (by rw [if_neg z] at e; exact e) ls H locs hl hP hS))
theorem v_icmp_le (hB : pq_B X b nL own) {a c : Int32} {off : Int} {tgt : Nat} {F1 F2 : Option α} (d : decode b pc = .ok (.if_icmp .le off, 3)) (ht : (pc : Int) + off = (tgt : Int)) (k1 : V X S res nL tgt L st h F1) (k2 : V X S res nL (pc + 3) L st h F2) : V X S res nL pc L (.int c :: .int a :: st) h (if a ≤ c then F1 else F2) := fun e ls H locs hl hP hS => lv_icmp_le hB.1 hB.2.1 d ht (fun z => (k1 (by rw [if_pos z] at e; exact e) ls H locs hl hP hS)) (fun z => (k2 (by rw [if_neg z] at e; exact e) ls H locs hl hP hS))
theorem v_if_le (hB : pq_B X b nL own) {a : Int32} {off : Int} {tgt : Nat} {F1 F2 : Option α} (d : decode b pc = .ok (.ifCond .le off, 3)) (ht : (pc : Int) + off = (tgt : Int)) (k1 : V X S res nL tgt L st h F1) (k2 : V X S res nL (pc + 3) L st h F2) : V X S res nL pc L (.int a :: st) h (if a ≤ 0 then F1 else F2) := fun e ls H locs hl hP hS => lv_if_le hB.1 hB.2.1 d ht (fun z => (k1 (by rw [if_pos z] at e; exact e) ls H locs hl hP hS)) (fun z => (k2 (by rw [if_neg z] at e; exact e) ls H locs hl hP hS))
theorem v_icmp_eqT (hB : pq_B X b nL own) {a c : Int32} {off : Int} {tgt : Nat} {x1 x2 : α} (d : decode b pc = .ok (.if_icmp .eq off, 3)) (ht : (pc : Int) + off = (tgt : Int)) (k1 : V X S res nL tgt L st h (some x1)) (k2 : V X S res nL (pc + 3) L st h (some x2)) : V X S res nL pc L (.int c :: .int a :: st) h (some (if a = c then x1 else x2)) := V.cast (F' := if a = c then some x1 else some x2) (fun e => by rw [← e]; split <;> rfl) (v_icmp_eq hB d ht k1 k2)
theorem v_if_eqT (hB : pq_B X b nL own) {a : Int32} {off : Int} {tgt : Nat} {x1 x2 : α} (d : decode b pc = .ok (.ifCond .eq off, 3)) (ht : (pc : Int) + off = (tgt : Int)) (k1 : V X S res nL tgt L st h (some x1)) (k2 : V X S res nL (pc + 3) L st h (some x2)) : V X S res nL pc L (.int a :: st) h (some (if a = 0 then x1 else x2)) := V.cast (F' := if a = 0 then some x1 else some x2) (fun e => by rw [← e]; split <;> rfl) (v_if_eq hB d ht k1 k2)
theorem v_icmp_neT (hB : pq_B X b nL own) {a c : Int32} {off : Int} {tgt : Nat} {x1 x2 : α} (d : decode b pc = .ok (.if_icmp .ne off, 3)) (ht : (pc : Int) + off = (tgt : Int)) (k1 : V X S res nL tgt L st h (some x1)) (k2 : V X S res nL (pc + 3) L st h (some x2)) : V X S res nL pc L (.int c :: .int a :: st) h (some (if a = c then x2 else x1)) := V.cast (F' := if a = c then some x2 else some x1) (fun e => by rw [← e]; split <;> rfl) (v_icmp_ne hB d ht k1 k2)
theorem v_if_neT (hB : pq_B X b nL own) {a : Int32} {off : Int} {tgt : Nat} {x1 x2 : α} (d : decode b pc = .ok (.ifCond .ne off, 3)) (ht : (pc : Int) + off = (tgt : Int)) (k1 : V X S res nL tgt L st h (some x1)) (k2 : V X S res nL (pc + 3) L st h (some x2)) : V X S res nL pc L (.int a :: st) h (some (if a = 0 then x2 else x1)) := V.cast (F' := if a = 0 then some x2 else some x1) (fun e => by rw [← e]; split <;> rfl) (v_if_ne hB d ht k1 k2)
theorem v_icmp_ltT (hB : pq_B X b nL own) {a c : Int32} {off : Int} {tgt : Nat} {x1 x2 : α} (d : decode b pc = .ok (.if_icmp .lt off, 3)) (ht : (pc : Int) + off = (tgt : Int)) (k1 : V X S res nL tgt L st h (some x1)) (k2 : V X S res nL (pc + 3) L st h (some x2)) : V X S res nL pc L (.int c :: .int a :: st) h (some (if a < c then x1 else x2)) := V.cast (F' := if a < c then some x1 else some x2) (fun e => by rw [← e]; split <;> rfl) (v_icmp_lt hB d ht k1 k2)
theorem v_if_ltT (hB : pq_B X b nL own) {a : Int32} {off : Int} {tgt : Nat} {x1 x2 : α} (d : decode b pc = .ok (.ifCond .lt off, 3)) (ht : (pc : Int) + off = (tgt : Int)) (k1 : V X S res nL tgt L st h (some x1)) (k2 : V X S res nL (pc + 3) L st h (some x2)) : V X S res nL pc L (.int a :: st) h (some (if a < 0 then x1 else x2)) := V.cast (F' := if a < 0 then some x1 else some x2) (fun e => by rw [← e]; split <;> rfl) (v_if_lt hB d ht k1 k2)
theorem v_icmp_geT (hB : pq_B X b nL own) {a c : Int32} {off : Int} {tgt : Nat} {x1 x2 : α} (d : decode b pc = .ok (.if_icmp .ge off, 3)) (ht : (pc : Int) + off = (tgt : Int)) (k1 : V X S res nL tgt L st h (some x1)) (k2 : V X S res nL (pc + 3) L st h (some x2)) : V X S res nL pc L (.int c :: .int a :: st) h (some (if c ≤ a then x1 else x2)) := V.cast (F' := if c ≤ a then some x1 else some x2) (fun e => by rw [← e]; split <;> rfl) (v_icmp_ge hB d ht k1 k2)
theorem v_if_geT (hB : pq_B X b nL own) {a : Int32} {off : Int} {tgt : Nat} {x1 x2 : α} (d : decode b pc = .ok (.ifCond .ge off, 3)) (ht : (pc : Int) + off = (tgt : Int)) (k1 : V X S res nL tgt L st h (some x1)) (k2 : V X S res nL (pc + 3) L st h (some x2)) : V X S res nL pc L (.int a :: st) h (some (if 0 ≤ a then x1 else x2)) := V.cast (F' := if 0 ≤ a then some x1 else some x2) (fun e => by rw [← e]; split <;> rfl) (v_if_ge hB d ht k1 k2)
theorem v_icmp_gtT (hB : pq_B X b nL own) {a c : Int32} {off : Int} {tgt : Nat} {x1 x2 : α} (d : decode b pc = .ok (.if_icmp .gt off, 3)) (ht : (pc : Int) + off = (tgt : Int)) (k1 : V X S res nL tgt L st h (some x1)) (k2 : V X S res nL (pc + 3) L st h (some x2)) : V X S res nL pc L (.int c :: .int a :: st) h (some (if c < a then x1 else x2)) := V.cast (F' := if c < a then some x1 else some x2) (fun e => by rw [← e]; split <;> rfl) (v_icmp_gt hB d ht k1 k2)
theorem v_if_gtT (hB : pq_B X b nL own) {a : Int32} {off : Int} {tgt : Nat} {x1 x2 : α} (d : decode b pc = .ok (.ifCond .gt off, 3)) (ht : (pc : Int) + off = (tgt : Int)) (k1 : V X S res nL tgt L st h (some x1)) (k2 : V X S res nL (pc + 3) L st h (some x2)) : V X S res nL pc L (.int a :: st) h (some (if 0 < a then x1 else x2)) := V.cast (F' := if 0 < a then some x1 else some x2) (fun e => by rw [← e]; split <;> rfl) (v_if_gt hB d ht k1 k2)
theorem v_icmp_leT (hB : pq_B X b nL own) {a c : Int32} {off : Int} {tgt : Nat} {x1 x2 : α} (d : decode b pc = .ok (.if_icmp .le off, 3)) (ht : (pc : Int) + off = (tgt : Int)) (k1 : V X S res nL tgt L st h (some x1)) (k2 : V X S res nL (pc + 3) L st h (some x2)) : V X S res nL pc L (.int c :: .int a :: st) h (some (if a ≤ c then x1 else x2)) := V.cast (F' := if a ≤ c then some x1 else some x2) (fun e => by rw [← e]; split <;> rfl) (v_icmp_le hB d ht k1 k2)
theorem v_if_leT (hB : pq_B X b nL own) {a : Int32} {off : Int} {tgt : Nat} {x1 x2 : α} (d : decode b pc = .ok (.ifCond .le off, 3)) (ht : (pc : Int) + off = (tgt : Int)) (k1 : V X S res nL tgt L st h (some x1)) (k2 : V X S res nL (pc + 3) L st h (some x2)) : V X S res nL pc L (.int a :: st) h (some (if a ≤ 0 then x1 else x2)) := V.cast (F' := if a ≤ 0 then some x1 else some x2) (fun e => by rw [← e]; split <;> rfl) (v_if_le hB d ht k1 k2)
theorem b2i_0 {r : Bool} : b2i r = 0 ↔ r = false := by cases r <;> decide
theorem v_ifz_eq (hB : pq_B X b nL own) {r : Bool} {off : Int} {tgt : Nat} {F1 F2 : Option α} (d : decode b pc = .ok (.ifCond .eq off, 3)) (ht : (pc : Int) + off = (tgt : Int)) (k1 : V X S res nL tgt L st h F1) (k2 : V X S res nL (pc + 3) L st h F2) : V X S res nL pc L (.int (b2i r) :: st) h (if r = true then F2 else F1) := by
  cases r
  · exact fun e ls H locs hl hP hS => lv_if_eq hB.1 hB.2.1 d ht (fun z => k1 e ls H locs hl hP hS) (fun z => absurd rfl z)
  · exact fun e ls H locs hl hP hS => lv_if_eq hB.1 hB.2.1 d ht (fun z => absurd z (by decide)) (fun z => k2 e ls H locs hl hP hS)
theorem v_ifz_ne (hB : pq_B X b nL own) {r : Bool} {off : Int} {tgt : Nat} {F1 F2 : Option α} (d : decode b pc = .ok (.ifCond .ne off, 3)) (ht : (pc : Int) + off = (tgt : Int)) (k1 : V X S res nL tgt L st h F1) (k2 : V X S res nL (pc + 3) L st h F2) : V X S res nL pc L (.int (b2i r) :: st) h (if r = true then F1 else F2) := by
  cases r
  · exact fun e ls H locs hl hP hS => lv_if_ne hB.1 hB.2.1 d ht (fun z => absurd rfl z) (fun z => k2 e ls H locs hl hP hS)
  · exact fun e ls H locs hl hP hS => lv_if_ne hB.1 hB.2.1 d ht (fun z => k1 e ls H locs hl hP hS) (fun z => absurd z (by decide))
theorem v_ifz_eqT (hB : pq_B X b nL own) {r : Bool} {off : Int} {tgt : Nat} {x1 x2 : α} (d : decode b pc = .ok (.ifCond .eq off, 3)) (ht : (pc : Int) + off = (tgt : Int)) (k1 : V X S res nL tgt L st h (some x1)) (k2 : V X S res nL (pc + 3) L st h (some x2)) : V X S res nL pc L (.int (b2i r) :: st) h (some (if r = true then x2 else x1)) := V.cast (F' := if r = true then some x2 else some x1) (fun e => by rw [← e]; split <;> rfl) (v_ifz_eq hB d ht k1 k2)
theorem v_ifz_neT (hB : pq_B X b nL own) {r : Bool} {off : Int} {tgt : Nat} {x1 x2 : α} (d : decode b pc = .ok (.ifCond .ne off, 3)) (ht : (pc : Int) + off = (tgt : Int)) (k1 : V X S res nL tgt L st h (some x1)) (k2 : V X S res nL (pc + 3) L st h (some x2)) : V X S res nL pc L (.int (b2i r) :: st) h (some (if r = true then x1 else x2)) := V.cast (F' := if r = true then some x1 else some x2) (fun e => by rw [← e]; split <;> rfl) (v_ifz_ne hB d ht k1 k2)
theorem b2i_and (x y : Bool) : b2i x &&& b2i y = b2i (x && y) := by cases x <;> cases y <;> decide
theorem v_zand (hB : pq_B X b nL own) {x y : Bool} (d : decode b pc = .ok (.iand, 1)) (k : V X S res nL (pc + 1) L (.int (b2i (x && y)) :: st) h F) : V X S res nL pc L (.int (b2i y) :: .int (b2i x) :: st) h F := v_iand hB d (by rw [b2i_and]; exact k)
theorem lg_lt (x y : Int64) : lg_cmp x y < 0 ↔ x < y := by
  unfold lg_cmp
  by_cases h1 : x > y
  · rw [if_pos h1]
    exact ⟨fun q => absurd q (by decide), fun q => absurd (Int64.lt_iff_toInt_lt.mp q) (by have := Int64.lt_iff_toInt_lt.mp h1; omega)⟩
  · rw [if_neg h1]
    by_cases h2 : x = y
    · rw [if_pos h2]
      exact ⟨fun q => absurd q (by decide), fun q => absurd (Int64.lt_iff_toInt_lt.mp q) (by rw [h2]; omega)⟩
    · rw [if_neg h2]
      refine ⟨fun _ => ?_, fun _ => by decide⟩
      have a1 : ¬ y.toInt < x.toInt := fun q => h1 (Int64.lt_iff_toInt_lt.mpr q)
      have a2 : ¬ x.toInt = y.toInt := fun q => h2 (Int64.toInt_inj.mp q)
      exact Int64.lt_iff_toInt_lt.mpr (by omega)
theorem lg_gt (x y : Int64) : 0 < lg_cmp x y ↔ y < x := by
  unfold lg_cmp
  by_cases h1 : x > y
  · rw [if_pos h1]
    exact ⟨fun _ => h1, fun _ => by decide⟩
  · rw [if_neg h1]
    by_cases h2 : x = y
    · rw [if_pos h2]
      exact ⟨fun q => absurd q (by decide), fun q => absurd q h1⟩
    · rw [if_neg h2]
      exact ⟨fun q => absurd q (by decide), fun q => absurd q h1⟩
theorem lg_eq (x y : Int64) : lg_cmp x y = 0 ↔ x = y := by
  unfold lg_cmp
  by_cases h1 : x > y
  · rw [if_pos h1]
    refine ⟨fun q => absurd q (by decide), fun q => absurd (Int64.lt_iff_toInt_lt.mp h1) (by rw [q]; omega)⟩
  · rw [if_neg h1]
    by_cases h2 : x = y
    · rw [if_pos h2]
      exact ⟨fun _ => h2, fun _ => rfl⟩
    · rw [if_neg h2]
      exact ⟨fun q => absurd q (by decide), fun q => absurd q h2⟩
theorem lg_ge (x y : Int64) : 0 ≤ lg_cmp x y ↔ y ≤ x := by
  have a := lg_lt x y
  rw [Int32.lt_iff_toInt_lt, Int64.lt_iff_toInt_lt] at a
  rw [Int32.le_iff_toInt_le, Int64.le_iff_toInt_le]
  have z : (0 : Int32).toInt = 0 := by decide
  omega
theorem lg_le (x y : Int64) : lg_cmp x y ≤ 0 ↔ x ≤ y := by
  have a := lg_gt x y
  rw [Int32.lt_iff_toInt_lt, Int64.lt_iff_toInt_lt] at a
  rw [Int32.le_iff_toInt_le, Int64.le_iff_toInt_le]
  have z : (0 : Int32).toInt = 0 := by decide
  omega
theorem v_lcmp_eq (hB : pq_B X b nL own) {a c : Int64} {off : Int} {tgt : Nat} {F1 F2 : Option α} (d : decode b pc = .ok (.lcmp, 1)) (d2 : decode b (pc + 1) = .ok (.ifCond .eq off, 3)) (ht : ((pc + 1 : Nat) : Int) + off = (tgt : Int)) (k1 : V X S res nL tgt L st h F1) (k2 : V X S res nL (pc + 4) L st h F2) : V X S res nL pc L (.long c :: .long a :: st) h (if a = c then F1 else F2) := by
  have k := v_if_eq (a := lg_cmp a c) hB d2 ht k1 k2
  refine V.cast (F' := if lg_cmp a c = 0 then F1 else F2) (fun e => ?_) (fun e ls H locs hl hP hS => W.lcmp hB.1 hB.2.1 d (k e ls H locs hl hP hS))
  rw [← e]
  simp only [lg_eq]
theorem v_lcmp_eqT (hB : pq_B X b nL own) {a c : Int64} {off : Int} {tgt : Nat} {x1 x2 : α} (d : decode b pc = .ok (.lcmp, 1)) (d2 : decode b (pc + 1) = .ok (.ifCond .eq off, 3)) (ht : ((pc + 1 : Nat) : Int) + off = (tgt : Int)) (k1 : V X S res nL tgt L st h (some x1)) (k2 : V X S res nL (pc + 4) L st h (some x2)) : V X S res nL pc L (.long c :: .long a :: st) h (some (if a = c then x1 else x2)) := V.cast (F' := if a = c then some x1 else some x2) (fun e => by rw [← e]; split <;> rfl) (v_lcmp_eq hB d d2 ht k1 k2)
theorem v_lcmp_ne (hB : pq_B X b nL own) {a c : Int64} {off : Int} {tgt : Nat} {F1 F2 : Option α} (d : decode b pc = .ok (.lcmp, 1)) (d2 : decode b (pc + 1) = .ok (.ifCond .ne off, 3)) (ht : ((pc + 1 : Nat) : Int) + off = (tgt : Int)) (k1 : V X S res nL tgt L st h F1) (k2 : V X S res nL (pc + 4) L st h F2) : V X S res nL pc L (.long c :: .long a :: st) h (if a = c then F2 else F1) := by
  have k := v_if_ne (a := lg_cmp a c) hB d2 ht k1 k2
  refine V.cast (F' := if lg_cmp a c = 0 then F2 else F1) (fun e => ?_) (fun e ls H locs hl hP hS => W.lcmp hB.1 hB.2.1 d (k e ls H locs hl hP hS))
  rw [← e]
  simp only [lg_eq]
theorem v_lcmp_neT (hB : pq_B X b nL own) {a c : Int64} {off : Int} {tgt : Nat} {x1 x2 : α} (d : decode b pc = .ok (.lcmp, 1)) (d2 : decode b (pc + 1) = .ok (.ifCond .ne off, 3)) (ht : ((pc + 1 : Nat) : Int) + off = (tgt : Int)) (k1 : V X S res nL tgt L st h (some x1)) (k2 : V X S res nL (pc + 4) L st h (some x2)) : V X S res nL pc L (.long c :: .long a :: st) h (some (if a = c then x2 else x1)) := V.cast (F' := if a = c then some x2 else some x1) (fun e => by rw [← e]; split <;> rfl) (v_lcmp_ne hB d d2 ht k1 k2)
theorem v_lcmp_lt (hB : pq_B X b nL own) {a c : Int64} {off : Int} {tgt : Nat} {F1 F2 : Option α} (d : decode b pc = .ok (.lcmp, 1)) (d2 : decode b (pc + 1) = .ok (.ifCond .lt off, 3)) (ht : ((pc + 1 : Nat) : Int) + off = (tgt : Int)) (k1 : V X S res nL tgt L st h F1) (k2 : V X S res nL (pc + 4) L st h F2) : V X S res nL pc L (.long c :: .long a :: st) h (if a < c then F1 else F2) := by
  have k := v_if_lt (a := lg_cmp a c) hB d2 ht k1 k2
  refine V.cast (F' := if lg_cmp a c < 0 then F1 else F2) (fun e => ?_) (fun e ls H locs hl hP hS => W.lcmp hB.1 hB.2.1 d (k e ls H locs hl hP hS))
  rw [← e]
  simp only [lg_lt]
theorem v_lcmp_ltT (hB : pq_B X b nL own) {a c : Int64} {off : Int} {tgt : Nat} {x1 x2 : α} (d : decode b pc = .ok (.lcmp, 1)) (d2 : decode b (pc + 1) = .ok (.ifCond .lt off, 3)) (ht : ((pc + 1 : Nat) : Int) + off = (tgt : Int)) (k1 : V X S res nL tgt L st h (some x1)) (k2 : V X S res nL (pc + 4) L st h (some x2)) : V X S res nL pc L (.long c :: .long a :: st) h (some (if a < c then x1 else x2)) := V.cast (F' := if a < c then some x1 else some x2) (fun e => by rw [← e]; split <;> rfl) (v_lcmp_lt hB d d2 ht k1 k2)
theorem v_lcmp_ge (hB : pq_B X b nL own) {a c : Int64} {off : Int} {tgt : Nat} {F1 F2 : Option α} (d : decode b pc = .ok (.lcmp, 1)) (d2 : decode b (pc + 1) = .ok (.ifCond .ge off, 3)) (ht : ((pc + 1 : Nat) : Int) + off = (tgt : Int)) (k1 : V X S res nL tgt L st h F1) (k2 : V X S res nL (pc + 4) L st h F2) : V X S res nL pc L (.long c :: .long a :: st) h (if c ≤ a then F1 else F2) := by
  have k := v_if_ge (a := lg_cmp a c) hB d2 ht k1 k2
  refine V.cast (F' := if 0 ≤ lg_cmp a c then F1 else F2) (fun e => ?_) (fun e ls H locs hl hP hS => W.lcmp hB.1 hB.2.1 d (k e ls H locs hl hP hS))
  rw [← e]
  simp only [lg_ge]
theorem v_lcmp_geT (hB : pq_B X b nL own) {a c : Int64} {off : Int} {tgt : Nat} {x1 x2 : α} (d : decode b pc = .ok (.lcmp, 1)) (d2 : decode b (pc + 1) = .ok (.ifCond .ge off, 3)) (ht : ((pc + 1 : Nat) : Int) + off = (tgt : Int)) (k1 : V X S res nL tgt L st h (some x1)) (k2 : V X S res nL (pc + 4) L st h (some x2)) : V X S res nL pc L (.long c :: .long a :: st) h (some (if c ≤ a then x1 else x2)) := V.cast (F' := if c ≤ a then some x1 else some x2) (fun e => by rw [← e]; split <;> rfl) (v_lcmp_ge hB d d2 ht k1 k2)
theorem v_lcmp_gt (hB : pq_B X b nL own) {a c : Int64} {off : Int} {tgt : Nat} {F1 F2 : Option α} (d : decode b pc = .ok (.lcmp, 1)) (d2 : decode b (pc + 1) = .ok (.ifCond .gt off, 3)) (ht : ((pc + 1 : Nat) : Int) + off = (tgt : Int)) (k1 : V X S res nL tgt L st h F1) (k2 : V X S res nL (pc + 4) L st h F2) : V X S res nL pc L (.long c :: .long a :: st) h (if c < a then F1 else F2) := by
  have k := v_if_gt (a := lg_cmp a c) hB d2 ht k1 k2
  refine V.cast (F' := if 0 < lg_cmp a c then F1 else F2) (fun e => ?_) (fun e ls H locs hl hP hS => W.lcmp hB.1 hB.2.1 d (k e ls H locs hl hP hS))
  rw [← e]
  simp only [lg_gt]
theorem v_lcmp_gtT (hB : pq_B X b nL own) {a c : Int64} {off : Int} {tgt : Nat} {x1 x2 : α} (d : decode b pc = .ok (.lcmp, 1)) (d2 : decode b (pc + 1) = .ok (.ifCond .gt off, 3)) (ht : ((pc + 1 : Nat) : Int) + off = (tgt : Int)) (k1 : V X S res nL tgt L st h (some x1)) (k2 : V X S res nL (pc + 4) L st h (some x2)) : V X S res nL pc L (.long c :: .long a :: st) h (some (if c < a then x1 else x2)) := V.cast (F' := if c < a then some x1 else some x2) (fun e => by rw [← e]; split <;> rfl) (v_lcmp_gt hB d d2 ht k1 k2)
theorem v_lcmp_le (hB : pq_B X b nL own) {a c : Int64} {off : Int} {tgt : Nat} {F1 F2 : Option α} (d : decode b pc = .ok (.lcmp, 1)) (d2 : decode b (pc + 1) = .ok (.ifCond .le off, 3)) (ht : ((pc + 1 : Nat) : Int) + off = (tgt : Int)) (k1 : V X S res nL tgt L st h F1) (k2 : V X S res nL (pc + 4) L st h F2) : V X S res nL pc L (.long c :: .long a :: st) h (if a ≤ c then F1 else F2) := by
  have k := v_if_le (a := lg_cmp a c) hB d2 ht k1 k2
  refine V.cast (F' := if lg_cmp a c ≤ 0 then F1 else F2) (fun e => ?_) (fun e ls H locs hl hP hS => W.lcmp hB.1 hB.2.1 d (k e ls H locs hl hP hS))
  rw [← e]
  simp only [lg_le]
theorem v_lcmp_leT (hB : pq_B X b nL own) {a c : Int64} {off : Int} {tgt : Nat} {x1 x2 : α} (d : decode b pc = .ok (.lcmp, 1)) (d2 : decode b (pc + 1) = .ok (.ifCond .le off, 3)) (ht : ((pc + 1 : Nat) : Int) + off = (tgt : Int)) (k1 : V X S res nL tgt L st h (some x1)) (k2 : V X S res nL (pc + 4) L st h (some x2)) : V X S res nL pc L (.long c :: .long a :: st) h (some (if a ≤ c then x1 else x2)) := V.cast (F' := if a ≤ c then some x1 else some x2) (fun e => by rw [← e]; split <;> rfl) (v_lcmp_le hB d d2 ht k1 k2)
/-- a field's link, and where it lies -/
def pq_F (S : pq_S) (own : String) (idx ci k : Nat) (ty : FieldType) : Prop := ∃ (C : String) (T : u_T) (N : Nat) (ty0 : Nat → FieldType), S.2.1.2.1[ci]? = some (C, T, N) ∧ k < N ∧ Cond.fieldLink own idx (T k).1 (T k).2.1 (T k).2.2.1 ∈ pq_G ∧ (∀ w ∈ u_ws C T N, w ∈ pq_G) ∧ (∀ k, k < N → parseFieldDescriptor (T k).2.2.1 = some (ty0 k)) ∧ (∀ a, a < N → ∀ b, b < N → a ≠ b → (T a).2.1 ≠ (T b).2.1) ∧ ty0 k = ty
def pq_fin (S : pq_S) (ci k : Nat) : Prop := ∃ (C : String) (T : u_T) (N : Nat), S.2.1.2.1[ci]? = some (C, T, N) ∧ (T k).2.2.2 = false
/-- a cell is an object, its k-th field an int, a long, a fixed cell, a cell that changes -/
def pq_o (S : pq_S) (p ci : Nat) (C : String) : Prop := p < S.1.1 ∧ (∃ fs : (Nat → Int32) → (Nat → Int64) → (Nat → Option Nat) → List Value, ∀ i j r, S.1.2.2 p i j r = .inr (ci, fs i j r)) ∧ ∃ (T : u_T) (N : Nat), S.2.1.2.1[ci]? = some (C, T, N)
def pq_cI (S : pq_S) (p ci k : Nat) : Prop := p < S.1.1 ∧ ∃ fs : (Nat → Int32) → (Nat → Int64) → (Nat → Option Nat) → List Value, (∀ i j r, S.1.2.2 p i j r = .inr (ci, fs i j r)) ∧ (∀ i j r, (fs i j r)[k]? = some (.int (i k))) ∧ ∀ i j r v, (fs i j r).set k (.int v) = fs (upd i k v) j r
def pq_cJ (S : pq_S) (p ci k : Nat) : Prop := p < S.1.1 ∧ ∃ fs : (Nat → Int32) → (Nat → Int64) → (Nat → Option Nat) → List Value, (∀ i j r, S.1.2.2 p i j r = .inr (ci, fs i j r)) ∧ (∀ i j r, (fs i j r)[k]? = some (.long (j k))) ∧ ∀ i j r v, (fs i j r).set k (.long v) = fs i (vp_updL j k v) r
def pq_cA (S : pq_S) (p ci k q : Nat) : Prop := p < S.1.1 ∧ ∃ fs : (Nat → Int32) → (Nat → Int64) → (Nat → Option Nat) → List Value, (∀ i j r, S.1.2.2 p i j r = .inr (ci, fs i j r)) ∧ ∀ i j r, (fs i j r)[k]? = some (.ref (S.1.2.1 q))
def pq_cR (S : pq_S) (p ci k : Nat) : Prop := p < S.1.1 ∧ ∃ fs : (Nat → Int32) → (Nat → Int64) → (Nat → Option Nat) → List Value, (∀ i j r, S.1.2.2 p i j r = .inr (ci, fs i j r)) ∧ (∀ i j r, (fs i j r)[k]? = some (va_rf ((r k).map S.1.2.1))) ∧ ∀ i j r v, (fs i j r).set k (va_rf (v.map S.1.2.1)) = fs i j (va_up r k v)
/-- arrays: of ints, of longs, of fixed cells, of cells that change -/
def pq_aI (S : pq_S) (p n : Nat) : Prop := p < S.1.1 ∧ ∃ (cA : ClassId) (t0 : Nat), (∀ i j r, S.1.2.2 p i j r = .inl (cA, n, .inl i)) ∧ S.2.1.2.2[t0]? = some (cA, .int)
def pq_aJ (S : pq_S) (p n : Nat) : Prop := p < S.1.1 ∧ ∃ (cA : ClassId) (t0 : Nat), (∀ i j r, S.1.2.2 p i j r = .inl (cA, n, .inr (.inl j))) ∧ S.2.1.2.2[t0]? = some (cA, .long)
def pq_aA (S : pq_S) (p n : Nat) (f : Nat → Nat) : Prop := p < S.1.1 ∧ ∃ (cA : ClassId) (t0 : Nat) (ty : FieldType), (∀ i j r, S.1.2.2 p i j r = .inl (cA, n, .inr (.inr (.inr (.inr (fun t => if t < n then some (S.1.2.1 (f t)) else none)))))) ∧ S.2.1.2.2[t0]? = some (cA, ty) ∧ ty.isReference = true
def pq_aR (S : pq_S) (p n : Nat) : Prop := p < S.1.1 ∧ ∃ (cA : ClassId) (t0 : Nat) (ty : FieldType), (∀ i j r, S.1.2.2 p i j r = .inl (cA, n, .inr (.inr (.inr (.inr (fun t => (r t).map S.1.2.1)))))) ∧ S.2.1.2.2[t0]? = some (cA, ty) ∧ ty.isReference = true
/-- the room of the method in hand -/
def pq_Rm0 (X : pq_X) (RF RL : Nat) : Prop := RF ≤ X.1.2.2.2.1.frames ∧ RL ≤ X.1.2.2.2.1.locals
def pq_Rm (X : pq_X) (RF RL : Nat) : Prop := RF ≤ X.1.2.2.2.1.frames ∧ RL ≤ X.1.2.2.2.1.locals ∧ X.2.1.2.2.2.2.2.1 ≤ X.1.2.2.2.1.cells ∧ X.2.1.2.2.2.2.2.2 ≤ X.1.2.2.2.1.slots
theorem pq_Rm.z {X : pq_X} {RF RL : Nat} (h : pq_Rm X RF RL) : pq_Rm0 X RF RL := ⟨h.1, h.2.1⟩
theorem pq_R.rm {X : pq_X} {S : pq_S} {ret : Option FieldType} {rf rl : Nat} {o : Option Value} {h' : pq_H} (hR : pq_R X S ret rf rl o h') : pq_Rm X rf rl := ⟨by rw [hR.1]; exact Nat.le_refl _, by rw [hR.1]; exact Nat.le_refl _, by rw [hR.2.2.2.2]; exact Nat.zero_le _, by rw [hR.2.2.2.2]; exact Nat.zero_le _⟩
theorem pq_K.A {X : pq_X} {S : pq_S} (hK : pq_K X S) : pq_A S X.2.2.2.1 := ⟨hK.2.1, hK.2.2.2.2⟩
theorem pq_setI {p k : Nat} {v : Int32} {E : (Nat → Int32) → (Nat → Int64) → (Nat → Option Nat) → va_E} (hp : p < S.1.1) (he : ∀ i j r, S.1.2.2 p i j r = E i j r) : (pq_W S h).set p (S.1.2.1 p, E (upd (h.1 p) k v) (h.2.1 p) (h.2.2 p)) = pq_W S (wI h p k v) := pq_set hp (by rw [he, wI_self]; rfl) (fun q hq => wI_ne q hq)
theorem pq_setJ {p k : Nat} {v : Int64} {E : (Nat → Int32) → (Nat → Int64) → (Nat → Option Nat) → va_E} (hp : p < S.1.1) (he : ∀ i j r, S.1.2.2 p i j r = E i j r) : (pq_W S h).set p (S.1.2.1 p, E (h.1 p) (vp_updL (h.2.1 p) k v) (h.2.2 p)) = pq_W S (wJ h p k v) := pq_set hp (by rw [he, wJ_self]; rfl) (fun q hq => wJ_ne q hq)
theorem pq_setR {p k : Nat} {v : Option Nat} {E : (Nat → Int32) → (Nat → Int64) → (Nat → Option Nat) → va_E} (hp : p < S.1.1) (he : ∀ i j r, S.1.2.2 p i j r = E i j r) : (pq_W S h).set p (S.1.2.1 p, E (h.1 p) (h.2.1 p) (va_up (h.2.2 p) k v)) = pq_W S (wR h p k v) := pq_set hp (by rw [he, wR_self]; rfl) (fun q hq => wR_ne q hq)
theorem v_getI (hB : pq_B X b nL own) (hK : pq_K X S) {idx ci k p : Nat} {ty : FieldType} (fl : pq_F S own idx ci k ty) (hc : pq_cI S p ci k) (d : decode b pc = .ok (.getfield idx, 3)) (kk : V X S res nL (pc + 3) L (.int (rI h p k) :: st) h F) : V X S res nL pc L (.ref (S.1.2.1 p) :: st) h F := by
  obtain ⟨C, T, N, ty0, h1, h2, h3, h4, h5, h6, h7⟩ := fl
  obtain ⟨hp, fs, e1, e2, e3⟩ := hc
  exact fun e ls H locs hl hP hS => va_get hB.1 hB.2.1 hB.2.2.2.2 h4 hB.2.2.2.1 hK.1 hP p (pq_get hp (e1 _ _ _)) h1 k h2 (hB.2.2.2.2 _ h3) (fun _ z => z) (e2 _ _ _) d (kk e ls H locs hl hP hS)
theorem v_getJ (hB : pq_B X b nL own) (hK : pq_K X S) {idx ci k p : Nat} {ty : FieldType} (fl : pq_F S own idx ci k ty) (hc : pq_cJ S p ci k) (d : decode b pc = .ok (.getfield idx, 3)) (kk : V X S res nL (pc + 3) L (.long (rJ h p k) :: st) h F) : V X S res nL pc L (.ref (S.1.2.1 p) :: st) h F := by
  obtain ⟨C, T, N, ty0, h1, h2, h3, h4, h5, h6, h7⟩ := fl
  obtain ⟨hp, fs, e1, e2, e3⟩ := hc
  exact fun e ls H locs hl hP hS => va_get hB.1 hB.2.1 hB.2.2.2.2 h4 hB.2.2.2.1 hK.1 hP p (pq_get hp (e1 _ _ _)) h1 k h2 (hB.2.2.2.2 _ h3) (fun _ z => z) (e2 _ _ _) d (kk e ls H locs hl hP hS)
theorem v_getA (hB : pq_B X b nL own) (hK : pq_K X S) {idx ci k p q : Nat} {ty : FieldType} (fl : pq_F S own idx ci k ty) (hc : pq_cA S p ci k q) (d : decode b pc = .ok (.getfield idx, 3)) (kk : V X S res nL (pc + 3) L (.ref (S.1.2.1 q) :: st) h F) : V X S res nL pc L (.ref (S.1.2.1 p) :: st) h F := by
  obtain ⟨C, T, N, ty0, h1, h2, h3, h4, h5, h6, h7⟩ := fl
  obtain ⟨hp, fs, e1, e2⟩ := hc
  exact fun e ls H locs hl hP hS => va_get hB.1 hB.2.1 hB.2.2.2.2 h4 hB.2.2.2.1 hK.1 hP p (pq_get hp (e1 _ _ _)) h1 k h2 (hB.2.2.2.2 _ h3) (fun _ z => z) (e2 _ _ _) d (kk e ls H locs hl hP hS)
theorem v_getR (hB : pq_B X b nL own) (hK : pq_K X S) {idx ci k p : Nat} (q : Nat) {ty : FieldType} (fl : pq_F S own idx ci k ty) (hc : pq_cR S p ci k) (d : decode b pc = .ok (.getfield idx, 3)) (kk : V X S res nL (pc + 3) L (.ref (S.1.2.1 q) :: st) h F) : V X S res nL pc L (.ref (S.1.2.1 p) :: st) h (gd (rR h p k == some q) F) := by
  obtain ⟨C, T, N, ty0, h1, h2, h3, h4, h5, h6, h7⟩ := fl
  obtain ⟨hp, fs, e1, e2, e3⟩ := hc
  intro e ls H locs hl hP hS
  obtain ⟨c1, c2⟩ := gd_some e
  have c3 : h.2.2 p k = some q := by simpa [rR] using c1
  exact va_get hB.1 hB.2.1 hB.2.2.2.2 h4 hB.2.2.2.1 hK.1 hP p (pq_get hp (e1 _ _ _)) h1 k h2 (hB.2.2.2.2 _ h3) (fun _ z => z) ((e2 _ _ _).trans (by rw [c3]; rfl)) d (kk c2 ls H locs hl hP hS)
theorem v_putI (hB : pq_B X b nL own) (hK : pq_K X S) {idx ci k p : Nat} {v : Int32} (fl : pq_F S own idx ci k .int) (hf : pq_fin S ci k) (hc : pq_cI S p ci k) (d : decode b pc = .ok (.putfield idx, 3)) (kk : V X S res nL (pc + 3) L st (wI h p k v) F) : V X S res nL pc L (.int v :: .ref (S.1.2.1 p) :: st) h F := by
  obtain ⟨C, T, N, ty0, h1, h2, h3, h4, h5, h6, h7⟩ := fl
  obtain ⟨C', T', N', g1, g2⟩ := hf
  cases g1.symm.trans h1
  obtain ⟨hp, fs, e1, e2, e3⟩ := hc
  intro e ls H locs hl hP hS
  refine va_put hB.1 hB.2.1 hB.2.2.2.2 h4 ty0 h5 h6 hB.2.2.2.1 hK.1 hP (hK.2.1 h) hS p (pq_get hp (e1 _ _ _)) h1 k h2 (hB.2.2.2.2 _ h3) (fun _ z => z) g2 (ty := .int) (v := .int v) (by rw [h5 k h2, h7]) rfl rfl (List.getElem?_eq_some_iff.mp (e2 _ _ _)).1 d (fun H1 locs1 hP1 hD1 hS1 => kk e ls H1 locs1 hl ?_ hS1)
  rw [e3] at hP1
  rw [pq_setI hp e1] at hP1
  exact hP1
theorem v_putZ (hB : pq_B X b nL own) (hK : pq_K X S) {idx ci k p : Nat} {v : Bool} (fl : pq_F S own idx ci k .boolean) (hf : pq_fin S ci k) (hc : pq_cI S p ci k) (d : decode b pc = .ok (.putfield idx, 3)) (kk : V X S res nL (pc + 3) L st (wI h p k (b2i v)) F) : V X S res nL pc L (.int (b2i v) :: .ref (S.1.2.1 p) :: st) h F := by
  obtain ⟨C, T, N, ty0, h1, h2, h3, h4, h5, h6, h7⟩ := fl
  obtain ⟨C', T', N', g1, g2⟩ := hf
  cases g1.symm.trans h1
  obtain ⟨hp, fs, e1, e2, e3⟩ := hc
  intro e ls H locs hl hP hS
  refine va_put hB.1 hB.2.1 hB.2.2.2.2 h4 ty0 h5 h6 hB.2.2.2.1 hK.1 hP (hK.2.1 h) hS p (pq_get hp (e1 _ _ _)) h1 k h2 (hB.2.2.2.2 _ h3) (fun _ z => z) g2 (ty := .boolean) (v := .int (b2i v)) (by rw [h5 k h2, h7]) (by cases v <;> rfl) (by cases v <;> rfl) (List.getElem?_eq_some_iff.mp (e2 _ _ _)).1 d (fun H1 locs1 hP1 hD1 hS1 => kk e ls H1 locs1 hl ?_ hS1)
  rw [e3] at hP1
  rw [pq_setI hp e1] at hP1
  exact hP1
theorem v_putJ (hB : pq_B X b nL own) (hK : pq_K X S) {idx ci k p : Nat} {v : Int64} (fl : pq_F S own idx ci k .long) (hf : pq_fin S ci k) (hc : pq_cJ S p ci k) (d : decode b pc = .ok (.putfield idx, 3)) (kk : V X S res nL (pc + 3) L st (wJ h p k v) F) : V X S res nL pc L (.long v :: .ref (S.1.2.1 p) :: st) h F := by
  obtain ⟨C, T, N, ty0, h1, h2, h3, h4, h5, h6, h7⟩ := fl
  obtain ⟨C', T', N', g1, g2⟩ := hf
  cases g1.symm.trans h1
  obtain ⟨hp, fs, e1, e2, e3⟩ := hc
  intro e ls H locs hl hP hS
  refine va_put hB.1 hB.2.1 hB.2.2.2.2 h4 ty0 h5 h6 hB.2.2.2.1 hK.1 hP (hK.2.1 h) hS p (pq_get hp (e1 _ _ _)) h1 k h2 (hB.2.2.2.2 _ h3) (fun _ z => z) g2 (ty := .long) (v := .long v) (by rw [h5 k h2, h7]) rfl rfl (List.getElem?_eq_some_iff.mp (e2 _ _ _)).1 d (fun H1 locs1 hP1 hD1 hS1 => kk e ls H1 locs1 hl ?_ hS1)
  rw [e3] at hP1
  rw [pq_setJ hp e1] at hP1
  exact hP1
theorem v_putR (hB : pq_B X b nL own) (hK : pq_K X S) {idx ci k p q : Nat} {C0 : String} (fl : pq_F S own idx ci k (.object C0)) (hf : pq_fin S ci k) (hc : pq_cR S p ci k) (d : decode b pc = .ok (.putfield idx, 3)) (kk : V X S res nL (pc + 3) L st (wR h p k (some q)) F) : V X S res nL pc L (.ref (S.1.2.1 q) :: .ref (S.1.2.1 p) :: st) h F := by
  obtain ⟨C, T, N, ty0, h1, h2, h3, h4, h5, h6, h7⟩ := fl
  obtain ⟨C', T', N', g1, g2⟩ := hf
  cases g1.symm.trans h1
  obtain ⟨hp, fs, e1, e2, e3⟩ := hc
  intro e ls H locs hl hP hS
  refine va_put hB.1 hB.2.1 hB.2.2.2.2 h4 ty0 h5 h6 hB.2.2.2.1 hK.1 hP (hK.2.1 h) hS p (pq_get hp (e1 _ _ _)) h1 k h2 (hB.2.2.2.2 _ h3) (fun _ z => z) g2 (ty := .object C0) (v := .ref (S.1.2.1 q)) (by rw [h5 k h2, h7]) rfl rfl (List.getElem?_eq_some_iff.mp (e2 _ _ _)).1 d (fun H1 locs1 hP1 hD1 hS1 => kk e ls H1 locs1 hl ?_ hS1)
  have e4 := e3 (h.1 p) (h.2.1 p) (h.2.2 p) (some q)
  rw [show va_rf ((some q).map S.1.2.1) = .ref (S.1.2.1 q) from rfl] at e4
  rw [e4] at hP1
  rw [pq_setR hp e1] at hP1
  exact hP1
theorem v_iald (hB : pq_B X b nL own) (hK : pq_K X S) {p n : Nat} {i : Int32} (ha : pq_aI S p n) (d : decode b pc = .ok (.iaload, 1)) (kk : V X S res nL (pc + 1) L (.int (rI h p i.toNatClampNeg) :: st) h F) : V X S res nL pc L (.int i :: .ref (S.1.2.1 p) :: st) h (gd (inb i n) F) := by
  obtain ⟨hp, cA, t0, e1, e2⟩ := ha
  intro e ls H locs hl hP hS
  obtain ⟨c1, c2⟩ := gd_some e
  exact va_iald hB.1 hB.2.1 hK.1 hP p t0 (pq_get hp (e1 _ _ _)) e2 (inb_in c1) d (kk c2 ls H locs hl hP hS)
theorem v_lald (hB : pq_B X b nL own) (hK : pq_K X S) {p n : Nat} {i : Int32} (ha : pq_aJ S p n) (d : decode b pc = .ok (.laload, 1)) (kk : V X S res nL (pc + 1) L (.long (rJ h p i.toNatClampNeg) :: st) h F) : V X S res nL pc L (.int i :: .ref (S.1.2.1 p) :: st) h (gd (inb i n) F) := by
  obtain ⟨hp, cA, t0, e1, e2⟩ := ha
  intro e ls H locs hl hP hS
  obtain ⟨c1, c2⟩ := gd_some e
  exact va_lald hB.1 hB.2.1 hK.1 hP p t0 (pq_get hp (e1 _ _ _)) e2 (inb_in c1) d (kk c2 ls H locs hl hP hS)
theorem v_iast (hB : pq_B X b nL own) (hK : pq_K X S) {p n : Nat} {i v : Int32} (ha : pq_aI S p n) (d : decode b pc = .ok (.iastore, 1)) (kk : V X S res nL (pc + 1) L st (wI h p i.toNatClampNeg v) F) : V X S res nL pc L (.int v :: .int i :: .ref (S.1.2.1 p) :: st) h (gd (inb i n) F) := by
  obtain ⟨hp, cA, t0, e1, e2⟩ := ha
  intro e ls H locs hl hP hS
  obtain ⟨c1, c2⟩ := gd_some e
  refine va_iast hB.1 hB.2.1 hK.1 hP (hK.2.1 h) hS p t0 (pq_get hp (e1 _ _ _)) e2 (inb_in c1) d (fun H1 locs1 hP1 hD1 hS1 => kk c2 ls H1 locs1 hl ?_ hS1)
  rw [pq_setI hp e1] at hP1
  exact hP1
theorem v_last (hB : pq_B X b nL own) (hK : pq_K X S) {p n : Nat} {i : Int32} {v : Int64} (ha : pq_aJ S p n) (d : decode b pc = .ok (.lastore, 1)) (kk : V X S res nL (pc + 1) L st (wJ h p i.toNatClampNeg v) F) : V X S res nL pc L (.long v :: .int i :: .ref (S.1.2.1 p) :: st) h (gd (inb i n) F) := by
  obtain ⟨hp, cA, t0, e1, e2⟩ := ha
  intro e ls H locs hl hP hS
  obtain ⟨c1, c2⟩ := gd_some e
  refine va_last hB.1 hB.2.1 hK.1 hP (hK.2.1 h) hS p t0 (pq_get hp (e1 _ _ _)) e2 (inb_in c1) d (fun H1 locs1 hP1 hD1 hS1 => kk c2 ls H1 locs1 hl ?_ hS1)
  rw [pq_setJ hp e1] at hP1
  exact hP1
theorem pq_aald {D : va_G} {cl : List vw_C} {ws : va_W} {tys : List (ClassId × FieldType)} {p : Program} {l : Launch} {e : Env} {R : Room} {s : State} {m : MethodId} {args : Array Value} {below : List Frame} {meth : Method} {c : Code} {H : Heap} {locs : List Loc} {cells slots : Nat} {Q : State → Prop} {cc : ByteArray} {pc a : Nat} {ls : Array Slot} {rest : List Value} (hexec : p.tables.exec = Jvm.exec) (hb : c.code = cc) (hK : va_K D cl tys s) (hP : va_P D cl ws H) (q0 t0 : Nat) {cA : ClassId} {ty : FieldType} {n : Nat} {f : Nat → Option Nat} (ha : ws[q0]? = some (a, .inl (cA, n, .inr (.inr (.inr (.inr f)))))) (ht : tys[t0]? = some (cA, ty)) (hr : ty.isReference = true) {i : Int32} (hin : vp_in i n) (hdg : decode cc pc = .ok (.aaload, 1))
    (kk : W p l e R s m args below meth c H locs cells slots Q (F0 m (pc + 1) ls (va_rf (f i.toNatClampNeg) :: rest))) : W p l e R s m args below meth c H locs cells slots Q (F0 m pc ls (.int i :: .ref a :: rest)) := by
  have hlt : i.toNatClampNeg < n := Nat.not_le.mp fun q => hin (Or.inr q)
  exact W.aald (v := va_rf (f i.toNatClampNeg)) (ty := ty) hexec hb (hP q0 _ ha) ((hK.2 t0 _ ht).1 n (fun j => va_rf (f j))) hr (fun q => by cases q) (by show ¬ (i < 0 ∨ (arrV _ _ _).slots.size ≤ _); rw [arrV_size]; exact hin) (by show (arrV _ _ _).slots[_]? = _; rw [arrV_read _ _ hlt]) rfl rfl hdg kk
theorem v_aald (hB : pq_B X b nL own) (hK : pq_K X S) {p n : Nat} {f : Nat → Nat} {i : Int32} (ha : pq_aA S p n f) (d : decode b pc = .ok (.aaload, 1)) (kk : i.toNatClampNeg < n → V X S res nL (pc + 1) L (.ref (S.1.2.1 (f i.toNatClampNeg)) :: st) h F) : V X S res nL pc L (.int i :: .ref (S.1.2.1 p) :: st) h (gd (inb i n) F) := by
  obtain ⟨hp, cA, t0, ty, e1, e2, e3⟩ := ha
  intro e ls H locs hl hP hS
  obtain ⟨c1, c2⟩ := gd_some e
  have hlt := inb_lt c1
  refine pq_aald hB.1 hB.2.1 hK.1 hP p t0 (pq_get hp (e1 _ _ _)) e2 e3 (inb_in c1) d ?_
  rw [if_pos hlt]
  exact kk hlt c2 ls H locs hl hP hS
def bd2 {β γ : Type} (f : Option (β × pq_H)) (G : β → pq_H → Option γ) : Option γ := f.bind fun x => G x.1 x.2
def hl {β : Type} (h : pq_H) (F : pq_H → β) : β := F h
theorem v_hl {G : pq_H → Option α} (kk : ∀ h1, V X S res nL pc L st h1 (G h1)) : V X S res nL pc L st h (hl h G) := kk h
def rowG {β : Type} (lo hi : Nat) (o : Option Nat) (k : Nat → Option β) : Option β := match o with | some q => (if lo ≤ q ∧ q < hi then k q else none) | none => none
theorem v_aaldR (hB : pq_B X b nL own) (hK : pq_K X S) {p n : Nat} (lo hi : Nat) {i : Int32} {G : Nat → Option α} (ha : pq_aR S p n) (d : decode b pc = .ok (.aaload, 1)) (kk : ∀ q, lo ≤ q → q < hi → V X S res nL (pc + 1) L (.ref (S.1.2.1 q) :: st) h (G q)) : V X S res nL pc L (.int i :: .ref (S.1.2.1 p) :: st) h (gd (inb i n) (rowG lo hi (rR h p i.toNatClampNeg) G)) := by
  obtain ⟨hp, cA, t0, ty, e1, e2, e3⟩ := ha
  intro e ls H locs hl hP hS
  obtain ⟨c1, c2⟩ := gd_some e
  refine pq_aald hB.1 hB.2.1 hK.1 hP p t0 (pq_get hp (e1 _ _ _)) e2 e3 (inb_in c1) d ?_
  unfold rR rowG at c2
  cases hq : h.2.2 p i.toNatClampNeg with
  | none => rw [hq] at c2; cases c2
  | some q =>
    rw [hq] at c2
    dsimp only at c2
    by_cases hc : lo ≤ q ∧ q < hi
    · rw [if_pos hc] at c2
      exact kk q hc.1 hc.2 c2 ls H locs hl hP hS
    · rw [if_neg hc] at c2
      cases c2
/-- links of calls -/
def pq_LB (y : MethodName) (b : ByteArray) (n : Nat) (ret : Option FieldType) (k : Nat) : Prop := Cond.initialized y.cls ∈ pq_G ∧ Cond.code y b n ret ∈ pq_G ∧ y.cls ≠ "java/lang/invoke/MethodHandle" ∧ y.cls ≠ "java/lang/invoke/VarHandle" ∧ (parseMethodDescriptor y.desc).map (fun d => d.parameters.length) = some k
/-- a step over a call: it answers o and leaves h' -/
def pq_St (X : pq_X) (S : pq_S) (nL pc : Nat) (L : List (Nat × Value)) (st0 : List Value) (h : pq_H) (o : List Value) (h' : pq_H) (st : List Value) : Prop := ∀ {α : Type} {res : α} {F : Option α}, V X S res nL (pc + 3) L (o ++ st) h' F → V X S res nL pc L st0 h F
theorem pq_call {l0 kc kn : Nat} {p : Program} {l : Launch} {e : Env} {R : Room} {s : State} {m : MethodId} {args : Array Value} {below : List Frame} {meth : Method} {c : Code} {H : Heap} {locs : List Loc} {Q : State → Prop} {st0 rest : List Value} {ls : Array Slot} {o : Option Value} {h' : pq_H} {A : Nat → Prop} {a : Array Value} {H0 : Heap} (hr : va_Run p l e R s m args below meth c H locs kc kn 0 0 (F0 m l0 ls st0) rest (pq_Q o h' S A a) A) (hS : va_S A H0 H locs)
    (kk : ∀ (H1 : Heap) (locs1 : List Loc), va_P S.2.1.1 S.2.1.2.1 (pq_W S h') H1 → va_S A H0 H1 locs1 → W p l e R s m args below meth c H1 locs1 kc kn Q (F0 m (l0 + 3) ls (o.toList ++ rest))) : W p l e R s m args below meth c H locs kc kn Q (F0 m l0 ls st0) := by
  intro T hT X
  obtain ⟨v, st₀, t, T', L, h0, X', hL, e1, e2, ⟨⟨hv, hw⟩, hz, hk⟩, st⟩ := hr T hT X
  cases hv
  rw [h0] at hz hk
  obtain ⟨t2, a1, b1⟩ := kk T'.heap (locs ++ L) (by rw [e1]; exact hw)
    ⟨Nat.le_trans hS.1 (by rw [e1]; exact hz), fun q h1 h2 => by rw [e1, hk q (Nat.lt_of_lt_of_le h1 hS.1) h2]; exact hS.2.1 q h1 h2, fun q hq => by
      rcases List.mem_append.mp hq with h | h
      · exact hS.2.2 q h
      · exact hL q h⟩ T' rfl X'
  exact ⟨t2, st t2 a1, b1⟩
theorem pq_blind {av : List Value} {A : Nat → Prop} {S : pq_S} {h : pq_H} (hA : pq_A S A) : FrameBlind (va_Pc av (pq_Wd S A h)) := fun a U g mk q => ⟨q.1, q.2.1, va_K.moved (u := U) (U := U.calling g mk a) (Vm.Alike.refl U.vm) q.2.2.1, hA.2 U (U.calling g mk a) U.heap U.heap (State.WarmedH.refl U) (Nat.le_refl _) (fun _ _ _ => rfl) q.2.2.2⟩
theorem pq_wd {H : Heap} {locs : List Loc} {U : State} (hK : pq_K X S) (hP : va_P S.2.1.1 S.2.1.2.1 (pq_W S h) H) (hS : va_S X.2.2.2.1 X.2.2.2.2 H locs) (hU : U.heap = H) (hW : X.1.2.2.2.2.WarmedH U.vm) : pq_Wd S X.2.2.2.1 h U := by
  refine ⟨by rw [hU]; exact hP, va_K.moved hW.alike hK.1, ?_⟩
  have hS1 := hS
  rw [hK.2.2.1] at hS1
  exact hK.2.2.2.2 X.1.2.2.2.2 U _ _ hW (by rw [hU]; exact hS1.1) (fun q h1 h2 => by rw [hU]; exact hS1.2.1 q h1 h2) hK.2.2.2.1
theorem pq_cb {y : MethodName} {bb : ByteArray} {n : Nat} {ret : Option FieldType} {k idx rf rl RF RL : Nat} (hB : pq_B X b nL own) (hRm : pq_Rm0 X RF RL) (lk : pq_LB y bb n ret k) (hl : Cond.methodLink own idx y ∈ pq_G) (hr : rf + 1 ≤ RF) (hr2 : 8 + (n + 11) + rl ≤ RL) : CallB X.1.2.2.2.1 X.1.2.2.2.2 X.2.1.2.1 own idx y bb n ret (Cond.code y bb n ret :: pq_G) ({ frames := rf, cells := 0, slots := 0, locals := rl } : Room) 0 0 k := by
  obtain ⟨l1, l2, l3, l4, l5⟩ := lk
  exact callB_of (Ts := pq_G) (ws' := pq_G) k hB.2.2.2.2 (pq_goodIn l2 (fun w hw => hw)) rfl rfl rfl (hB.2.2.2.2 _ l1) (hB.2.2.2.2 _ hl) ⟨l3, l4, l5⟩ ⟨Nat.le_trans hr hRm.1, Nat.le_trans hr2 hRm.2⟩
theorem pq_cn {y : MethodName} {bb : ByteArray} {n : Nat} {ret : Option FieldType} {k idx rf rl RF RL : Nat} {host : String} (hB : pq_B X b nL own) (hRm : pq_Rm0 X RF RL) (lk : pq_LB y bb n ret k) (hl : (Cond.methodLinkNest own idx y host).before X.2.1.2.1 X.1.2.2.2.2 = true) (hr : rf + 1 ≤ RF) (hr2 : 8 + (n + 11) + rl ≤ RL) : va_CN X.1.2.2.2.1 X.1.2.2.2.2 X.2.1.2.1 own idx y host bb n ret (Cond.code y bb n ret :: pq_G) ({ frames := rf, cells := 0, slots := 0, locals := rl } : Room) 0 0 k := by
  obtain ⟨l1, l2, l3, l4, l5⟩ := lk
  refine ⟨⟨rfl, rfl, Nat.le_trans hr hRm.1, Nat.le_trans hr2 hRm.2, pay_in hB.2.2.2.2 (pq_goodIn l2 (fun w hw => hw)), List.mem_cons_self⟩, hB.2.2.2.2 _ l2, hB.2.2.2.2 _ l1, ⟨l3, l4⟩, fun sig hs => ?_, hl⟩
  rw [hs] at l5
  exact (Option.some.inj l5).symm
theorem v_callV {y : MethodName} {bb : ByteArray} {n : Nat} {ret : Option FieldType} {k idx rf rl RF RL p ci : Nat} {o : Option Value} {h' : pq_H} {st0 : List Value} (hB : pq_B X b nL own) (hK : pq_K X S) (hRm : pq_Rm X RF RL) (As : List Value) (st : List Value) (ob : pq_o S p ci y.cls) (lk : pq_LB y bb n ret k) (lv : Cond.methodLink own idx y ∈ pq_G ∧ Cond.instanceMethod y ∈ pq_G ∧ Cond.selects y.cls y y ∈ pq_G) (hM : pq_M S X.2.2.2.1 X.1.2.1 y bb n ret rf rl (.ref (S.1.2.1 p) :: As) h o h') (d : decode b pc = .ok (.invokevirtual idx, 3)) (hn : As.length = k) (hst : st0 = As.reverse ++ .ref (S.1.2.1 p) :: st) (hW : (st.map fun v => v.category).sum ≤ 8) (hr : rf + 1 ≤ RF) (hr2 : 8 + (n + 11) + rl ≤ RL) : pq_St X S nL pc L st0 h o.toList h' st := by
  intro α res F kk e ls H locs hl hP hS
  obtain ⟨hp, ⟨fs, e1⟩, T, N, hc⟩ := ob
  refine pq_call (S := S) (A := X.2.2.2.1) (o := o) (h' := h') (a := (Value.ref (S.1.2.1 p) :: As).toArray) (rest := st) ?_ hS (fun H1 locs1 hP1 hS1 => kk e ls H1 locs1 hl hP1 hS1)
  exact va_runV (As := As) (rest := st) (C := y.cls) ⟨hB.1, hB.2.1, hB.2.2.1, hB.2.2.2.1, hB.2.2.2.2⟩ hM ⟨pq_cb hB hRm.z lk lv.1 hr hr2, hB.2.2.2.2 _ lv.2.1, hB.2.2.2.2 _ lv.2.2⟩ ⟨pq_blind hK.A, va_recv hK.1 hP (q0 := p) hc (pq_get hp (e1 _ _ _)), fun U hU hW2 => ⟨rfl, pq_wd hK hP hS hU hW2⟩⟩ rfl hn hl.1 hst (lv_room hW) d hRm.2.2
theorem v_callVN {y : MethodName} {bb : ByteArray} {n : Nat} {ret : Option FieldType} {k idx rf rl RF RL p ci : Nat} {o : Option Value} {h' : pq_H} {st0 : List Value} {host : String} (hB : pq_B X b nL own) (hK : pq_K X S) (hRm : pq_Rm X RF RL) (As : List Value) (st : List Value) (ob : pq_o S p ci y.cls) (lk : pq_LB y bb n ret k) (hN : ∀ A U H, S.2.2 A U H → va_Nw (Cond.methodLinkNest own idx y host) U) (lv : Cond.instanceMethod y ∈ pq_G ∧ Cond.selects y.cls y y ∈ pq_G) (hM : pq_M S X.2.2.2.1 X.1.2.1 y bb n ret rf rl (.ref (S.1.2.1 p) :: As) h o h') (d : decode b pc = .ok (.invokevirtual idx, 3)) (hn : As.length = k) (hst : st0 = As.reverse ++ .ref (S.1.2.1 p) :: st) (hW : (st.map fun v => v.category).sum ≤ 8) (hr : rf + 1 ≤ RF) (hr2 : 8 + (n + 11) + rl ≤ RL) : pq_St X S nL pc L st0 h o.toList h' st := by
  intro α res F kk e ls H locs hl hP hS
  obtain ⟨hp, ⟨fs, e1⟩, T, N, hc⟩ := ob
  refine pq_call (S := S) (A := X.2.2.2.1) (o := o) (h' := h') (a := (Value.ref (S.1.2.1 p) :: As).toArray) (rest := st) ?_ hS (fun H1 locs1 hP1 hS1 => kk e ls H1 locs1 hl hP1 hS1)
  exact va_runVN (As := As) (rest := st) (C := y.cls) ⟨hB.1, hB.2.1, hB.2.2.1, hB.2.2.2.1, hB.2.2.2.2⟩ hM ⟨pq_cn hB hRm.z lk (va_Nw.use rfl (hN _ _ _ hK.2.2.2.1)) hr hr2, hB.2.2.2.2 _ lv.1, hB.2.2.2.2 _ lv.2⟩ ⟨pq_blind hK.A, va_recv hK.1 hP (q0 := p) hc (pq_get hp (e1 _ _ _)), fun U hU hW2 => ⟨rfl, pq_wd hK hP hS hU hW2⟩⟩ rfl hn hl.1 hst (lv_room hW) d hRm.2.2
theorem v_callS {y : MethodName} {bb : ByteArray} {n : Nat} {ret : Option FieldType} {k idx rf rl RF RL : Nat} {o : Option Value} {h' : pq_H} {st0 : List Value} (hB : pq_B X b nL own) (hK : pq_K X S) (hRm : pq_Rm X RF RL) (As : List Value) (st : List Value) (lk : pq_LB y bb n ret k) (lv : Cond.methodLink own idx y ∈ pq_G ∧ Cond.static y ∈ pq_G) (hM : pq_M S X.2.2.2.1 X.1.2.1 y bb n ret rf rl As h o h') (d : decode b pc = .ok (.invokestatic idx, 3)) (hn : As.length = k) (hst : st0 = As.reverse ++ st) (hW : (st.map fun v => v.category).sum ≤ 8) (hr : rf + 1 ≤ RF) (hr2 : 8 + (n + 11) + rl ≤ RL) : pq_St X S nL pc L st0 h o.toList h' st := by
  intro α res F kk e ls H locs hl hP hS
  refine pq_call (S := S) (A := X.2.2.2.1) (o := o) (h' := h') (a := As.toArray) (rest := st) ?_ hS (fun H1 locs1 hP1 hS1 => kk e ls H1 locs1 hl hP1 hS1)
  exact va_runS (As := As) (rest := st) ⟨hB.1, hB.2.1, hB.2.2.1, hB.2.2.2.1, hB.2.2.2.2⟩ hM ⟨pq_cb hB hRm.z lk lv.1 hr hr2, hB.2.2.2.2 _ lv.2⟩ ⟨pq_blind hK.A, fun U hU hW2 => ⟨rfl, pq_wd hK hP hS hU hW2⟩⟩ rfl hn hl.1 hst (lv_room hW) d hRm.2.2
theorem v_callSN {y : MethodName} {bb : ByteArray} {n : Nat} {ret : Option FieldType} {k idx rf rl RF RL : Nat} {o : Option Value} {h' : pq_H} {st0 : List Value} {host : String} (hB : pq_B X b nL own) (hK : pq_K X S) (hRm : pq_Rm X RF RL) (As : List Value) (st : List Value) (lk : pq_LB y bb n ret k) (hN : ∀ A U H, S.2.2 A U H → va_Nw (Cond.methodLinkNest own idx y host) U) (lv : Cond.static y ∈ pq_G) (hM : pq_M S X.2.2.2.1 X.1.2.1 y bb n ret rf rl As h o h') (d : decode b pc = .ok (.invokestatic idx, 3)) (hn : As.length = k) (hst : st0 = As.reverse ++ st) (hW : (st.map fun v => v.category).sum ≤ 8) (hr : rf + 1 ≤ RF) (hr2 : 8 + (n + 11) + rl ≤ RL) : pq_St X S nL pc L st0 h o.toList h' st := by
  intro α res F kk e ls H locs hl hP hS
  refine pq_call (S := S) (A := X.2.2.2.1) (o := o) (h' := h') (a := As.toArray) (rest := st) ?_ hS (fun H1 locs1 hP1 hS1 => kk e ls H1 locs1 hl hP1 hS1)
  exact va_runSN (As := As) (rest := st) ⟨hB.1, hB.2.1, hB.2.2.1, hB.2.2.2.1, hB.2.2.2.2⟩ hM ⟨pq_cn hB hRm.z lk (va_Nw.use rfl (hN _ _ _ hK.2.2.2.1)) hr hr2, hB.2.2.2.2 _ lv, trivial⟩ ⟨pq_blind hK.A, fun U hU hW2 => ⟨rfl, pq_wd hK hP hS hU hW2⟩⟩ rfl hn hl.1 hst (lv_room hW) d hRm.2.2
/-- the pure answer over a call -/
theorem v_bR {β : Type} {f : Option β} {G : β → Option α} {vf : β → Value} {st0 : List Value} (cs : ∀ r, f = some r → pq_St X S nL pc L st0 h [vf r] h st) (kk : ∀ r, V X S res nL (pc + 3) L (vf r :: st) h (G r)) : V X S res nL pc L st0 h (f.bind G) := by
  cases hf : f with
  | none => exact fun e => by cases e
  | some r => exact cs r hf (kk r)
theorem v_bW {β : Type} {f : Option (β × pq_H)} {G : β → pq_H → Option α} {vf : β → Value} {st0 : List Value} (cs : ∀ r h', f = some (r, h') → pq_St X S nL pc L st0 h [vf r] h' st) (kk : ∀ r h', V X S res nL (pc + 3) L (vf r :: st) h' (G r h')) : V X S res nL pc L st0 h (bd2 f G) := by
  unfold bd2
  cases hf : f with
  | none => exact fun e => by cases e
  | some r => exact cs r.1 r.2 hf (kk r.1 r.2)
theorem v_bV {f : Option pq_H} {G : pq_H → Option α} {st0 : List Value} (cs : ∀ h', f = some h' → pq_St X S nL pc L st0 h [] h' st) (kk : ∀ h', V X S res nL (pc + 3) L st h' (G h')) : V X S res nL pc L st0 h (f.bind G) := by
  cases hf : f with
  | none => exact fun e => by cases e
  | some r => exact cs r hf (kk r)
/-- ends -/
theorem pq_end {ret : Option FieldType} {rf rl : Nat} {o : Option Value} {H : Heap} {locs : List Loc} (hK : pq_K X S) (hR : pq_R X S ret rf rl o h) (hP : va_P S.2.1.1 S.2.1.2.1 (pq_W S h) H) (hS : va_S X.2.2.2.1 X.2.2.2.2 H locs) : ∀ t : State, t.heap = H → X.1.2.2.2.2.WarmedH t.vm → pq_Q o h S X.2.2.2.1 X.2.1.2.1 X.1.2.2.2.2 (.returned o) t := fun t ht hW => ⟨⟨rfl, by rw [ht]; exact hP⟩, by
  have hS1 := hS
  rw [hK.2.2.1] at hS1
  exact hS1.F ht⟩
theorem v_iret {x : Int32} {rf rl : Nat} (hB : pq_B X b nL own) (hK : pq_K X S) (hR : pq_R X S (some .int) rf rl (some (.int x)) h) (d : decode b pc = .ok (.ireturn, 1)) : V X S res nL pc L [.int x] h F := fun e ls H locs hl hP hS => by
  have hq := pq_end hK hR hP hS
  have hR2 := hR
  obtain ⟨-, h2, h3, h4, h5⟩ := hR2
  rw [h4, h5]
  exact W.iret hB.1 hB.2.1 h2 hq hS.2.2 d h3
theorem v_zret {x : Bool} {rf rl : Nat} (hB : pq_B X b nL own) (hK : pq_K X S) (hR : pq_R X S (some .boolean) rf rl (some (.int (b2i x))) h) (d : decode b pc = .ok (.ireturn, 1)) : V X S res nL pc L [.int (b2i x)] h F := fun e ls H locs hl hP hS => by
  have hq := pq_end hK hR hP hS
  have hR2 := hR
  obtain ⟨-, h2, h3, h4, h5⟩ := hR2
  rw [h4, h5]
  exact W.zret hB.1 hB.2.1 h2 (by cases x <;> rfl) hq hS.2.2 d h3
theorem v_lret {x : Int64} {rf rl : Nat} (hB : pq_B X b nL own) (hK : pq_K X S) (hR : pq_R X S (some .long) rf rl (some (.long x)) h) (d : decode b pc = .ok (.lreturn, 1)) : V X S res nL pc L [.long x] h F := fun e ls H locs hl hP hS => by
  have hq := pq_end hK hR hP hS
  have hR2 := hR
  obtain ⟨-, h2, h3, h4, h5⟩ := hR2
  rw [h4, h5]
  exact W.lret hB.1 hB.2.1 h2 hq hS.2.2 d h3
theorem v_vret {rf rl : Nat} (hB : pq_B X b nL own) (hK : pq_K X S) (hR : pq_R X S none rf rl none h) (d : decode b pc = .ok (.return_, 1)) : V X S res nL pc L [] h F := fun e ls H locs hl hP hS => by
  have hq := pq_end hK hR hP hS
  have hR2 := hR
  obtain ⟨-, h2, h3, h4, h5⟩ := hR2
  rw [h4, h5]
  exact W.vret hB.1 hB.2.1 h2 hq hS.2.2 d h3
theorem v_aret {x : Nat} {C0 : String} {rf rl : Nat} (hB : pq_B X b nL own) (hK : pq_K X S) (hR : pq_R X S (some (.object C0)) rf rl (some (.ref x)) h) (d : decode b pc = .ok (.areturn, 1)) : V X S res nL pc L [.ref x] h F := fun e ls H locs hl hP hS => by
  have hq := pq_end hK hR hP hS
  have hR2 := hR
  obtain ⟨-, h2, h3, h4, h5⟩ := hR2
  rw [h4, h5]
  exact W.aret hB.1 hB.2.1 h2 (Or.inl ⟨_, rfl⟩) (Or.inr ⟨_, rfl⟩) hq hS.2.2 d h3
theorem v_retRi {r x : Int32} {rf rl : Nat} (hB : pq_B X b nL own) (hK : pq_K X S) (hR : pq_R X S (some .int) rf rl (some (.int r)) h) (d : decode b pc = .ok (.ireturn, 1)) : V X S r nL pc L [.int x] h (some x) := fun e => by
  cases e
  exact v_iret (F := some x) hB hK hR d rfl
theorem v_retRz {r x : Bool} {rf rl : Nat} (hB : pq_B X b nL own) (hK : pq_K X S) (hR : pq_R X S (some .boolean) rf rl (some (.int (b2i r))) h) (d : decode b pc = .ok (.ireturn, 1)) : V X S r nL pc L [.int (b2i x)] h (some x) := fun e => by
  cases e
  exact v_zret (F := some x) hB hK hR d rfl
theorem v_retRj {r x : Int64} {rf rl : Nat} (hB : pq_B X b nL own) (hK : pq_K X S) (hR : pq_R X S (some .long) rf rl (some (.long r)) h) (d : decode b pc = .ok (.lreturn, 1)) : V X S r nL pc L [.long x] h (some x) := fun e => by
  cases e
  exact v_lret (F := some x) hB hK hR d rfl
theorem v_retWi {r x : Int32} {h' : pq_H} {rf rl : Nat} (hB : pq_B X b nL own) (hK : pq_K X S) (hR : pq_R X S (some .int) rf rl (some (.int r)) h') (d : decode b pc = .ok (.ireturn, 1)) : V X S (r, h') nL pc L [.int x] h (some (x, h)) := fun e => by
  cases e
  exact v_iret (F := some x) hB hK hR d rfl
theorem v_retWz {r x : Bool} {h' : pq_H} {rf rl : Nat} (hB : pq_B X b nL own) (hK : pq_K X S) (hR : pq_R X S (some .boolean) rf rl (some (.int (b2i r))) h') (d : decode b pc = .ok (.ireturn, 1)) : V X S (r, h') nL pc L [.int (b2i x)] h (some (x, h)) := fun e => by
  cases e
  exact v_zret (F := some x) hB hK hR d rfl
theorem v_retWj {r x : Int64} {h' : pq_H} {rf rl : Nat} (hB : pq_B X b nL own) (hK : pq_K X S) (hR : pq_R X S (some .long) rf rl (some (.long r)) h') (d : decode b pc = .ok (.lreturn, 1)) : V X S (r, h') nL pc L [.long x] h (some (x, h)) := fun e => by
  cases e
  exact v_lret (F := some x) hB hK hR d rfl
theorem v_retWv {h' : pq_H} {rf rl : Nat} (hB : pq_B X b nL own) (hK : pq_K X S) (hR : pq_R X S none rf rl none h') (d : decode b pc = .ok (.return_, 1)) : V X S h' nL pc L [] h (some h) := fun e => by
  cases e
  exact v_vret (F := some h) hB hK hR d rfl
theorem v_retWa {h' : pq_H} {x : Nat} {C0 : String} {rf rl : Nat} (hB : pq_B X b nL own) (hK : pq_K X S) (hR : pq_R X S (some (.object C0)) rf rl (some (.ref x)) h') (d : decode b pc = .ok (.areturn, 1)) : V X S h' nL pc L [.ref x] h (some h) := fun e => by
  cases e
  exact v_aret (F := some h) hB hK hR d rfl
theorem v_bT {st0 : List Value} {v : Value} (cs : pq_St X S nL pc L st0 h [v] h st) (kk : V X S res nL (pc + 3) L (v :: st) h F) : V X S res nL pc L st0 h F := cs kk
theorem v_bRi {f : Option Int32} {G : Int32 → Option α} {st0 : List Value} (cs : ∀ r, f = some r → pq_St X S nL pc L st0 h [.int r] h st) (kk : ∀ r, V X S res nL (pc + 3) L (.int r :: st) h (G r)) : V X S res nL pc L st0 h (f.bind G) := v_bR (vf := fun r => .int r) cs kk
theorem v_bRz {f : Option Bool} {G : Bool → Option α} {st0 : List Value} (cs : ∀ r, f = some r → pq_St X S nL pc L st0 h [.int (b2i r)] h st) (kk : ∀ r, V X S res nL (pc + 3) L (.int (b2i r) :: st) h (G r)) : V X S res nL pc L st0 h (f.bind G) := v_bR (vf := fun r => .int (b2i r)) cs kk
theorem v_bRj {f : Option Int64} {G : Int64 → Option α} {st0 : List Value} (cs : ∀ r, f = some r → pq_St X S nL pc L st0 h [.long r] h st) (kk : ∀ r, V X S res nL (pc + 3) L (.long r :: st) h (G r)) : V X S res nL pc L st0 h (f.bind G) := v_bR (vf := fun r => .long r) cs kk
theorem v_bWi {f : Option (Int32 × pq_H)} {G : Int32 → pq_H → Option α} {st0 : List Value} (cs : ∀ r h', f = some (r, h') → pq_St X S nL pc L st0 h [.int r] h' st) (kk : ∀ r h', V X S res nL (pc + 3) L (.int r :: st) h' (G r h')) : V X S res nL pc L st0 h (bd2 f G) := v_bW (vf := fun r => .int r) cs kk
theorem v_bWz {f : Option (Bool × pq_H)} {G : Bool → pq_H → Option α} {st0 : List Value} (cs : ∀ r h', f = some (r, h') → pq_St X S nL pc L st0 h [.int (b2i r)] h' st) (kk : ∀ r h', V X S res nL (pc + 3) L (.int (b2i r) :: st) h' (G r h')) : V X S res nL pc L st0 h (bd2 f G) := v_bW (vf := fun r => .int (b2i r)) cs kk
theorem v_bWj {f : Option (Int64 × pq_H)} {G : Int64 → pq_H → Option α} {st0 : List Value} (cs : ∀ r h', f = some (r, h') → pq_St X S nL pc L st0 h [.long r] h' st) (kk : ∀ r h', V X S res nL (pc + 3) L (.long r :: st) h' (G r h')) : V X S res nL pc L st0 h (bd2 f G) := v_bW (vf := fun r => .long r) cs kk
theorem v_bVr {f : Option pq_H} {G : pq_H → Option α} {st0 : List Value} {a : Nat} (cs : ∀ h', f = some h' → pq_St X S nL pc L st0 h [.ref a] h' st) (kk : ∀ h', V X S res nL (pc + 3) L (.ref a :: st) h' (G h')) : V X S res nL pc L st0 h (f.bind G) := by
  cases hf : f with
  | none => exact fun e => by cases e
  | some r => exact cs r hf (kk r)
/-- a switch, a case at a time -/
theorem v_tcase {dflt lo hi : Int} {offs : Array Int} {len : Nat} {x : Int32} {off : Int} {tgt : Nat} {F1 F2 : Option α} (hB : pq_B X b nL own) (c : Int32) (d : decode b pc = .ok (.tableswitch dflt lo hi offs, len)) (h1 : ¬ c.toInt < lo) (h2 : ¬ hi < c.toInt) (ho : offs[(c.toInt - lo).toNat]? = some off) (ht : (pc : Int) + off = (tgt : Int)) (k1 : V X S res nL tgt L st h F1) (k2 : ¬ x = c → V X S res nL pc L (.int x :: st) h F2) : V X S res nL pc L (.int x :: st) h (if x = c then F1 else F2) := by
  by_cases hc : x = c
  · rw [if_pos hc]
    subst hc
    exact fun e ls H locs hl hP hS => lv_tableIn hB.1 hB.2.1 d h1 h2 ho ht (k1 e ls H locs hl hP hS)
  · rw [if_neg hc]
    exact k2 hc
theorem v_tdef {dflt lo hi : Int} {offs : Array Int} {len : Nat} {x : Int32} {tgt : Nat} (hB : pq_B X b nL own) (d : decode b pc = .ok (.tableswitch dflt lo hi offs, len)) (hx : x.toInt < lo ∨ hi < x.toInt) (ht : (pc : Int) + dflt = (tgt : Int)) (k : V X S res nL tgt L st h F) : V X S res nL pc L (.int x :: st) h F := fun e ls H locs hl hP hS => lv_tableOut hB.1 hB.2.1 d hx ht (k e ls H locs hl hP hS)
theorem lp_ind {σ : Type} {z : σ} {f : σ → σ} (P : σ → Prop) (hz : P z) (hs : ∀ x, P x → P (f x)) : ∀ n, P (lp z f n)
  | 0 => hz
  | n + 1 => hs _ (lp_ind P hz hs n)
theorem v_tcaseT {dflt lo hi : Int} {offs : Array Int} {len : Nat} {x : Int32} {off : Int} {tgt : Nat} {x1 x2 : α} (hB : pq_B X b nL own) (c : Int32) (d : decode b pc = .ok (.tableswitch dflt lo hi offs, len)) (h1 : ¬ c.toInt < lo) (h2 : ¬ hi < c.toInt) (ho : offs[(c.toInt - lo).toNat]? = some off) (ht : (pc : Int) + off = (tgt : Int)) (k1 : V X S res nL tgt L st h (some x1)) (k2 : ¬ x = c → V X S res nL pc L (.int x :: st) h (some x2)) : V X S res nL pc L (.int x :: st) h (some (if x = c then x1 else x2)) := V.cast (F' := if x = c then some x1 else some x2) (fun e => by rw [← e]; split <;> rfl) (v_tcase hB c d h1 h2 ho ht k1 k2)
theorem v_idivG (hB : pq_B X b nL own) {a c : Int32} (d : decode b pc = .ok (.idiv, 1)) (k : V X S res nL (pc + 1) L (.int (a / c) :: st) h F) : V X S res nL pc L (.int c :: .int a :: st) h (gd (c != 0) F) := by
  by_cases hc : c = 0
  · subst hc; exact V.none _ _ _ _
  · rw [show (c != 0) = true by simpa using hc]; exact v_idiv hB d hc k
theorem v_iremG (hB : pq_B X b nL own) {a c : Int32} (d : decode b pc = .ok (.irem, 1)) (k : V X S res nL (pc + 1) L (.int (a - a / c * c) :: st) h F) : V X S res nL pc L (.int c :: .int a :: st) h (gd (c != 0) F) := by
  by_cases hc : c = 0
  · subst hc; exact V.none _ _ _ _
  · rw [show (c != 0) = true by simpa using hc]; exact v_irem hB d hc k
theorem v_ldivG (hB : pq_B X b nL own) {a c : Int64} (d : decode b pc = .ok (.ldiv, 1)) (k : V X S res nL (pc + 1) L (.long (a / c) :: st) h F) : V X S res nL pc L (.long c :: .long a :: st) h (gd (c != 0) F) := by
  by_cases hc : c = 0
  · subst hc; exact V.none _ _ _ _
  · rw [show (c != 0) = true by simpa using hc]; exact v_ldiv hB d hc k
theorem v_lremG (hB : pq_B X b nL own) {a c : Int64} (d : decode b pc = .ok (.lrem, 1)) (k : V X S res nL (pc + 1) L (.long (a - a / c * c) :: st) h F) : V X S res nL pc L (.long c :: .long a :: st) h (gd (c != 0) F) := by
  by_cases hc : c = 0
  · subst hc; exact V.none _ _ _ _
  · rw [show (c != 0) = true by simpa using hc]; exact v_lrem hB d hc k
theorem v_iushr (hB : pq_B X b nL own) {a c : Int32} (d : decode b pc = .ok (.iushr, 1)) (k : V X S res nL (pc + 1) L (.int ((a.toUInt32 >>> (c.toUInt32 &&& Int32.toUInt32 31)).toInt32) :: st) h F) : V X S res nL pc L (.int c :: .int a :: st) h F := fun e ls H locs hl hP hS => lv_iushr hB.1 hB.2.1 d rfl (k e ls H locs hl hP hS)
/-- Math, Integer: short ways -/
theorem v_mmin {idx RF RL : Nat} {x y : Int32} (hB : pq_B X b nL own) (hRm : pq_Rm X RF RL) (lk : Cond.methodLink own idx Lib.Math.min.name ∈ pq_G ∧ Cond.static Lib.Math.min.name ∈ pq_G ∧ Cond.initialized "java/lang/Math" ∈ pq_G ∧ Cond.code Lib.Math.min.name Lib.Math.min.code 2 (some .int) ∈ pq_G) (hr : 1 ≤ RF) (hr2 : (st.map fun v => v.category).sum + 13 ≤ RL) (d : decode b pc = .ok (.invokestatic idx, 3)) (kk : V X S res nL (pc + 3) L (.int (if y < x then y else x) :: st) h F) : V X S res nL pc L (.int y :: .int x :: st) h F := fun e ls H locs hl hP hS => va_mmin hB.1 hB.2.1 (hB.2.2.1.trans hl.1.symm) hB.2.2.2.1 (hB.2.2.2.2 _ lk.1) (hB.2.2.2.2 _ lk.2.1) (hB.2.2.2.2 _ lk.2.2.1) (hB.2.2.2.2 _ lk.2.2.2) (Nat.le_trans hr hRm.1) (Nat.le_trans hr2 hRm.2.1) hRm.2.2.1 hRm.2.2.2 d (kk e ls H locs hl hP hS)
theorem v_mmax {idx RF RL : Nat} {x y : Int32} (hB : pq_B X b nL own) (hRm : pq_Rm X RF RL) (lk : Cond.methodLink own idx Lib.Math.max.name ∈ pq_G ∧ Cond.static Lib.Math.max.name ∈ pq_G ∧ Cond.initialized "java/lang/Math" ∈ pq_G ∧ Cond.code Lib.Math.max.name Lib.Math.max.code 2 (some .int) ∈ pq_G) (hr : 1 ≤ RF) (hr2 : (st.map fun v => v.category).sum + 13 ≤ RL) (d : decode b pc = .ok (.invokestatic idx, 3)) (kk : V X S res nL (pc + 3) L (.int (if x < y then y else x) :: st) h F) : V X S res nL pc L (.int y :: .int x :: st) h F := fun e ls H locs hl hP hS => va_mmax hB.1 hB.2.1 (hB.2.2.1.trans hl.1.symm) hB.2.2.2.1 (hB.2.2.2.2 _ lk.1) (hB.2.2.2.2 _ lk.2.1) (hB.2.2.2.2 _ lk.2.2.1) (hB.2.2.2.2 _ lk.2.2.2) (Nat.le_trans hr hRm.1) (Nat.le_trans hr2 hRm.2.1) hRm.2.2.1 hRm.2.2.2 d (kk e ls H locs hl hP hS)
theorem v_mabs {idx RF RL : Nat} {x : Int32} (hB : pq_B X b nL own) (hRm : pq_Rm X RF RL) (lk : Cond.methodLink own idx Lib.Math.abs.name ∈ pq_G ∧ Cond.static Lib.Math.abs.name ∈ pq_G ∧ Cond.initialized "java/lang/Math" ∈ pq_G ∧ Cond.code Lib.Math.abs.name Lib.Math.abs.code 1 (some .int) ∈ pq_G) (hr : 1 ≤ RF) (hr2 : (st.map fun v => v.category).sum + 13 ≤ RL) (d : decode b pc = .ok (.invokestatic idx, 3)) (kk : V X S res nL (pc + 3) L (.int (if 0 ≤ x then x else 0 - x) :: st) h F) : V X S res nL pc L (.int x :: st) h F := fun e ls H locs hl hP hS => va_mabs hB.1 hB.2.1 (hB.2.2.1.trans hl.1.symm) hB.2.2.2.1 (hB.2.2.2.2 _ lk.1) (hB.2.2.2.2 _ lk.2.1) (hB.2.2.2.2 _ lk.2.2.1) (hB.2.2.2.2 _ lk.2.2.2) (Nat.le_trans hr hRm.1) (Nat.le_trans hr2 hRm.2.1) hRm.2.2.1 hRm.2.2.2 d (kk e ls H locs hl hP hS)
theorem v_mabsl {idx RF RL : Nat} {x : Int64} (hB : pq_B X b nL own) (hRm : pq_Rm X RF RL) (lk : Cond.methodLink own idx Lib.MathLoose.abs_long.x ∈ pq_G ∧ Cond.static Lib.MathLoose.abs_long.x ∈ pq_G ∧ Cond.initialized "java/lang/Math" ∈ pq_G ∧ Cond.code Lib.MathLoose.abs_long.x Lib.MathLoose.abs_long.code 2 (some .long) ∈ pq_G) (hr : 1 ≤ RF) (hr2 : (st.map fun v => v.category).sum + 13 ≤ RL) (d : decode b pc = .ok (.invokestatic idx, 3)) (kk : V X S res nL (pc + 3) L (.long (if 0 < x then x else -x) :: st) h F) : V X S res nL pc L (.long x :: st) h F := fun e ls H locs hl hP hS => va_mabs_long hB.1 hB.2.1 (hB.2.2.1.trans hl.1.symm) hB.2.2.2.1 (hB.2.2.2.2 _ lk.1) (hB.2.2.2.2 _ lk.2.1) (hB.2.2.2.2 _ lk.2.2.1) (hB.2.2.2.2 _ lk.2.2.2) (Nat.le_trans hr hRm.1) (Nat.le_trans hr2 hRm.2.1) hRm.2.2.1 hRm.2.2.2 d (kk e ls H locs hl hP hS)
end PQ
