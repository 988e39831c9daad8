/-! new long[n][k] -/
/-- the row of references when i rows are made -/
def mulR (h0 i : Nat) : Nat → Value := fun j => if j < i then .ref (h0 + 1 + j) else .null
/-- the state when i rows are made -/
def mfl (T : State) (cA comp : ClassId) (N M : Nat) : Nat → State
  | 0 => T.pushCell (arrV cA N (mulR T.heap.size 0))
  | i + 1 => ((mfl T cA comp N M i).pushCell (arrV comp M (fun _ => .long 0))).setCell T.heap.size (arrV cA N (mulR T.heap.size (i + 1)))
def mulAt (cA comp : ClassId) (N M h0 : Nat) (H : Heap) (i : Nat) (G : Heap) : Prop :=
  G.size = h0 + 1 + i ∧ G[h0]? = some (arrV cA N (mulR h0 i)) ∧ (∀ j, j < i → G[h0 + 1 + j]? = some (arrV comp M (fun _ => .long 0))) ∧ ∀ x, x < h0 → G[x]? = H[x]?
theorem mulR_up (h0 i : Nat) : updV (mulR h0 i) i (.ref (h0 + 1 + i)) = mulR h0 (i + 1) := by
  funext j
  unfold updV mulR
  by_cases e : j = i
  · rw [if_pos e, if_pos (by omega), e]
  · rw [if_neg e]
    by_cases q : j < i
    · rw [if_pos q, if_pos (by omega)]
    · rw [if_neg q, if_neg (by omega)]
theorem mfl_at (T : State) (cA comp : ClassId) (N M : Nat) : ∀ i, mulAt cA comp N M T.heap.size T.heap i (mfl T cA comp N M i).heap ∧ (mfl T cA comp N M i).vm = T.vm ∧ (mfl T cA comp N M i).slotsUsed = T.slotsUsed + N + i * M
  | 0 => ⟨⟨size_pushCell _ _, State.heap_pushCell_size _ _, fun j hj => absurd hj (Nat.not_lt_zero j), fun x hx => State.heap_pushCell_of_lt _ _ hx⟩, rfl, by simp [mfl, arrV_size]⟩
  | i + 1 => by
    obtain ⟨⟨a1, a2, a3, a4⟩, b, u⟩ := mfl_at T cA comp N M i
    have lt0 : T.heap.size < ((mfl T cA comp N M i).pushCell (arrV comp M (fun _ => .long 0))).heap.size := by rw [size_pushCell, a1]; omega
    refine ⟨⟨?_, heapAt_setCell_self _ lt0, fun j hj => ?_, fun x hx => ?_⟩, b, ?_⟩
    · show (((mfl T cA comp N M i).pushCell _).setCell _ _).heap.size = _
      rw [size_setCell, size_pushCell, a1]; omega
    · show (((mfl T cA comp N M i).pushCell _).setCell _ _).heap[T.heap.size + 1 + j]? = _
      rw [heapAt_setCell_ne _ (show T.heap.size ≠ T.heap.size + 1 + j by omega)]
      by_cases e : j = i
      · rw [e, ← a1]; exact State.heap_pushCell_size _ _
      · have q : T.heap.size + 1 + j < (mfl T cA comp N M i).heap.size := by rw [a1]; omega
        rw [State.heap_pushCell_of_lt (h := q)]
        exact a3 j (by omega)
    · show (((mfl T cA comp N M i).pushCell _).setCell _ _).heap[x]? = _
      have q : x < (mfl T cA comp N M i).heap.size := by rw [a1]; omega
      rw [heapAt_setCell_ne _ (show T.heap.size ≠ x by omega), State.heap_pushCell_of_lt (h := q)]
      exact a4 x hx
    · simp [mfl, u, arrV_size, Nat.succ_mul]; omega
theorem mfl_top (T : State) (f : JFrame) (cA comp : ClassId) (N M : Nat) : ∀ i, mfl (T.setTop f) cA comp N M i = (mfl T cA comp N M i).setTop f
  | 0 => rfl
  | i + 1 => by simp only [mfl, mfl_top T f cA comp N M i, State.heap_setTop, State.pushCell_setTop, State.setCell_setTop]
section MUL
variable {D : jD} {p : Program} {l : Launch} {e : Env} {R : Room} {s : State} {m : MethodId} {args : Array Value} {below : List Frame} {meth : Method} {c : Code} {Q : State → Prop} {x0 u0 y : Nat}
variable {cl : Nat → List AV → AH → Option AV → AH → Prop} {K : Nat → List AV → List AV → AH → Prop} {Rt : Option AV → AH → Prop} {pc len : Nat} {loc stk : List AV} {h : AH}
theorem mul_word : Cond.classLink RX3 9 ("[" ++ (FieldType.array .long).toString) ∈ gw := gw_of (by decide +kernel) rfl
theorem mfl_stand {T : State} {locs : List Loc} {cells slots : Nat} (X : Stand p l e R s m args below meth c T locs cells slots) (cA comp : ClassId) (N M : Nat) : ∀ i, ∃ L, (∀ q ∈ L, q.base = T.heap.size) ∧ Stand p l e R s m args below meth c (mfl T cA comp N M i) (locs ++ L) (cells + 1 + i) (slots + N + i * M)
  | 0 => by
    have h := X.pushed (arrV cA N (mulR T.heap.size 0))
    rw [arrV_size] at h
    exact ⟨[], (fun q hq => by cases hq), by simpa [mfl] using h⟩
  | i + 1 => by
    obtain ⟨L, hL, Xi⟩ := mfl_stand X cA comp N M i
    obtain ⟨⟨a1, a2, a3, a4⟩, b, u⟩ := mfl_at T cA comp N M i
    have hc : ((mfl T cA comp N M i).pushCell (arrV comp M (fun _ => .long 0))).heap[T.heap.size]? = some (arrV cA N (mulR T.heap.size i)) := by
      have q : T.heap.size < (mfl T cA comp N M i).heap.size := by rw [a1]; omega
      rw [State.heap_pushCell_of_lt (h := q)]; exact a2
    have h := (Xi.pushed (arrV comp M (fun _ => .long 0))).stored hc i (.ref (T.heap.size + 1 + i))
    rw [arrV_size, arrV_store, mulR_up, List.append_assoc] at h
    refine ⟨L ++ [⟨T.heap.size, i⟩], fun q hq => ?_, ?_⟩
    · rcases List.mem_append.mp hq with q1 | q1
      · exact hL q q1
      · rw [List.mem_singleton] at q1
        rw [q1]
    · rw [show slots + N + (i + 1) * M = slots + N + i * M + M by rw [Nat.succ_mul]; omega]
      exact h
theorem mul_wp {E : CtlPost} {d : Bool} {acts : List Action} {T : State} {cA comp cc : ClassId} {kA kC : Class} {n k : Int32} (hkA : T.vm.classes[cA]? = some kA) (hkindA : kA.kind = .array comp (.array .long)) (hkC : T.vm.classes[comp]? = some kC) (hkindC : kC.kind = .array cc .long) (hn : ¬ n < 0) (hk : ¬ k < 0)
    (hl1 : ¬ n.toNatClampNeg > e.platform.arrayLengthLimit) (hh1 : ¬ n.toNatClampNeg * componentBytes (.array .long) > e.platform.maxHeapBytes) (hl2 : ¬ k.toNatClampNeg > e.platform.arrayLengthLimit) (hh2 : ¬ k.toNatClampNeg * componentBytes .long > e.platform.maxHeapBytes)
    (hc : T.heap.size + 1 + n.toNatClampNeg ≤ e.platform.maxCells) (hs : T.slotsUsed + n.toNatClampNeg + n.toNatClampNeg * k.toNatClampNeg ≤ e.platform.maxSlots) {Z : Addr → Pre} (hq : ∀ d' acts', Z T.heap.size d' acts' (mfl T cA comp n.toNatClampNeg k.toNatClampNeg n.toNatClampNeg)) :
    wp (multianewarray.make cA [n, k]) Z E e d acts T := by
  have hf : ([k].find? (· < 0)) = none := by simp [hk]
  rw [multianewarray.make]
  simp only [wp_bind', W.ite, hn, if_false, wp_pure', W.theClass, hkA, hkindA, Option.some.injEq, exists_eq_left']
  refine W.newArray_of hkA hkindA hl1 hh1 (by omega) (by have := Nat.zero_le (n.toNatClampNeg * k.toNatClampNeg); omega) rfl (fun acts1 => ?_)
  have e0 : ({ cls := cA, slots := Array.replicate n.toNatClampNeg Value.null } : Cell) = arrV cA n.toNatClampNeg (mulR T.heap.size 0) := by
    rw [show ({ cls := cA, slots := Array.replicate n.toNatClampNeg Value.null } : Cell) = { cls := cA, slots := Array.replicate n.toNatClampNeg Value.null, vm := .none } from rfl, arrV_new]
    rfl
  rw [e0]
  simp only [hf]
  rw [ite_self, wp_bind', Std.Legacy.Range.forIn_eq_forIn_range']
  rw [show ([:n.toNatClampNeg] : Std.Legacy.Range).size = n.toNatClampNeg by simp [Std.Legacy.Range.size]]
  show wp (forIn (List.range' 0 n.toNatClampNeg 1) PUnit.unit _) _ E e d acts1 _
  refine wp_forIn_inv (fun rest S => ∃ i, i ≤ n.toNatClampNeg ∧ rest = List.range' i (n.toNatClampNeg - i) ∧ S = mfl T cA comp n.toNatClampNeg k.toNatClampNeg i) _ _ ⟨0, Nat.zero_le _, rfl, rfl⟩ ?_ ?_
  · rintro x rest S d2 acts2 Z2 ⟨i, hi, hl, rfl⟩ hnext
    by_cases hlt : i < n.toNatClampNeg
    · rw [show n.toNatClampNeg - i = (n.toNatClampNeg - (i + 1)) + 1 by omega, List.range'_succ] at hl
      obtain ⟨rfl, hrest⟩ := List.cons.inj hl
      obtain ⟨⟨a1, a2, a3, a4⟩, b, u⟩ := mfl_at T cA comp n.toNatClampNeg k.toNatClampNeg x
      have hmul : x * k.toNatClampNeg + k.toNatClampNeg ≤ n.toNatClampNeg * k.toNatClampNeg := by
        have := Nat.mul_le_mul_right k.toNatClampNeg (show x + 1 ≤ n.toNatClampNeg from hlt)
        rw [Nat.succ_mul] at this; exact this
      simp only [wp_bind']
      rw [multianewarray.make]
      simp only [wp_bind', W.ite, hk, if_false, wp_pure', W.theClass, b, hkC, hkindC, Option.some.injEq, exists_eq_left']
      refine W.newArray_of (by rw [b]; exact hkC) hkindC hl2 hh2 (by rw [a1]; omega) (by rw [u]; omega) rfl (fun acts3 => ?_)
      have e1 : ({ cls := comp, slots := Array.replicate k.toNatClampNeg (defaultValue .long) } : Cell) = arrV comp k.toNatClampNeg (fun _ => .long 0) := by
        rw [show ({ cls := comp, slots := Array.replicate k.toNatClampNeg (defaultValue .long) } : Cell) = { cls := comp, slots := Array.replicate k.toNatClampNeg (.long 0), vm := .none } from rfl, arrV_new]
      rw [e1]
      simp only [wp_bind', W.writeLoc, wp_pure']
      refine ⟨arrV cA n.toNatClampNeg (mulR T.heap.size x), by
        have q : T.heap.size < (mfl T cA comp n.toNatClampNeg k.toNatClampNeg x).heap.size := by rw [a1]; omega
        rw [State.heap_pushCell_of_lt (h := q)]; exact a2, (by intro q; cases q), by rw [arrV_size]; exact hlt, ?_, hnext _ _ _ ⟨x + 1, hlt, hrest, ?_⟩⟩
      · show State.fitsSlot _ cA .none x _ = true
        simp [State.fitsSlot, State.slotType?, b, hkA, hkindA, fits]
      · rw [a1, arrV_store, mulR_up]; rfl
    · rw [show n.toNatClampNeg - i = 0 by omega] at hl
      cases hl
  · rintro S d2 acts2 ⟨i, hi, hl, rfl⟩
    have hiN : i = n.toNatClampNeg := by
      rcases Nat.lt_or_ge i n.toNatClampNeg with q | q
      · rw [show n.toNatClampNeg - i = (n.toNatClampNeg - (i + 1)) + 1 by omega, List.range'_succ] at hl
        cases hl
      · omega
    subst hiN
    simp only [wp_pure']
    exact hq _ _
theorem nm2_eq {h : AH} {n k b : Nat} (hb : ¬ (jx h ≤ b ∧ b ≤ jx h + n)) : eqat h (nm2 h n k) b := by
  have e1 : ¬ b = jx h := by omega
  have e2 : ¬ (jx h < b ∧ b ≤ jx h + n) := by omega
  refine ⟨?_, ?_, fun j => ⟨?_, ?_, ?_⟩⟩
  · show (if b = jx h then 26 else if jx h < b ∧ b ≤ jx h + n then 21 else h.1 b) = _
    rw [if_neg e1, if_neg e2]; rfl
  · show (if b = jx h then n else if jx h < b ∧ b ≤ jx h + n then k else h.2.1 b) = _
    rw [if_neg e1, if_neg e2]; rfl
  · show (if jx h ≤ b ∧ b ≤ jx h + n then 0 else h.2.2.1 b j) = _
    rw [if_neg hb]; rfl
  · show (if jx h ≤ b ∧ b ≤ jx h + n then 0 else h.2.2.2.1 b j) = _
    rw [if_neg hb]; rfl
  · show (if b = jx h then (if j < n then jx h + 1 + j else 0) else if jx h < b ∧ b ≤ jx h + n then 0 else h.2.2.2.2.1 b j) = _
    rw [if_neg e1, if_neg e2]; rfl
theorem nm2_t0 (h : AH) (n k : Nat) : jt (nm2 h n k) (jx h) = 26 ∧ jn (nm2 h n k) (jx h) = n := ⟨if_pos rfl, if_pos rfl⟩
theorem nm2_t1 (h : AH) (n k : Nat) {b : Nat} (h1 : jx h < b) (h2 : b ≤ jx h + n) : jt (nm2 h n k) b = 21 ∧ jn (nm2 h n k) b = k := by
  constructor
  · show (if b = jx h then 26 else if jx h < b ∧ b ≤ jx h + n then 21 else h.1 b) = 21
    rw [if_neg (by omega), if_pos ⟨h1, h2⟩]
  · show (if b = jx h then n else if jx h < b ∧ b ≤ jx h + n then k else h.2.1 b) = k
    rw [if_neg (by omega), if_pos ⟨h1, h2⟩]
theorem nm2_z (h : AH) (n k j : Nat) {b : Nat} (hb : jx h ≤ b ∧ b ≤ jx h + n) : ji (nm2 h n k) b j = 0 ∧ jl (nm2 h n k) b j = 0 := ⟨if_pos hb, if_pos hb⟩
theorem nm2_r (h : AH) (n k j : Nat) (hj : j < n) : jr (nm2 h n k) (jx h) j = jx h + 1 + j := by
  show (if jx h = jx h then (if j < n then jx h + 1 + j else 0) else _) = _
  rw [if_pos rfl, if_pos hj]
/-- the heap behind the instruction -/
theorem mul_M {H G : Heap} {N M : Nat} {cA comp cc : ClassId} {kA kC : Class} (hM : jM D s H h) (hN : N ≤ 1000) (hMk : M ≤ 1000) (hkA : s.vm.classes[cA]? = some kA) (hkindA : kA.kind = .array comp (.array .long)) (hkC : s.vm.classes[comp]? = some kC) (hkindC : kC.kind = .array cc .long) (hG : mulAt cA comp N M H.size H N G) : jM D s G (nm2 h N M) := by
  obtain ⟨g1, g2, g3, g4⟩ := hG
  have hx := hM.2.1.2
  have hsz := hM.2.1.1
  have r0 : r32 0 ∧ r64 0 := ⟨r32_0, by unfold r64; omega⟩
  refine hM.upd (fun b => jx h ≤ b ∧ b ≤ jx h + N) (fun b hb => nm2_eq hb) (fun b hb => ?_) (by rw [g1, hsz]; show _ = _ + (jx h + 1 + N - 32); omega) (by show jx h ≤ jx h + 1 + N; omega) (fun q hq _ => g4 q hq)
  refine ⟨by omega, ?_, ?_, by show b < jx h + 1 + N; omega, fun j => by rw [(nm2_z h N M j hb).1, (nm2_z h N M j hb).2]; exact r0⟩
  · by_cases e0 : b = jx h
    · subst e0
      obtain ⟨t1, t2⟩ := nm2_t0 h N M
      unfold jC
      rw [t1, t2, hM.next]
      refine ⟨fun t => by omega, fun _ _ => ⟨_, g2, ⟨fun k q => (by cases q), kA, hkA, comp, hkindA⟩, (fun q => by cases q), ⟨Nat.le_of_eq (arrV_size _ _ _).symm, by rw [arrV_size]⟩, by omega, fun k hk => ?_, fun t => by omega⟩, fun t => by omega⟩
      rw [arrV_read _ _ hk]
      show some (mulR H.size N k) = some (jVp D (jr (nm2 h N M) (jx h) k))
      rw [nm2_r h N M k hk, jVp_2 (by omega), jA_new (by omega)]
      unfold mulR
      rw [if_pos hk, hsz, show D.2.2.2.2 + (jx h - 32) + 1 + k = D.2.2.2.2 + (jx h + 1 + k - 32) by omega]
    · obtain ⟨t1, t2⟩ := nm2_t1 h N M (b := b) (by omega) (by omega)
      have ea : jA D b = H.size + 1 + (b - (jx h + 1)) := by rw [jA_new (by omega), hsz]; omega
      unfold jC
      rw [t1, t2, ea]
      refine ⟨fun t => by omega, fun _ _ => ⟨_, g3 _ (by omega), ⟨fun k q => (by cases q), kC, hkC, cc, hkindC⟩, (fun q => by cases q), ⟨Nat.le_of_eq (arrV_size _ _ _).symm, by rw [arrV_size]⟩, by omega, fun k hk => ?_, fun t => by omega⟩, fun t => by omega⟩
      rw [arrV_read _ _ hk]
      show some (Value.long 0) = some (Value.long (Int64.ofInt (jl (nm2 h N M) b k)))
      rw [(nm2_z h N M k hb).2]
      rfl
  · by_cases e0 : b = jx h
    · rw [e0, (nm2_t0 h N M).1]; omega
    · rw [(nm2_t1 h N M (b := b) (by omega) (by omega)).1]; omega
set_option maxHeartbeats 4000000 in
theorem st_multi (hX : jX D p s m args meth c y) (ho : (mT y).2.2.2.2.1 = 3) (hKm : ∀ pc loc stk h, K pc loc stk h → jx h - x0 ≤ R.cells ∧ ju h - u0 ≤ R.slots) (hd : decode (mT y).2.1 pc = .ok (.multianewarray 9 2, 4)) (hS : jS cl (.multianewarray 6 2) pc 4 loc stk h K Rt) (hK : ∀ pc loc stk h, K pc loc stk h → jG D p l e R s m args below meth c Q x0 u0 pc loc stk h) : jG D p l e R s m args below meth c Q x0 u0 pc loc stk h := by
  intro H ls locs hM hL hs hl hq hx0 hu0
  obtain ⟨k, r, rfl, hS⟩ := s1I_e hS
  obtain ⟨n, r, rfl, n0, n1, k0, k1, hS⟩ := s1I_e hS
  obtain ⟨hk, hs⟩ := List.forall_mem_cons.mp hs
  obtain ⟨hn, hs⟩ := List.forall_mem_cons.mp hs
  have hk : r32 k := hk
  have hn : r32 n := hn
  obtain ⟨rc, rs⟩ := hKm _ _ _ _ hS
  have rc : jx h + 1 + n.toNat - x0 ≤ R.cells := rc
  have rs : ju h + n.toNat + n.toNat * k.toNat - u0 ≤ R.slots := rs
  have en := I_clamp hn n0
  have ek := I_clamp hk k0
  have hn' : ¬ Int32.ofInt n < 0 := by rw [← I_0, I_lt hn r32_0]; omega
  have hk' : ¬ Int32.ofInt k < 0 := by rw [← I_0, I_lt hk r32_0]; omega
  intro T hT X
  subst hT
  have hown : s.vm.findClass RX3 = some m.cls := by
    have := hX.2.2.2.1
    rw [ho] at this
    exact this
  have hpl : e.platform.magicAccessors = ({} : Platform).magicAccessors := by rw [X.admits.platform]
  obtain ⟨comp, cA, kA, hcomp, hkA, hkindA, hnameA⟩ := hX.2.2.2.2.2.2.2.2.2.2.2.2.2.2
  obtain ⟨comp2, kC, cc, hcomp2, hkC, hkindC⟩ := Cond.arrayClass_spec (hX.2.2.2.2.1 _ (arr_word (t := .long) (by decide)))
  have ecomp : comp2 = comp := Option.some.inj (hcomp2.symm.trans hcomp)
  subst ecomp
  obtain ⟨c0, hfc0, hcl⟩ := Cond.classLink_spec hown (hX.2.2.2.2.1 _ mul_word) e.platform hpl
  cases hnameA.symm.trans hfc0
  obtain ⟨hg1, hwarm1, hready1⟩ := State.classEntry (e := e) X.warmed hcl
  generalize T.vm.noted m.cls 9 (.cls cA) = vm1 at hg1 hwarm1 hready1
  have hal : s.vm.Alike vm1 := hwarm1.alike
  obtain ⟨kA1, hkA1, heA⟩ := hal.2.2 _ _ hkA
  obtain ⟨kC1, hkC1, heC⟩ := hal.2.2 _ _ hkC
  have X1 := X.noted hwarm1
  have hcells : (jx h - x0) + (1 + n.toNat) ≤ R.cells := by omega
  have hslots : (ju h - u0) + (n.toNat + n.toNat * k.toNat) ≤ R.slots := by omega
  obtain ⟨hr1, hr2⟩ := X.roomAbove hcells hslots
  obtain ⟨L, hLb, X2⟩ := mfl_stand X1 cA comp2 n.toNat k.toNat n.toNat
  obtain ⟨hat, -, -⟩ := mfl_at (T.setVm vm1) cA comp2 n.toNat k.toNat n.toNat
  have hM2 : jM D s (mfl (T.setVm vm1) cA comp2 n.toNat k.toNat n.toNat).heap (nm2 h n.toNat k.toNat) := mul_M hM (by omega) (by omega) hkA hkindA hkC hkindC hat
  have e1 : jx (nm2 h n.toNat k.toNat) - x0 = (jx h - x0) + 1 + n.toNat := by show jx h + 1 + n.toNat - x0 = _; omega
  have e2 : ju (nm2 h n.toNat k.toNat) - u0 = (ju h - u0) + n.toNat + n.toNat * k.toNat := by show ju h + n.toNat + n.toNat * k.toNat - u0 = _; omega
  have gg := hK _ _ _ _ hS _ ls (locs ++ L) hM2 hL (List.forall_mem_cons.mpr ⟨trivial, hs⟩) hl (fun q hq2 => by
    rcases List.mem_append.mp hq2 with q1 | q1
    · exact hq q q1
    · rw [hLb q q1]
      show D.2.2.2.2 ≤ T.heap.size
      rw [hM.2.1.1]; omega) (by show x0 ≤ jx h + 1 + n.toNat; omega) (by show u0 ≤ ju h + n.toNat + n.toNat * k.toNat; omega)
  rw [e1, e2, List.map_cons, show jV D (jP (jx h)) = .ref T.heap.size by rw [← hM.next]; exact jVp_2 (by have := hM.2.1.2; omega)] at gg
  obtain ⟨t, a1, b1⟩ := gg _ rfl X2
  refine ⟨t, ?_, b1⟩
  have hl1 : ¬ (Int32.ofInt n).toNatClampNeg > e.platform.arrayLengthLimit := by rw [Launch.admits_arrayLengthLimit X.admits, en]; omega
  have hh1 : ¬ (Int32.ofInt n).toNatClampNeg * componentBytes (.array .long) > e.platform.maxHeapBytes := by rw [Launch.admits_maxHeapBytes X.admits, en]; show ¬ n.toNat * 4 > 536870912; omega
  have hl2 : ¬ (Int32.ofInt k).toNatClampNeg > e.platform.arrayLengthLimit := by rw [Launch.admits_arrayLengthLimit X.admits, ek]; omega
  have hh2 : ¬ (Int32.ofInt k).toNatClampNeg * componentBytes .long > e.platform.maxHeapBytes := by rw [Launch.admits_maxHeapBytes X.admits, ek]; show ¬ k.toNat * 8 > 536870912; omega
  have hdc : decode c.code pc = .ok (.multianewarray 9 2, 4) := by rw [hX.2.1]; exact hd
  jvm_step X.here [hX.1, hdc]
  simp only [multianewarray.sem, wp_bind', W.resolveClassAt_links (State.method?_setTop (F0 m pc ls (jV D (jI k) :: jV D (jI n) :: List.map (jV D) r)) X.here.top) hg1]
  rw [W.popN, if_neg (by decide)]
  refine ⟨_, State.topJava?_setTop' (s := T.setVm vm1) _ X.here.top, [.int (Int32.ofInt n), .int (Int32.ofInt k)], r.map (jV D), rfl, rfl, ?_⟩
  simp only [List.mapM_cons, List.mapM_nil, wp_bind', wp_pure']
  refine mul_wp (kA := kA1) (kC := kC1) (comp := comp2) (cc := cc) hkA1 (by rw [heA]; exact hkindA) hkC1 (by rw [heC]; exact hkindC) hn' hk' hl1 hh1 hl2 hh2 (by rw [en]; show T.heap.size + 1 + _ ≤ _; omega) (by rw [en, ek]; show T.slotsUsed + _ + _ ≤ _; omega) (fun d' acts' => ?_)
  rw [en, ek]
  have eS : ((T.setTop (F0 m pc ls (jV D (jI k) :: jV D (jI n) :: List.map (jV D) r))).setVm vm1).setTop { method := m, pc := pc, locals := ls, stack := List.map (jV D) r, locked := none } = (T.setVm vm1).setTop { method := m, pc := pc, locals := ls, stack := List.map (jV D) r, locked := none } := by
    show ((T.setVm vm1).setTop _).setTop _ = _
    rw [State.setTop_setTop]
  rw [eS, mfl_top]
  simp only [wp_bind', W.mark, W.pushRef, State.topJava?_setTop' _ X2.here.top, Option.some.injEq, exists_eq_left', State.setTop_setTop, State.heap_setTop]
  intro acts
  simp [jvm, X2.here.top]
  exact a1
end MUL
