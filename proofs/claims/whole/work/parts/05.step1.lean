/-! ONE STEP OF THE MACHINE FOR ONE OF THE ABSTRACT ONE: constants, locals, numbers, branches -/
def jX (D : jD) (p : Program) (s : State) (m : MethodId) (args : Array Value) (meth : Method) (c : Code) (y : Nat) : Prop :=
  p.tables.exec = Jvm.exec ∧ c.code = (mT y).2.1 ∧ c.maxLocals = (mT y).2.2.1 ∧ s.vm.findClass (oR (mT y).2.2.2.2.1) = some m.cls ∧ (∀ w ∈ gw, w.before args s = true) ∧
  va_K (D.2.2.1, D.2.2.2.1) vwCl [] s ∧ meth.sig.returnType = (mT y).2.2.2.1 ∧ meth.locks = false ∧ ((mT y).2.2.2.2.2.2 = 2 → meth.name = "<init>") ∧ jStr D s
def jLo (D : jD) (ls : Array Slot) (loc : List AV) : Prop := ls.size = loc.length ∧ lv_wf ls ∧ ∀ (i : Nat) (v : AV), loc[i]? = some v → ¬ v = jU → ls[i]? = some (.val (jV D v))
/-- from here the machine comes to Q, whatever heap and locals match -/
def jG (D : jD) (p : Program) (l : Launch) (e : Env) (R : Room) (s : State) (m : MethodId) (args : Array Value) (below : List Frame) (meth : Method) (c : Code) (Q : State → Prop) (x0 u0 : Nat) (pc : Nat) (loc stk : List AV) (h : AH) : Prop :=
  ∀ (H : Heap) (ls : Array Slot) (locs : List Loc), jM D s H h → jLo D ls loc → (∀ v ∈ stk, vok v) → (∀ v ∈ loc, vok v) → (∀ q ∈ locs, D.2.2.2.2 ≤ q.base) → x0 ≤ jx h → u0 ≤ ju h →
    W p l e R s m args below meth c H locs (jx h - x0) (ju h - u0) Q (F0 m pc ls (stk.map (jV D)))
theorem jVp_or {D : jD} (hf : jfv D) (a : Nat) : jVp D a = .null ∨ ∃ q, jVp D a = .ref q := by
  unfold jVp
  split
  · exact Or.inl rfl
  · split
    · exact hf
    · exact Or.inr ⟨_, rfl⟩
theorem jVp_2 {D : jD} {a : Nat} (h : 2 ≤ a) : jVp D a = .ref (jA D a) := by
  unfold jVp
  rw [if_neg (by omega), if_neg (by omega)]
theorem jV_cat {D : jD} (hf : jfv D) (v : AV) : (jV D v).category = jcat v := by
  match v with
  | .inl x => rfl
  | .inr (.inl x) => rfl
  | .inr (.inr (.inl a)) =>
    show (jVp D a).category = 1
    rcases jVp_or hf a with h | ⟨q, h⟩ <;> rw [h] <;> rfl
  | .inr (.inr (.inr u)) => rfl
theorem jM.fv {D : jD} {U : State} {H : Heap} {h : AH} (hM : jM D U H h) : jfv D := hM.2.2.2.2.2
/-- the tag tells that the address is no null -/
theorem jM.two {D : jD} {U : State} {H : Heap} {h : AH} (hM : jM D U H h) {a : Nat} (ha : ¬ jt h a = 0) : 2 ≤ a := by
  rcases hM.2.2.1 a ha with ⟨q, -⟩ | ⟨q, -⟩ <;> omega
theorem jM.ref {D : jD} {U : State} {H : Heap} {h : AH} (hM : jM D U H h) {a : Nat} (ha : ¬ jt h a = 0) : jV D (jP a) = .ref (jA D a) := jVp_2 (hM.two ha)
theorem jM.new {D : jD} {U : State} {H : Heap} {h : AH} (hM : jM D U H h) {a : Nat} (ha : ¬ jt h a = 0) (h40 : jt h a < 40) : 32 ≤ a ∧ a < jx h := by
  rcases hM.2.2.1 a ha with ⟨-, -, q, -⟩ | ⟨q1, q2, -⟩
  · omega
  · exact ⟨q1, q2⟩
def lvl (D : jD) (loc : List AV) : List (Nat × Value) := (List.range loc.length).filterMap (fun i => if loc.getD i jU = jU then none else some (i, jV D (loc.getD i jU)))
theorem lvl_in {D : jD} {loc : List AV} {q : Nat × Value} : q ∈ lvl D loc ↔ ∃ v, loc[q.1]? = some v ∧ ¬ v = jU ∧ q.2 = jV D v := by
  unfold lvl
  rw [List.mem_filterMap]
  constructor
  · rintro ⟨i, hi, he⟩
    have hi := List.mem_range.mp hi
    split at he
    · cases he
    · cases he
      refine ⟨loc.getD i jU, ?_, by assumption, rfl⟩
      show loc[i]? = _
      rw [List.getD_eq_getElem?_getD, List.getElem?_eq_getElem hi]; rfl
  · rintro ⟨v, h1, h2, h3⟩
    have hi : q.1 < loc.length := (List.getElem?_eq_some_iff.mp h1).1
    refine ⟨q.1, List.mem_range.mpr hi, ?_⟩
    have hg : loc.getD q.1 jU = v := by rw [List.getD_eq_getElem?_getD, h1]; rfl
    rw [hg, if_neg h2, ← h3]
theorem jLo.has {D : jD} {ls : Array Slot} {loc : List AV} (h : jLo D ls loc) : lv_has ls loc.length (lvl D loc) := by
  refine ⟨h.1, h.2.1, fun q hq => ?_⟩
  obtain ⟨v, h1, h2, h3⟩ := lvl_in.mp hq
  rw [h3]
  exact h.2.2 _ _ h1 h2
theorem lset_len (i : Nat) (v : AV) (loc : List AV) : (lset i v loc).length = loc.length := by simp [lset]
theorem lset_get {i : Nat} {v w : AV} {loc : List AV} {j : Nat} (hi : i < loc.length) (h : (lset i v loc)[j]? = some w) (hw : ¬ w = jU) : (j = i ∧ w = v) ∨ (j ≠ i ∧ loc[j]? = some w ∧ (j + 1 = i → isL w = false)) := by
  unfold lset at h
  rw [List.getElem?_set] at h
  split at h
  · rename_i e
    subst e
    simp [hi] at h
    exact Or.inl ⟨rfl, h.symm⟩
  · rename_i e
    rw [List.getElem?_set] at h
    split at h
    · rename_i e2
      subst e2
      split at h
      · have h := Option.some.inj h
        have hc : ¬ isL (loc.getD (i - 1) jU) = true := fun q => hw (by rw [← h, clrL, if_pos q])
        have hw2 : loc.getD (i - 1) jU = w := by rw [← h, clrL, if_neg hc]
        refine Or.inr ⟨fun q => e q.symm, ?_, fun _ => by rw [← hw2]; simpa using hc⟩
        have hl : i - 1 < loc.length := by omega
        rw [← hw2, List.getD_eq_getElem?_getD, List.getElem?_eq_getElem hl]; rfl
      · cases h
    · rename_i e2
      exact Or.inr ⟨fun q => e q.symm, h, fun q => absurd (show i - 1 = j by omega) e2⟩
theorem jLo.set1 {D : jD} (hf : jfv D) {ls : Array Slot} {loc : List AV} {i : Nat} {v : AV} (hi : i < loc.length) (h : lv_has ls loc.length ((i, jV D v) :: (lvl D loc).filter (fun q => !(q.1 == i) && !(q.1 + 1 == i && q.2.category == 2)))) : jLo D ls (lset i v loc) := by
  refine ⟨by rw [lset_len]; exact h.1, h.2.1, fun j w hw hu => ?_⟩
  rcases lset_get hi hw hu with ⟨rfl, rfl⟩ | ⟨q1, q2, q3⟩
  · exact h.2.2 (j, jV D w) List.mem_cons_self
  · refine h.2.2 (j, jV D w) (List.mem_cons_of_mem _ (List.mem_filter.mpr ⟨lvl_in.mpr ⟨w, q2, hu, rfl⟩, ?_⟩))
    by_cases e : j + 1 = i
    · have hc : (jV D w).category = 1 := by rw [jV_cat hf, jcat, q3 e]; rfl
      simp [q1, hc]
    · simp [q1, e]
theorem jLo.set2 {D : jD} (hf : jfv D) {ls : Array Slot} {loc : List AV} {i : Nat} {v : AV} (hi : i + 1 < loc.length) (h : lv_has ls loc.length ((i, jV D v) :: (lvl D loc).filter (fun q => !(q.1 == i) && (!(q.1 == i + 1) && !(q.1 + 1 == i && q.2.category == 2))))) : jLo D ls (lset2 i v loc) := by
  refine ⟨by rw [lset2, List.length_set, lset_len]; exact h.1, h.2.1, fun j w hw hu => ?_⟩
  have hj : j ≠ i + 1 := by
    rintro rfl
    rw [lset2, List.getElem?_set_self (by rw [lset_len]; exact hi)] at hw
    exact hu (Option.some.inj hw).symm
  rw [lset2, List.getElem?_set_ne (fun q => hj q.symm)] at hw
  rcases lset_get (by omega) hw hu with ⟨rfl, rfl⟩ | ⟨q1, q2, q3⟩
  · exact h.2.2 (j, jV D w) List.mem_cons_self
  · refine h.2.2 (j, jV D w) (List.mem_cons_of_mem _ (List.mem_filter.mpr ⟨lvl_in.mpr ⟨w, q2, hu, rfl⟩, ?_⟩))
    by_cases e : j + 1 = i
    · have hc : (jV D w).category = 1 := by rw [jV_cat hf, jcat, q3 e]; rfl
      simp [q1, hj, hc]
    · simp [q1, hj, e]
theorem lset_ok {i : Nat} {v : AV} {loc : List AV} (hv : vok v) (hl : ∀ w ∈ loc, vok w) : ∀ w ∈ lset i v loc, vok w := by
  intro w hw
  unfold lset at hw
  rcases List.mem_or_eq_of_mem_set hw with hw | rfl
  · rcases List.mem_or_eq_of_mem_set hw with hw | rfl
    · exact hl w hw
    · unfold clrL
      split
      · trivial
      · rw [List.getD_eq_getElem?_getD]
        cases hq : loc[i - 1]? with
        | none => trivial
        | some u => exact hl u (List.mem_of_getElem? hq)
  · exact hv
theorem lset2_ok {i : Nat} {v : AV} {loc : List AV} (hv : vok v) (hl : ∀ w ∈ loc, vok w) : ∀ w ∈ lset2 i v loc, vok w := by
  intro w hw
  rcases List.mem_or_eq_of_mem_set hw with hw | rfl
  · exact lset_ok hv hl w hw
  · trivial
theorem loc_get {D : jD} {ls : Array Slot} {loc : List AV} {i : Nat} {v : AV} (h : jLo D ls loc) (hv : loc.getD i jU = v) (hu : ¬ v = jU) : ls[i]? = some (.val (jV D v)) ∧ v ∈ loc := by
  rw [List.getD_eq_getElem?_getD] at hv
  cases hq : loc[i]? with
  | none => rw [hq] at hv; exact absurd hv.symm hu
  | some w =>
    rw [hq] at hv
    have hv : w = v := hv
    subst hv
    exact ⟨h.2.2 i w hq hu, List.mem_of_getElem? hq⟩
section ST1
variable {D : jD} {p : Program} {l : Launch} {e : Env} {R : Room} {s : State} {m : MethodId} {args : Array Value} {below : List Frame} {meth : Method} {c : Code} {Q : State → Prop} {x0 u0 y : Nat}
variable {cl : Nat → List AV → AH → Option AV → AH → Prop} {K : Nat → List AV → List AV → AH → Prop} {Rt : Option AV → AH → Prop} {pc len : Nat} {loc stk : List AV} {h : AH}
theorem st_iconst (hX : jX D p s m args meth c y) {v : Int} (hd : decode (mT y).2.1 pc = .ok (.iconst v, 1)) (hS : jS cl (.sipush v) pc 1 loc stk h K Rt) (hK : ∀ pc loc stk h, K pc loc stk h → jG D p l e R s m args below meth c Q x0 u0 pc loc stk h) : jG D p l e R s m args below meth c Q x0 u0 pc loc stk h := by
  intro H ls locs hM hL hs hl hq hx0 hu0
  refine lv_iconst hX.1 hX.2.1 hd rfl ?_
  exact hK _ _ _ _ hS.2 H ls locs hM hL (List.forall_mem_cons.mpr ⟨hS.1, hs⟩) hl hq hx0 hu0
theorem st_bipush (hX : jX D p s m args meth c y) {v : Int} (hv : -128 ≤ v ∧ v ≤ 127) (hd : decode (mT y).2.1 pc = .ok (.bipush v, 2)) (hS : jS cl (.sipush v) pc 2 loc stk h K Rt) (hK : ∀ pc loc stk h, K pc loc stk h → jG D p l e R s m args below meth c Q x0 u0 pc loc stk h) : jG D p l e R s m args below meth c Q x0 u0 pc loc stk h := by
  intro H ls locs hM hL hs hl hq hx0 hu0
  refine lv_bipush (v := Int32.ofInt v) hX.1 hX.2.1 hd ?_ ?_
  · rw [← Int32.toInt_inj, Int8.toInt_toInt32, Int8.toInt_ofInt_of_le (by omega) (by omega), I_to hS.1]
  · exact hK _ _ _ _ hS.2 H ls locs hM hL (List.forall_mem_cons.mpr ⟨hS.1, hs⟩) hl hq hx0 hu0
theorem st_sipush (hX : jX D p s m args meth c y) {v : Int} (hv : -32768 ≤ v ∧ v ≤ 32767) (hd : decode (mT y).2.1 pc = .ok (.sipush v, 3)) (hS : jS cl (.sipush v) pc 3 loc stk h K Rt) (hK : ∀ pc loc stk h, K pc loc stk h → jG D p l e R s m args below meth c Q x0 u0 pc loc stk h) : jG D p l e R s m args below meth c Q x0 u0 pc loc stk h := by
  intro H ls locs hM hL hs hl hq hx0 hu0
  refine lv_sipush (v := Int32.ofInt v) hX.1 hX.2.1 hd ?_ ?_
  · rw [← Int32.toInt_inj, Int16.toInt_toInt32, Int16.toInt_ofInt_of_le (by omega) (by omega), I_to hS.1]
  · exact hK _ _ _ _ hS.2 H ls locs hM hL (List.forall_mem_cons.mpr ⟨hS.1, hs⟩) hl hq hx0 hu0
theorem st_ldc (hX : jX D p s m args meth c y) {v : Int} {ix : Nat} (hw : Jvm.Cond.constant (oR (mT y).2.2.2.2.1) ix (Int32.ofInt v) ∈ gw) (hd : decode (mT y).2.1 pc = .ok (.ldc ix, 2)) (hS : jS cl (.sipush v) pc 2 loc stk h K Rt) (hK : ∀ pc loc stk h, K pc loc stk h → jG D p l e R s m args below meth c Q x0 u0 pc loc stk h) : jG D p l e R s m args below meth c Q x0 u0 pc loc stk h := by
  intro H ls locs hM hL hs hl hq hx0 hu0
  refine lv_ldc hX.1 hX.2.1 hX.2.2.2.1 (hX.2.2.2.2.1 _ hw) hd ?_
  exact hK _ _ _ _ hS.2 H ls locs hM hL (List.forall_mem_cons.mpr ⟨hS.1, hs⟩) hl hq hx0 hu0
theorem st_ldcw (hX : jX D p s m args meth c y) {v : Int} {ix : Nat} (hw : Jvm.Cond.constant (oR (mT y).2.2.2.2.1) ix (Int32.ofInt v) ∈ gw) (hd : decode (mT y).2.1 pc = .ok (.ldc_w ix, 3)) (hS : jS cl (.sipush v) pc 3 loc stk h K Rt) (hK : ∀ pc loc stk h, K pc loc stk h → jG D p l e R s m args below meth c Q x0 u0 pc loc stk h) : jG D p l e R s m args below meth c Q x0 u0 pc loc stk h := by
  intro H ls locs hM hL hs hl hq hx0 hu0
  refine lv_ldcw hX.1 hX.2.1 hX.2.2.2.1 (hX.2.2.2.2.1 _ hw) hd ?_
  exact hK _ _ _ _ hS.2 H ls locs hM hL (List.forall_mem_cons.mpr ⟨hS.1, hs⟩) hl hq hx0 hu0
theorem st_ldc2 (hX : jX D p s m args meth c y) {v : Int} {ix : Nat} (hw : Jvm.Cond.constantLong (oR (mT y).2.2.2.2.1) ix (Int64.ofInt v) ∈ gw) (hd : decode (mT y).2.1 pc = .ok (.ldc2_w ix, 3)) (hS : jS cl (.jsr_w v) pc 3 loc stk h K Rt) (hK : ∀ pc loc stk h, K pc loc stk h → jG D p l e R s m args below meth c Q x0 u0 pc loc stk h) : jG D p l e R s m args below meth c Q x0 u0 pc loc stk h := by
  intro H ls locs hM hL hs hl hq hx0 hu0
  refine lv_ldc2 hX.1 hX.2.1 hX.2.2.2.1 (hX.2.2.2.2.1 _ hw) hd ?_
  exact hK _ _ _ _ hS.2 H ls locs hM hL (List.forall_mem_cons.mpr ⟨hS.1, hs⟩) hl hq hx0 hu0
theorem st_lconst (hX : jX D p s m args meth c y) {n : Fin 2} (hd : decode (mT y).2.1 pc = .ok (.lconst n, 1)) (hS : jS cl (.jsr_w (n.val : Int)) pc 1 loc stk h K Rt) (hK : ∀ pc loc stk h, K pc loc stk h → jG D p l e R s m args below meth c Q x0 u0 pc loc stk h) : jG D p l e R s m args below meth c Q x0 u0 pc loc stk h := by
  intro H ls locs hM hL hs hl hq hx0 hu0
  refine lv_lconst (v := Int64.ofInt (n.val : Int)) hX.1 hX.2.1 hd (by rw [Int64.ofInt_eq_ofNat]) ?_
  exact hK _ _ _ _ hS.2 H ls locs hM hL (List.forall_mem_cons.mpr ⟨hS.1, hs⟩) hl hq hx0 hu0
theorem st_null (hX : jX D p s m args meth c y)  (hd : decode (mT y).2.1 pc = .ok (.aconst_null, 1)) (hS : jS cl (.jsr 0) pc 1 loc stk h K Rt) (hK : ∀ pc loc stk h, K pc loc stk h → jG D p l e R s m args below meth c Q x0 u0 pc loc stk h) : jG D p l e R s m args below meth c Q x0 u0 pc loc stk h := by
  intro H ls locs hM hL hs hl hq hx0 hu0
  refine lv_null hX.1 hX.2.1 hd ?_
  exact hK _ _ _ _ hS H ls locs hM hL (List.forall_mem_cons.mpr ⟨trivial, hs⟩) hl hq hx0 hu0
theorem st_ldcS (hX : jX D p s m args meth c y) {a ix : Nat} (ha : 2 ≤ a) (hw : ∃ tx, ((oR (mT y).2.2.2.2.1), ix, tx, a) ∈ strL) (hd : decode (mT y).2.1 pc = .ok (.ldc ix, 2)) (hS : jS cl (.jsr (a : Int)) pc 2 loc stk h K Rt) (hK : ∀ pc loc stk h, K pc loc stk h → jG D p l e R s m args below meth c Q x0 u0 pc loc stk h) : jG D p l e R s m args below meth c Q x0 u0 pc loc stk h := by
  intro H ls locs hM hL hs hl hq hx0 hu0
  obtain ⟨tx, hmem⟩ := hw
  have hz := hX.2.2.2.2.2.2.2.2.2.1 _ hmem
  refine va_ldcS hX.1 hX.2.1 hX.2.2.2.1 hz hd ?_
  have hS : K (pc + 2) loc (jP a :: stk) h := hS
  have g := hK _ _ _ _ hS H ls locs hM hL (List.forall_mem_cons.mpr ⟨trivial, hs⟩) hl hq hx0 hu0
  rw [List.map_cons, show jV D (jP a) = .ref (jA D a) from jVp_2 ha] at g
  exact g
theorem st_iload_n (hX : jX D p s m args meth c y) {n : Fin 4} (hd : decode (mT y).2.1 pc = .ok (.iload_n n, 1)) (hS : jS cl (.iload n.val) pc 1 loc stk h K Rt) (hK : ∀ pc loc stk h, K pc loc stk h → jG D p l e R s m args below meth c Q x0 u0 pc loc stk h) : jG D p l e R s m args below meth c Q x0 u0 pc loc stk h := by
  intro H ls locs hM hL hs hl hq hx0 hu0
  obtain ⟨x, r, he, hS⟩ := s1I_e hS
  obtain ⟨g1, g2⟩ := loc_get hL (List.cons.inj he).1 (by simp)
  refine lv_iload_n hX.1 hX.2.1 hd rfl g1 ?_
  exact hK _ _ _ _ hS H ls locs hM hL (List.forall_mem_cons.mpr ⟨hl _ g2, hs⟩) hl hq hx0 hu0
theorem st_iload (hX : jX D p s m args meth c y) {i : Nat} (hd : decode (mT y).2.1 pc = .ok (.iload i, 2)) (hS : jS cl (.iload i) pc 2 loc stk h K Rt) (hK : ∀ pc loc stk h, K pc loc stk h → jG D p l e R s m args below meth c Q x0 u0 pc loc stk h) : jG D p l e R s m args below meth c Q x0 u0 pc loc stk h := by
  intro H ls locs hM hL hs hl hq hx0 hu0
  obtain ⟨x, r, he, hS⟩ := s1I_e hS
  obtain ⟨g1, g2⟩ := loc_get hL (List.cons.inj he).1 (by simp)
  refine lv_iload hX.1 hX.2.1 hd  g1 ?_
  exact hK _ _ _ _ hS H ls locs hM hL (List.forall_mem_cons.mpr ⟨hl _ g2, hs⟩) hl hq hx0 hu0
theorem st_lload_n (hX : jX D p s m args meth c y) {n : Fin 4} (hd : decode (mT y).2.1 pc = .ok (.lload_n n, 1)) (hS : jS cl (.lload n.val) pc 1 loc stk h K Rt) (hK : ∀ pc loc stk h, K pc loc stk h → jG D p l e R s m args below meth c Q x0 u0 pc loc stk h) : jG D p l e R s m args below meth c Q x0 u0 pc loc stk h := by
  intro H ls locs hM hL hs hl hq hx0 hu0
  obtain ⟨x, r, he, hS⟩ := s1L_e hS
  obtain ⟨g1, g2⟩ := loc_get hL (List.cons.inj he).1 (by simp)
  refine lv_lload_n hX.1 hX.2.1 hd rfl g1 ?_
  exact hK _ _ _ _ hS H ls locs hM hL (List.forall_mem_cons.mpr ⟨hl _ g2, hs⟩) hl hq hx0 hu0
theorem st_lload (hX : jX D p s m args meth c y) {i : Nat} (hd : decode (mT y).2.1 pc = .ok (.lload i, 2)) (hS : jS cl (.lload i) pc 2 loc stk h K Rt) (hK : ∀ pc loc stk h, K pc loc stk h → jG D p l e R s m args below meth c Q x0 u0 pc loc stk h) : jG D p l e R s m args below meth c Q x0 u0 pc loc stk h := by
  intro H ls locs hM hL hs hl hq hx0 hu0
  obtain ⟨x, r, he, hS⟩ := s1L_e hS
  obtain ⟨g1, g2⟩ := loc_get hL (List.cons.inj he).1 (by simp)
  refine lv_lload hX.1 hX.2.1 hd  g1 ?_
  exact hK _ _ _ _ hS H ls locs hM hL (List.forall_mem_cons.mpr ⟨hl _ g2, hs⟩) hl hq hx0 hu0
theorem st_aload_n (hX : jX D p s m args meth c y) {n : Fin 4} (hd : decode (mT y).2.1 pc = .ok (.aload_n n, 1)) (hS : jS cl (.aload n.val) pc 1 loc stk h K Rt) (hK : ∀ pc loc stk h, K pc loc stk h → jG D p l e R s m args below meth c Q x0 u0 pc loc stk h) : jG D p l e R s m args below meth c Q x0 u0 pc loc stk h := by
  intro H ls locs hM hL hs hl hq hx0 hu0
  obtain ⟨x, r, he, hS⟩ := s1P_e hS
  obtain ⟨g1, g2⟩ := loc_get hL (List.cons.inj he).1 (by simp)
  have g := hK _ _ _ _ hS H ls locs hM hL (List.forall_mem_cons.mpr ⟨trivial, hs⟩) hl hq hx0 hu0
  rw [List.map_cons] at g
  have e0 : jV D (jP x) = jVp D x := rfl
  rw [e0] at g g1
  rcases jVp_or hM.fv x with e1 | ⟨q, e1⟩
  · rw [e1] at g g1; exact lv_aload_nN hX.1 hX.2.1 hd rfl g1 g
  · rw [e1] at g g1; exact lv_aload_n hX.1 hX.2.1 hd rfl g1 g
theorem st_aload (hX : jX D p s m args meth c y) {i : Nat} (hd : decode (mT y).2.1 pc = .ok (.aload i, 2)) (hS : jS cl (.aload i) pc 2 loc stk h K Rt) (hK : ∀ pc loc stk h, K pc loc stk h → jG D p l e R s m args below meth c Q x0 u0 pc loc stk h) : jG D p l e R s m args below meth c Q x0 u0 pc loc stk h := by
  intro H ls locs hM hL hs hl hq hx0 hu0
  obtain ⟨x, r, he, hS⟩ := s1P_e hS
  obtain ⟨g1, g2⟩ := loc_get hL (List.cons.inj he).1 (by simp)
  have g := hK _ _ _ _ hS H ls locs hM hL (List.forall_mem_cons.mpr ⟨trivial, hs⟩) hl hq hx0 hu0
  rw [List.map_cons] at g
  have e0 : jV D (jP x) = jVp D x := rfl
  rw [e0] at g g1
  rcases jVp_or hM.fv x with e1 | ⟨q, e1⟩
  · rw [e1] at g g1; exact lv_aloadN hX.1 hX.2.1 hd  g1 g
  · rw [e1] at g g1; exact lv_aload hX.1 hX.2.1 hd  g1 g
theorem st_istore_n (hX : jX D p s m args meth c y) {n : Fin 4} (hd : decode (mT y).2.1 pc = .ok (.istore_n n, 1)) (hS : jS cl (.istore n.val) pc 1 loc stk h K Rt) (hK : ∀ pc loc stk h, K pc loc stk h → jG D p l e R s m args below meth c Q x0 u0 pc loc stk h) : jG D p l e R s m args below meth c Q x0 u0 pc loc stk h := by
  intro H ls locs hM hL hs hl hq hx0 hu0
  obtain ⟨x, r, rfl, hi, hS⟩ := s1I_e hS
  obtain ⟨hv, hs⟩ := List.forall_mem_cons.mp hs
  refine lv_istore_n hX.1 hX.2.1 hd rfl hL.has hi rfl (fun ls hL2 => ?_)
  exact hK _ _ _ _ hS H ls locs hM (jLo.set1 hM.fv hi hL2) hs (lset_ok hv hl) hq hx0 hu0
theorem st_istore (hX : jX D p s m args meth c y) {i : Nat} (hd : decode (mT y).2.1 pc = .ok (.istore i, 2)) (hS : jS cl (.istore i) pc 2 loc stk h K Rt) (hK : ∀ pc loc stk h, K pc loc stk h → jG D p l e R s m args below meth c Q x0 u0 pc loc stk h) : jG D p l e R s m args below meth c Q x0 u0 pc loc stk h := by
  intro H ls locs hM hL hs hl hq hx0 hu0
  obtain ⟨x, r, rfl, hi, hS⟩ := s1I_e hS
  obtain ⟨hv, hs⟩ := List.forall_mem_cons.mp hs
  refine lv_istore hX.1 hX.2.1 hd  hL.has hi rfl (fun ls hL2 => ?_)
  exact hK _ _ _ _ hS H ls locs hM (jLo.set1 hM.fv hi hL2) hs (lset_ok hv hl) hq hx0 hu0
theorem st_lstore_n (hX : jX D p s m args meth c y) {n : Fin 4} (hd : decode (mT y).2.1 pc = .ok (.lstore_n n, 1)) (hS : jS cl (.lstore n.val) pc 1 loc stk h K Rt) (hK : ∀ pc loc stk h, K pc loc stk h → jG D p l e R s m args below meth c Q x0 u0 pc loc stk h) : jG D p l e R s m args below meth c Q x0 u0 pc loc stk h := by
  intro H ls locs hM hL hs hl hq hx0 hu0
  obtain ⟨x, r, rfl, hi, hS⟩ := s1L_e hS
  obtain ⟨hv, hs⟩ := List.forall_mem_cons.mp hs
  refine lv_lstore_n hX.1 hX.2.1 hd rfl hL.has hi rfl (fun ls hL2 => ?_)
  exact hK _ _ _ _ hS H ls locs hM (jLo.set2 hM.fv hi hL2) hs (lset2_ok hv hl) hq hx0 hu0
theorem st_lstore (hX : jX D p s m args meth c y) {i : Nat} (hd : decode (mT y).2.1 pc = .ok (.lstore i, 2)) (hS : jS cl (.lstore i) pc 2 loc stk h K Rt) (hK : ∀ pc loc stk h, K pc loc stk h → jG D p l e R s m args below meth c Q x0 u0 pc loc stk h) : jG D p l e R s m args below meth c Q x0 u0 pc loc stk h := by
  intro H ls locs hM hL hs hl hq hx0 hu0
  obtain ⟨x, r, rfl, hi, hS⟩ := s1L_e hS
  obtain ⟨hv, hs⟩ := List.forall_mem_cons.mp hs
  refine lv_lstore hX.1 hX.2.1 hd  hL.has hi rfl (fun ls hL2 => ?_)
  exact hK _ _ _ _ hS H ls locs hM (jLo.set2 hM.fv hi hL2) hs (lset2_ok hv hl) hq hx0 hu0
theorem st_astore_n (hX : jX D p s m args meth c y) {n : Fin 4} (hd : decode (mT y).2.1 pc = .ok (.astore_n n, 1)) (hS : jS cl (.astore n.val) pc 1 loc stk h K Rt) (hK : ∀ pc loc stk h, K pc loc stk h → jG D p l e R s m args below meth c Q x0 u0 pc loc stk h) : jG D p l e R s m args below meth c Q x0 u0 pc loc stk h := by
  intro H ls locs hM hL hs hl hq hx0 hu0
  obtain ⟨x, r, rfl, hi, hS⟩ := s1P_e hS
  obtain ⟨hv, hs⟩ := List.forall_mem_cons.mp hs
  have g : ∀ ls, lv_has ls loc.length ((n.val, jV D (jP x)) :: (lvl D loc).filter (fun q => !(q.1 == n.val) && !(q.1 + 1 == n.val && q.2.category == 2))) → _ := fun ls hL2 => hK _ _ _ _ hS H ls locs hM (jLo.set1 hM.fv hi hL2) hs (lset_ok (v := jP x) trivial hl) hq hx0 hu0
  have e0 : jV D (jP x) = jVp D x := rfl
  rw [e0] at g
  rw [List.map_cons, e0]
  rcases jVp_or hM.fv x with e1 | ⟨q, e1⟩
  · rw [e1] at g ⊢; exact lv_astore_nN hX.1 hX.2.1 hd rfl hL.has hi rfl g
  · rw [e1] at g ⊢; exact lv_astore_n hX.1 hX.2.1 hd rfl hL.has hi rfl g
theorem st_astore (hX : jX D p s m args meth c y) {i : Nat} (hd : decode (mT y).2.1 pc = .ok (.astore i, 2)) (hS : jS cl (.astore i) pc 2 loc stk h K Rt) (hK : ∀ pc loc stk h, K pc loc stk h → jG D p l e R s m args below meth c Q x0 u0 pc loc stk h) : jG D p l e R s m args below meth c Q x0 u0 pc loc stk h := by
  intro H ls locs hM hL hs hl hq hx0 hu0
  obtain ⟨x, r, rfl, hi, hS⟩ := s1P_e hS
  obtain ⟨hv, hs⟩ := List.forall_mem_cons.mp hs
  have g : ∀ ls, lv_has ls loc.length ((i, jV D (jP x)) :: (lvl D loc).filter (fun q => !(q.1 == i) && !(q.1 + 1 == i && q.2.category == 2))) → _ := fun ls hL2 => hK _ _ _ _ hS H ls locs hM (jLo.set1 hM.fv hi hL2) hs (lset_ok (v := jP x) trivial hl) hq hx0 hu0
  have e0 : jV D (jP x) = jVp D x := rfl
  rw [e0] at g
  rw [List.map_cons, e0]
  rcases jVp_or hM.fv x with e1 | ⟨q, e1⟩
  · rw [e1] at g ⊢; exact lv_astoreN hX.1 hX.2.1 hd  hL.has hi rfl g
  · rw [e1] at g ⊢; exact lv_astore hX.1 hX.2.1 hd  hL.has hi rfl g
theorem st_iinc (hX : jX D p s m args meth c y) {i : Nat} {n : Int} (hd : decode (mT y).2.1 pc = .ok (.iinc i n, 3)) (hS : jS cl (.iinc i n) pc 3 loc stk h K Rt) (hK : ∀ pc loc stk h, K pc loc stk h → jG D p l e R s m args below meth c Q x0 u0 pc loc stk h) : jG D p l e R s m args below meth c Q x0 u0 pc loc stk h := by
  intro H ls locs hM hL hs hl hq hx0 hu0
  obtain ⟨x, r, he, hi, hS⟩ := s1I_e hS
  obtain ⟨g1, g2⟩ := loc_get hL (List.cons.inj he).1 (by simp)
  have hm : (i, Value.int (Int32.ofInt x)) ∈ lvl D loc := lvl_in.mpr ⟨jI x, by
    have hg := (List.cons.inj he).1
    rw [List.getD_eq_getElem?_getD] at hg
    show loc[i]? = _
    rw [List.getElem?_eq_getElem hi] at hg ⊢
    exact congrArg some hg, by simp, rfl⟩
  obtain ⟨k, hk⟩ := List.getElem?_of_mem hm
  refine lv_iinc (k := k) (v := Int32.ofInt (w32 (x + n))) hX.1 hX.2.1 hd hL.has hk (I_add x n) hi rfl (fun ls hL2 => ?_)
  exact hK _ _ _ _ hS H ls locs hM (jLo.set1 hM.fv (v := jI (w32 (x + n))) hi hL2) hs (lset_ok (v := jI (w32 (x + n))) (w32_r _) hl) hq hx0 hu0
theorem st_iadd (hX : jX D p s m args meth c y)  (hd : decode (mT y).2.1 pc = .ok (.iadd, 1)) (hS : jS cl (.iadd) pc 1 loc stk h K Rt) (hK : ∀ pc loc stk h, K pc loc stk h → jG D p l e R s m args below meth c Q x0 u0 pc loc stk h) : jG D p l e R s m args below meth c Q x0 u0 pc loc stk h := by
  intro H ls locs hM hL hs hl hq hx0 hu0
  obtain ⟨y1, r, rfl, hS⟩ := s1I_e hS
  obtain ⟨x1, r, rfl, hS⟩ := s1I_e hS
  obtain ⟨hy, hs⟩ := List.forall_mem_cons.mp hs
  obtain ⟨hx, hs⟩ := List.forall_mem_cons.mp hs
  refine lv_iadd hX.1 hX.2.1 hd ?_
  rw [I_add]
  exact hK _ _ _ _ hS H ls locs hM hL (List.forall_mem_cons.mpr ⟨w32_r _, hs⟩) hl hq hx0 hu0
theorem st_isub (hX : jX D p s m args meth c y)  (hd : decode (mT y).2.1 pc = .ok (.isub, 1)) (hS : jS cl (.isub) pc 1 loc stk h K Rt) (hK : ∀ pc loc stk h, K pc loc stk h → jG D p l e R s m args below meth c Q x0 u0 pc loc stk h) : jG D p l e R s m args below meth c Q x0 u0 pc loc stk h := by
  intro H ls locs hM hL hs hl hq hx0 hu0
  obtain ⟨y1, r, rfl, hS⟩ := s1I_e hS
  obtain ⟨x1, r, rfl, hS⟩ := s1I_e hS
  obtain ⟨hy, hs⟩ := List.forall_mem_cons.mp hs
  obtain ⟨hx, hs⟩ := List.forall_mem_cons.mp hs
  refine lv_isub hX.1 hX.2.1 hd ?_
  rw [I_sub]
  exact hK _ _ _ _ hS H ls locs hM hL (List.forall_mem_cons.mpr ⟨w32_r _, hs⟩) hl hq hx0 hu0
theorem st_imul (hX : jX D p s m args meth c y)  (hd : decode (mT y).2.1 pc = .ok (.imul, 1)) (hS : jS cl (.imul) pc 1 loc stk h K Rt) (hK : ∀ pc loc stk h, K pc loc stk h → jG D p l e R s m args below meth c Q x0 u0 pc loc stk h) : jG D p l e R s m args below meth c Q x0 u0 pc loc stk h := by
  intro H ls locs hM hL hs hl hq hx0 hu0
  obtain ⟨y1, r, rfl, hS⟩ := s1I_e hS
  obtain ⟨x1, r, rfl, hS⟩ := s1I_e hS
  obtain ⟨hy, hs⟩ := List.forall_mem_cons.mp hs
  obtain ⟨hx, hs⟩ := List.forall_mem_cons.mp hs
  refine lv_imul hX.1 hX.2.1 hd ?_
  rw [I_mul]
  exact hK _ _ _ _ hS H ls locs hM hL (List.forall_mem_cons.mpr ⟨w32_r _, hs⟩) hl hq hx0 hu0
theorem st_idiv (hX : jX D p s m args meth c y)  (hd : decode (mT y).2.1 pc = .ok (.idiv, 1)) (hS : jS cl (.idiv) pc 1 loc stk h K Rt) (hK : ∀ pc loc stk h, K pc loc stk h → jG D p l e R s m args below meth c Q x0 u0 pc loc stk h) : jG D p l e R s m args below meth c Q x0 u0 pc loc stk h := by
  intro H ls locs hM hL hs hl hq hx0 hu0
  obtain ⟨y1, r, rfl, hS⟩ := s1I_e hS
  obtain ⟨x1, r, rfl, hS⟩ := s1I_e hS
  obtain ⟨hy, hs⟩ := List.forall_mem_cons.mp hs
  obtain ⟨hx, hs⟩ := List.forall_mem_cons.mp hs
  refine lv_idiv hX.1 hX.2.1 hd (fun q => hS.1 ((I_eq hy (by unfold r32; omega)).mp q)) ?_
  rw [I_div hx hy]
  exact hK _ _ _ _ hS.2 H ls locs hM hL (List.forall_mem_cons.mpr ⟨w32_r _, hs⟩) hl hq hx0 hu0
theorem st_irem (hX : jX D p s m args meth c y)  (hd : decode (mT y).2.1 pc = .ok (.irem, 1)) (hS : jS cl (.irem) pc 1 loc stk h K Rt) (hK : ∀ pc loc stk h, K pc loc stk h → jG D p l e R s m args below meth c Q x0 u0 pc loc stk h) : jG D p l e R s m args below meth c Q x0 u0 pc loc stk h := by
  intro H ls locs hM hL hs hl hq hx0 hu0
  obtain ⟨y1, r, rfl, hS⟩ := s1I_e hS
  obtain ⟨x1, r, rfl, hS⟩ := s1I_e hS
  obtain ⟨hy, hs⟩ := List.forall_mem_cons.mp hs
  obtain ⟨hx, hs⟩ := List.forall_mem_cons.mp hs
  refine lv_irem hX.1 hX.2.1 hd (fun q => hS.1 ((I_eq hy (by unfold r32; omega)).mp q)) ?_
  rw [I_rem hx hy]
  exact hK _ _ _ _ hS.2 H ls locs hM hL (List.forall_mem_cons.mpr ⟨w32_r _, hs⟩) hl hq hx0 hu0
theorem st_ladd (hX : jX D p s m args meth c y)  (hd : decode (mT y).2.1 pc = .ok (.ladd, 1)) (hS : jS cl (.ladd) pc 1 loc stk h K Rt) (hK : ∀ pc loc stk h, K pc loc stk h → jG D p l e R s m args below meth c Q x0 u0 pc loc stk h) : jG D p l e R s m args below meth c Q x0 u0 pc loc stk h := by
  intro H ls locs hM hL hs hl hq hx0 hu0
  obtain ⟨y1, r, rfl, hS⟩ := s1L_e hS
  obtain ⟨x1, r, rfl, hS⟩ := s1L_e hS
  obtain ⟨hy, hs⟩ := List.forall_mem_cons.mp hs
  obtain ⟨hx, hs⟩ := List.forall_mem_cons.mp hs
  refine lv_ladd hX.1 hX.2.1 hd ?_
  rw [L_add]
  exact hK _ _ _ _ hS H ls locs hM hL (List.forall_mem_cons.mpr ⟨w64_r _, hs⟩) hl hq hx0 hu0
theorem st_lsub (hX : jX D p s m args meth c y)  (hd : decode (mT y).2.1 pc = .ok (.lsub, 1)) (hS : jS cl (.lsub) pc 1 loc stk h K Rt) (hK : ∀ pc loc stk h, K pc loc stk h → jG D p l e R s m args below meth c Q x0 u0 pc loc stk h) : jG D p l e R s m args below meth c Q x0 u0 pc loc stk h := by
  intro H ls locs hM hL hs hl hq hx0 hu0
  obtain ⟨y1, r, rfl, hS⟩ := s1L_e hS
  obtain ⟨x1, r, rfl, hS⟩ := s1L_e hS
  obtain ⟨hy, hs⟩ := List.forall_mem_cons.mp hs
  obtain ⟨hx, hs⟩ := List.forall_mem_cons.mp hs
  refine lv_lsub hX.1 hX.2.1 hd ?_
  rw [L_sub]
  exact hK _ _ _ _ hS H ls locs hM hL (List.forall_mem_cons.mpr ⟨w64_r _, hs⟩) hl hq hx0 hu0
theorem st_lmul (hX : jX D p s m args meth c y)  (hd : decode (mT y).2.1 pc = .ok (.lmul, 1)) (hS : jS cl (.lmul) pc 1 loc stk h K Rt) (hK : ∀ pc loc stk h, K pc loc stk h → jG D p l e R s m args below meth c Q x0 u0 pc loc stk h) : jG D p l e R s m args below meth c Q x0 u0 pc loc stk h := by
  intro H ls locs hM hL hs hl hq hx0 hu0
  obtain ⟨y1, r, rfl, hS⟩ := s1L_e hS
  obtain ⟨x1, r, rfl, hS⟩ := s1L_e hS
  obtain ⟨hy, hs⟩ := List.forall_mem_cons.mp hs
  obtain ⟨hx, hs⟩ := List.forall_mem_cons.mp hs
  refine lv_lmul hX.1 hX.2.1 hd ?_
  rw [L_mul]
  exact hK _ _ _ _ hS H ls locs hM hL (List.forall_mem_cons.mpr ⟨w64_r _, hs⟩) hl hq hx0 hu0
theorem st_ldiv (hX : jX D p s m args meth c y)  (hd : decode (mT y).2.1 pc = .ok (.ldiv, 1)) (hS : jS cl (.ldiv) pc 1 loc stk h K Rt) (hK : ∀ pc loc stk h, K pc loc stk h → jG D p l e R s m args below meth c Q x0 u0 pc loc stk h) : jG D p l e R s m args below meth c Q x0 u0 pc loc stk h := by
  intro H ls locs hM hL hs hl hq hx0 hu0
  obtain ⟨y1, r, rfl, hS⟩ := s1L_e hS
  obtain ⟨x1, r, rfl, hS⟩ := s1L_e hS
  obtain ⟨hy, hs⟩ := List.forall_mem_cons.mp hs
  obtain ⟨hx, hs⟩ := List.forall_mem_cons.mp hs
  refine lv_ldiv hX.1 hX.2.1 hd (fun q => hS.1 ((L_eq hy (by unfold r64; omega)).mp q)) ?_
  rw [L_div hx hy]
  exact hK _ _ _ _ hS.2 H ls locs hM hL (List.forall_mem_cons.mpr ⟨w64_r _, hs⟩) hl hq hx0 hu0
theorem st_lrem (hX : jX D p s m args meth c y)  (hd : decode (mT y).2.1 pc = .ok (.lrem, 1)) (hS : jS cl (.lrem) pc 1 loc stk h K Rt) (hK : ∀ pc loc stk h, K pc loc stk h → jG D p l e R s m args below meth c Q x0 u0 pc loc stk h) : jG D p l e R s m args below meth c Q x0 u0 pc loc stk h := by
  intro H ls locs hM hL hs hl hq hx0 hu0
  obtain ⟨y1, r, rfl, hS⟩ := s1L_e hS
  obtain ⟨x1, r, rfl, hS⟩ := s1L_e hS
  obtain ⟨hy, hs⟩ := List.forall_mem_cons.mp hs
  obtain ⟨hx, hs⟩ := List.forall_mem_cons.mp hs
  refine lv_lrem hX.1 hX.2.1 hd (fun q => hS.1 ((L_eq hy (by unfold r64; omega)).mp q)) ?_
  rw [L_rem hx hy]
  exact hK _ _ _ _ hS.2 H ls locs hM hL (List.forall_mem_cons.mpr ⟨w64_r _, hs⟩) hl hq hx0 hu0
theorem st_iand (hX : jX D p s m args meth c y)  (hd : decode (mT y).2.1 pc = .ok (.iand, 1)) (hS : jS cl (.iand) pc 1 loc stk h K Rt) (hK : ∀ pc loc stk h, K pc loc stk h → jG D p l e R s m args below meth c Q x0 u0 pc loc stk h) : jG D p l e R s m args below meth c Q x0 u0 pc loc stk h := by
  intro H ls locs hM hL hs hl hq hx0 hu0
  obtain ⟨y1, r, rfl, hS⟩ := s1I_e hS
  obtain ⟨x1, r, rfl, hS⟩ := s1I_e hS
  obtain ⟨hy, hs⟩ := List.forall_mem_cons.mp hs
  obtain ⟨hx, hs⟩ := List.forall_mem_cons.mp hs
  have g := hK _ _ _ _ hS H ls locs hM hL (List.forall_mem_cons.mpr ⟨r32_I _, hs⟩) hl hq hx0 hu0
  rw [List.map_cons, show jV D (jI (jand x1 y1)) = .int _ from congrArg Value.int (Int32.ofInt_toInt _)] at g
  exact lv_iand hX.1 hX.2.1 hd  g
theorem st_ior (hX : jX D p s m args meth c y)  (hd : decode (mT y).2.1 pc = .ok (.ior, 1)) (hS : jS cl (.ior) pc 1 loc stk h K Rt) (hK : ∀ pc loc stk h, K pc loc stk h → jG D p l e R s m args below meth c Q x0 u0 pc loc stk h) : jG D p l e R s m args below meth c Q x0 u0 pc loc stk h := by
  intro H ls locs hM hL hs hl hq hx0 hu0
  obtain ⟨y1, r, rfl, hS⟩ := s1I_e hS
  obtain ⟨x1, r, rfl, hS⟩ := s1I_e hS
  obtain ⟨hy, hs⟩ := List.forall_mem_cons.mp hs
  obtain ⟨hx, hs⟩ := List.forall_mem_cons.mp hs
  have g := hK _ _ _ _ hS H ls locs hM hL (List.forall_mem_cons.mpr ⟨r32_I _, hs⟩) hl hq hx0 hu0
  rw [List.map_cons, show jV D (jI (jor x1 y1)) = .int _ from congrArg Value.int (Int32.ofInt_toInt _)] at g
  exact lv_ior hX.1 hX.2.1 hd  g
theorem st_ixor (hX : jX D p s m args meth c y)  (hd : decode (mT y).2.1 pc = .ok (.ixor, 1)) (hS : jS cl (.ixor) pc 1 loc stk h K Rt) (hK : ∀ pc loc stk h, K pc loc stk h → jG D p l e R s m args below meth c Q x0 u0 pc loc stk h) : jG D p l e R s m args below meth c Q x0 u0 pc loc stk h := by
  intro H ls locs hM hL hs hl hq hx0 hu0
  obtain ⟨y1, r, rfl, hS⟩ := s1I_e hS
  obtain ⟨x1, r, rfl, hS⟩ := s1I_e hS
  obtain ⟨hy, hs⟩ := List.forall_mem_cons.mp hs
  obtain ⟨hx, hs⟩ := List.forall_mem_cons.mp hs
  have g := hK _ _ _ _ hS H ls locs hM hL (List.forall_mem_cons.mpr ⟨r32_I _, hs⟩) hl hq hx0 hu0
  rw [List.map_cons, show jV D (jI (jxor x1 y1)) = .int _ from congrArg Value.int (Int32.ofInt_toInt _)] at g
  exact lv_ixor hX.1 hX.2.1 hd  g
theorem st_ishl (hX : jX D p s m args meth c y)  (hd : decode (mT y).2.1 pc = .ok (.ishl, 1)) (hS : jS cl (.ishl) pc 1 loc stk h K Rt) (hK : ∀ pc loc stk h, K pc loc stk h → jG D p l e R s m args below meth c Q x0 u0 pc loc stk h) : jG D p l e R s m args below meth c Q x0 u0 pc loc stk h := by
  intro H ls locs hM hL hs hl hq hx0 hu0
  obtain ⟨y1, r, rfl, hS⟩ := s1I_e hS
  obtain ⟨x1, r, rfl, hS⟩ := s1I_e hS
  obtain ⟨hy, hs⟩ := List.forall_mem_cons.mp hs
  obtain ⟨hx, hs⟩ := List.forall_mem_cons.mp hs
  have g := hK _ _ _ _ hS H ls locs hM hL (List.forall_mem_cons.mpr ⟨r32_I _, hs⟩) hl hq hx0 hu0
  rw [List.map_cons, show jV D (jI (jshl x1 y1)) = .int _ from congrArg Value.int (Int32.ofInt_toInt _)] at g
  exact lv_ishl hX.1 hX.2.1 hd  g
theorem st_ishr (hX : jX D p s m args meth c y)  (hd : decode (mT y).2.1 pc = .ok (.ishr, 1)) (hS : jS cl (.ishr) pc 1 loc stk h K Rt) (hK : ∀ pc loc stk h, K pc loc stk h → jG D p l e R s m args below meth c Q x0 u0 pc loc stk h) : jG D p l e R s m args below meth c Q x0 u0 pc loc stk h := by
  intro H ls locs hM hL hs hl hq hx0 hu0
  obtain ⟨y1, r, rfl, hS⟩ := s1I_e hS
  obtain ⟨x1, r, rfl, hS⟩ := s1I_e hS
  obtain ⟨hy, hs⟩ := List.forall_mem_cons.mp hs
  obtain ⟨hx, hs⟩ := List.forall_mem_cons.mp hs
  have g := hK _ _ _ _ hS H ls locs hM hL (List.forall_mem_cons.mpr ⟨r32_I _, hs⟩) hl hq hx0 hu0
  rw [List.map_cons, show jV D (jI (jshr x1 y1)) = .int _ from congrArg Value.int (Int32.ofInt_toInt _)] at g
  exact lv_ishr hX.1 hX.2.1 hd  g
theorem st_iushr (hX : jX D p s m args meth c y)  (hd : decode (mT y).2.1 pc = .ok (.iushr, 1)) (hS : jS cl (.iushr) pc 1 loc stk h K Rt) (hK : ∀ pc loc stk h, K pc loc stk h → jG D p l e R s m args below meth c Q x0 u0 pc loc stk h) : jG D p l e R s m args below meth c Q x0 u0 pc loc stk h := by
  intro H ls locs hM hL hs hl hq hx0 hu0
  obtain ⟨y1, r, rfl, hS⟩ := s1I_e hS
  obtain ⟨x1, r, rfl, hS⟩ := s1I_e hS
  obtain ⟨hy, hs⟩ := List.forall_mem_cons.mp hs
  obtain ⟨hx, hs⟩ := List.forall_mem_cons.mp hs
  have g := hK _ _ _ _ hS H ls locs hM hL (List.forall_mem_cons.mpr ⟨r32_I _, hs⟩) hl hq hx0 hu0
  rw [List.map_cons, show jV D (jI (jush x1 y1)) = .int _ from congrArg Value.int (Int32.ofInt_toInt _)] at g
  exact lv_iushr hX.1 hX.2.1 hd rfl g
theorem st_land (hX : jX D p s m args meth c y)  (hd : decode (mT y).2.1 pc = .ok (.land, 1)) (hS : jS cl (.land) pc 1 loc stk h K Rt) (hK : ∀ pc loc stk h, K pc loc stk h → jG D p l e R s m args below meth c Q x0 u0 pc loc stk h) : jG D p l e R s m args below meth c Q x0 u0 pc loc stk h := by
  intro H ls locs hM hL hs hl hq hx0 hu0
  obtain ⟨y1, r, rfl, hS⟩ := s1L_e hS
  obtain ⟨x1, r, rfl, hS⟩ := s1L_e hS
  obtain ⟨hy, hs⟩ := List.forall_mem_cons.mp hs
  obtain ⟨hx, hs⟩ := List.forall_mem_cons.mp hs
  have g := hK _ _ _ _ hS H ls locs hM hL (List.forall_mem_cons.mpr ⟨r64_L _, hs⟩) hl hq hx0 hu0
  rw [List.map_cons, show jV D (jL (jandL x1 y1)) = .long _ from congrArg Value.long (Int64.ofInt_toInt _)] at g
  exact lv_land hX.1 hX.2.1 hd  g
theorem st_lor (hX : jX D p s m args meth c y)  (hd : decode (mT y).2.1 pc = .ok (.lor, 1)) (hS : jS cl (.lor) pc 1 loc stk h K Rt) (hK : ∀ pc loc stk h, K pc loc stk h → jG D p l e R s m args below meth c Q x0 u0 pc loc stk h) : jG D p l e R s m args below meth c Q x0 u0 pc loc stk h := by
  intro H ls locs hM hL hs hl hq hx0 hu0
  obtain ⟨y1, r, rfl, hS⟩ := s1L_e hS
  obtain ⟨x1, r, rfl, hS⟩ := s1L_e hS
  obtain ⟨hy, hs⟩ := List.forall_mem_cons.mp hs
  obtain ⟨hx, hs⟩ := List.forall_mem_cons.mp hs
  have g := hK _ _ _ _ hS H ls locs hM hL (List.forall_mem_cons.mpr ⟨r64_L _, hs⟩) hl hq hx0 hu0
  rw [List.map_cons, show jV D (jL (jorL x1 y1)) = .long _ from congrArg Value.long (Int64.ofInt_toInt _)] at g
  exact lv_lor hX.1 hX.2.1 hd  g
theorem st_lshl (hX : jX D p s m args meth c y)  (hd : decode (mT y).2.1 pc = .ok (.lshl, 1)) (hS : jS cl (.lshl) pc 1 loc stk h K Rt) (hK : ∀ pc loc stk h, K pc loc stk h → jG D p l e R s m args below meth c Q x0 u0 pc loc stk h) : jG D p l e R s m args below meth c Q x0 u0 pc loc stk h := by
  intro H ls locs hM hL hs hl hq hx0 hu0
  obtain ⟨y1, r, rfl, hS⟩ := s1I_e hS
  obtain ⟨x1, r, rfl, hS⟩ := s1L_e hS
  obtain ⟨hy, hs⟩ := List.forall_mem_cons.mp hs
  obtain ⟨hx, hs⟩ := List.forall_mem_cons.mp hs
  have g := hK _ _ _ _ hS H ls locs hM hL (List.forall_mem_cons.mpr ⟨r64_L _, hs⟩) hl hq hx0 hu0
  rw [List.map_cons, show jV D (jL (jshlL x1 y1)) = .long _ from congrArg Value.long (Int64.ofInt_toInt _)] at g
  exact lv_lshl hX.1 hX.2.1 hd rfl g
theorem st_lshr (hX : jX D p s m args meth c y)  (hd : decode (mT y).2.1 pc = .ok (.lshr, 1)) (hS : jS cl (.lshr) pc 1 loc stk h K Rt) (hK : ∀ pc loc stk h, K pc loc stk h → jG D p l e R s m args below meth c Q x0 u0 pc loc stk h) : jG D p l e R s m args below meth c Q x0 u0 pc loc stk h := by
  intro H ls locs hM hL hs hl hq hx0 hu0
  obtain ⟨y1, r, rfl, hS⟩ := s1I_e hS
  obtain ⟨x1, r, rfl, hS⟩ := s1L_e hS
  obtain ⟨hy, hs⟩ := List.forall_mem_cons.mp hs
  obtain ⟨hx, hs⟩ := List.forall_mem_cons.mp hs
  have g := hK _ _ _ _ hS H ls locs hM hL (List.forall_mem_cons.mpr ⟨r64_L _, hs⟩) hl hq hx0 hu0
  rw [List.map_cons, show jV D (jL (jshrL x1 y1)) = .long _ from congrArg Value.long (Int64.ofInt_toInt _)] at g
  exact lv_lshr hX.1 hX.2.1 hd rfl g
theorem st_lushr (hX : jX D p s m args meth c y)  (hd : decode (mT y).2.1 pc = .ok (.lushr, 1)) (hS : jS cl (.lushr) pc 1 loc stk h K Rt) (hK : ∀ pc loc stk h, K pc loc stk h → jG D p l e R s m args below meth c Q x0 u0 pc loc stk h) : jG D p l e R s m args below meth c Q x0 u0 pc loc stk h := by
  intro H ls locs hM hL hs hl hq hx0 hu0
  obtain ⟨y1, r, rfl, hS⟩ := s1I_e hS
  obtain ⟨x1, r, rfl, hS⟩ := s1L_e hS
  obtain ⟨hy, hs⟩ := List.forall_mem_cons.mp hs
  obtain ⟨hx, hs⟩ := List.forall_mem_cons.mp hs
  have g := hK _ _ _ _ hS H ls locs hM hL (List.forall_mem_cons.mpr ⟨r64_L _, hs⟩) hl hq hx0 hu0
  rw [List.map_cons, show jV D (jL (jushL x1 y1)) = .long _ from congrArg Value.long (Int64.ofInt_toInt _)] at g
  exact lv_lushr hX.1 hX.2.1 hd rfl g
theorem st_ineg (hX : jX D p s m args meth c y)  (hd : decode (mT y).2.1 pc = .ok (.ineg, 1)) (hS : jS cl (.ineg) pc 1 loc stk h K Rt) (hK : ∀ pc loc stk h, K pc loc stk h → jG D p l e R s m args below meth c Q x0 u0 pc loc stk h) : jG D p l e R s m args below meth c Q x0 u0 pc loc stk h := by
  intro H ls locs hM hL hs hl hq hx0 hu0
  obtain ⟨x1, r, rfl, hS⟩ := s1I_e hS
  obtain ⟨hx, hs⟩ := List.forall_mem_cons.mp hs
  refine lv_ineg hX.1 hX.2.1 hd ?_
  rw [I_neg]
  exact hK _ _ _ _ hS H ls locs hM hL (List.forall_mem_cons.mpr ⟨w32_r _, hs⟩) hl hq hx0 hu0
theorem st_lneg (hX : jX D p s m args meth c y)  (hd : decode (mT y).2.1 pc = .ok (.lneg, 1)) (hS : jS cl (.lneg) pc 1 loc stk h K Rt) (hK : ∀ pc loc stk h, K pc loc stk h → jG D p l e R s m args below meth c Q x0 u0 pc loc stk h) : jG D p l e R s m args below meth c Q x0 u0 pc loc stk h := by
  intro H ls locs hM hL hs hl hq hx0 hu0
  obtain ⟨x1, r, rfl, hS⟩ := s1L_e hS
  obtain ⟨hx, hs⟩ := List.forall_mem_cons.mp hs
  refine lv_lneg hX.1 hX.2.1 hd ?_
  rw [L_neg]
  exact hK _ _ _ _ hS H ls locs hM hL (List.forall_mem_cons.mpr ⟨w64_r _, hs⟩) hl hq hx0 hu0
theorem st_i2l (hX : jX D p s m args meth c y)  (hd : decode (mT y).2.1 pc = .ok (.i2l, 1)) (hS : jS cl (.i2l) pc 1 loc stk h K Rt) (hK : ∀ pc loc stk h, K pc loc stk h → jG D p l e R s m args below meth c Q x0 u0 pc loc stk h) : jG D p l e R s m args below meth c Q x0 u0 pc loc stk h := by
  intro H ls locs hM hL hs hl hq hx0 hu0
  obtain ⟨x1, r, rfl, hS⟩ := s1I_e hS
  obtain ⟨hx, hs⟩ := List.forall_mem_cons.mp hs
  have hx : r32 x1 := hx
  refine lv_i2l (v := Int64.ofInt x1) hX.1 hX.2.1 hd (by rw [← Int64.toInt_inj, Int32.toInt_toInt64, I_to hx, L_to (by unfold r32 at hx; unfold r64; omega)]) ?_
  exact hK _ _ _ _ hS H ls locs hM hL (List.forall_mem_cons.mpr ⟨(by show r64 x1; unfold r32 at hx; unfold r64; omega), hs⟩) hl hq hx0 hu0
theorem st_l2i (hX : jX D p s m args meth c y)  (hd : decode (mT y).2.1 pc = .ok (.l2i, 1)) (hS : jS cl (.l2i) pc 1 loc stk h K Rt) (hK : ∀ pc loc stk h, K pc loc stk h → jG D p l e R s m args below meth c Q x0 u0 pc loc stk h) : jG D p l e R s m args below meth c Q x0 u0 pc loc stk h := by
  intro H ls locs hM hL hs hl hq hx0 hu0
  obtain ⟨x1, r, rfl, hS⟩ := s1L_e hS
  obtain ⟨hx, hs⟩ := List.forall_mem_cons.mp hs
  refine lv_l2i (v := Int32.ofInt (w32 x1)) hX.1 hX.2.1 hd (by rw [Int64.toInt32_ofInt, I_w32]) ?_
  exact hK _ _ _ _ hS H ls locs hM hL (List.forall_mem_cons.mpr ⟨w32_r _, hs⟩) hl hq hx0 hu0
theorem st_i2b (hX : jX D p s m args meth c y)  (hd : decode (mT y).2.1 pc = .ok (.i2b, 1)) (hS : jS cl (.i2b) pc 1 loc stk h K Rt) (hK : ∀ pc loc stk h, K pc loc stk h → jG D p l e R s m args below meth c Q x0 u0 pc loc stk h) : jG D p l e R s m args below meth c Q x0 u0 pc loc stk h := by
  intro H ls locs hM hL hs hl hq hx0 hu0
  obtain ⟨x1, r, rfl, hS⟩ := s1I_e hS
  obtain ⟨hx, hs⟩ := List.forall_mem_cons.mp hs
  have g := hK _ _ _ _ hS H ls locs hM hL (List.forall_mem_cons.mpr ⟨r32_I _, hs⟩) hl hq hx0 hu0
  rw [List.map_cons, show jV D (jI (ji2b x1)) = .int _ from congrArg Value.int (Int32.ofInt_toInt _)] at g
  exact lv_i2b hX.1 hX.2.1 hd rfl g
theorem st_i2c (hX : jX D p s m args meth c y)  (hd : decode (mT y).2.1 pc = .ok (.i2c, 1)) (hS : jS cl (.i2c) pc 1 loc stk h K Rt) (hK : ∀ pc loc stk h, K pc loc stk h → jG D p l e R s m args below meth c Q x0 u0 pc loc stk h) : jG D p l e R s m args below meth c Q x0 u0 pc loc stk h := by
  intro H ls locs hM hL hs hl hq hx0 hu0
  obtain ⟨x1, r, rfl, hS⟩ := s1I_e hS
  obtain ⟨hx, hs⟩ := List.forall_mem_cons.mp hs
  have g := hK _ _ _ _ hS H ls locs hM hL (List.forall_mem_cons.mpr ⟨r32_I _, hs⟩) hl hq hx0 hu0
  rw [List.map_cons, show jV D (jI (ji2c x1)) = .int _ from congrArg Value.int (Int32.ofInt_toInt _)] at g
  exact lv_i2c hX.1 hX.2.1 hd rfl g
theorem st_lcmp (hX : jX D p s m args meth c y)  (hd : decode (mT y).2.1 pc = .ok (.lcmp, 1)) (hS : jS cl (.lcmp) pc 1 loc stk h K Rt) (hK : ∀ pc loc stk h, K pc loc stk h → jG D p l e R s m args below meth c Q x0 u0 pc loc stk h) : jG D p l e R s m args below meth c Q x0 u0 pc loc stk h := by
  intro H ls locs hM hL hs hl hq hx0 hu0
  obtain ⟨y1, r, rfl, hS⟩ := s1L_e hS
  obtain ⟨x1, r, rfl, hS⟩ := s1L_e hS
  obtain ⟨hy, hs⟩ := List.forall_mem_cons.mp hs
  obtain ⟨hx, hs⟩ := List.forall_mem_cons.mp hs
  have hy : r64 y1 := hy
  have hx : r64 x1 := hx
  refine W.lcmp hX.1 hX.2.1 hd ?_
  have e0 : lg_cmp (Int64.ofInt x1) (Int64.ofInt y1) = Int32.ofInt (jcmp x1 y1) := by
    unfold lg_cmp jcmp
    simp only [gt_iff_lt, L_lt hy hx, L_eq hx hy]
    split
    · rfl
    · split <;> rfl
  rw [e0]
  exact hK _ _ _ _ hS H ls locs hM hL (List.forall_mem_cons.mpr ⟨(by show r32 (jcmp x1 y1); unfold jcmp r32; split <;> (try split) <;> omega), hs⟩) hl hq hx0 hu0
theorem st_dup (hX : jX D p s m args meth c y)  (hd : decode (mT y).2.1 pc = .ok (.dup, 1)) (hS : jS cl (.dup) pc 1 loc stk h K Rt) (hK : ∀ pc loc stk h, K pc loc stk h → jG D p l e R s m args below meth c Q x0 u0 pc loc stk h) : jG D p l e R s m args below meth c Q x0 u0 pc loc stk h := by
  intro H ls locs hM hL hs hl hq hx0 hu0
  obtain ⟨v, r, rfl, hv, hS⟩ := s1V_e hS
  obtain ⟨hx, hs⟩ := List.forall_mem_cons.mp hs
  exact lv_dup hX.1 hX.2.1 hd (by rw [jV_cat hM.fv, jcat, hv]; rfl) (hK _ _ _ _ hS H ls locs hM hL (List.forall_mem_cons.mpr ⟨hx, List.forall_mem_cons.mpr ⟨hx, hs⟩⟩) hl hq hx0 hu0)
theorem st_pop (hX : jX D p s m args meth c y)  (hd : decode (mT y).2.1 pc = .ok (.pop, 1)) (hS : jS cl (.pop) pc 1 loc stk h K Rt) (hK : ∀ pc loc stk h, K pc loc stk h → jG D p l e R s m args below meth c Q x0 u0 pc loc stk h) : jG D p l e R s m args below meth c Q x0 u0 pc loc stk h := by
  intro H ls locs hM hL hs hl hq hx0 hu0
  obtain ⟨v, r, rfl, hv, hS⟩ := s1V_e hS
  obtain ⟨hx, hs⟩ := List.forall_mem_cons.mp hs
  exact lv_pop hX.1 hX.2.1 hd (by rw [jV_cat hM.fv, jcat, hv]; rfl) (hK _ _ _ _ hS H ls locs hM hL hs hl hq hx0 hu0)
theorem st_dup2 (hX : jX D p s m args meth c y)  (hd : decode (mT y).2.1 pc = .ok (.dup2, 1)) (hS : jS cl (.dup2) pc 1 loc stk h K Rt) (hK : ∀ pc loc stk h, K pc loc stk h → jG D p l e R s m args below meth c Q x0 u0 pc loc stk h) : jG D p l e R s m args below meth c Q x0 u0 pc loc stk h := by
  intro H ls locs hM hL hs hl hq hx0 hu0
  obtain ⟨v, r, rfl, hv, hS⟩ := s1V_e hS
  obtain ⟨w, r, rfl, hw, hS⟩ := s1V_e hS
  obtain ⟨hx, hs⟩ := List.forall_mem_cons.mp hs
  obtain ⟨hy, hs⟩ := List.forall_mem_cons.mp hs
  exact lv_dup2_11 hX.1 hX.2.1 hd (by rw [jV_cat hM.fv, jcat, hv]; rfl) (by rw [jV_cat hM.fv, jcat, hw]; rfl) (hK _ _ _ _ hS H ls locs hM hL (List.forall_mem_cons.mpr ⟨hx, List.forall_mem_cons.mpr ⟨hy, List.forall_mem_cons.mpr ⟨hx, List.forall_mem_cons.mpr ⟨hy, hs⟩⟩⟩⟩) hl hq hx0 hu0)
theorem st_if_eq (hX : jX D p s m args meth c y) {off : Int} (ht : 0 ≤ (pc : Int) + off) (hd : decode (mT y).2.1 pc = .ok (.ifCond .eq off, 3)) (hS : jS cl (.ifCond .eq ((pc : Int) + off)) pc 3 loc stk h K Rt) (hK : ∀ pc loc stk h, K pc loc stk h → jG D p l e R s m args below meth c Q x0 u0 pc loc stk h) : jG D p l e R s m args below meth c Q x0 u0 pc loc stk h := by
  intro H ls locs hM hL hs hl hq hx0 hu0
  obtain ⟨x1, r, rfl, hS⟩ := s1I_e hS
  obtain ⟨hx, hs⟩ := List.forall_mem_cons.mp hs
  have hx : r32 x1 := hx
  refine lv_if_eq (tgt := ((pc : Int) + off).toNat) hX.1 hX.2.1 hd (by omega) (fun q => ?_) (fun q => ?_)
  · exact hK _ _ _ _ (hS.1 ((I_eq hx r32_0).mp q)) H ls locs hM hL hs hl hq hx0 hu0
  · exact hK _ _ _ _ (hS.2 (fun z => q ((I_eq hx r32_0).mpr z))) H ls locs hM hL hs hl hq hx0 hu0
theorem st_icmp_eq (hX : jX D p s m args meth c y) {off : Int} (ht : 0 ≤ (pc : Int) + off) (hd : decode (mT y).2.1 pc = .ok (.if_icmp .eq off, 3)) (hS : jS cl (.if_icmp .eq ((pc : Int) + off)) pc 3 loc stk h K Rt) (hK : ∀ pc loc stk h, K pc loc stk h → jG D p l e R s m args below meth c Q x0 u0 pc loc stk h) : jG D p l e R s m args below meth c Q x0 u0 pc loc stk h := by
  intro H ls locs hM hL hs hl hq hx0 hu0
  obtain ⟨y1, r, rfl, hS⟩ := s1I_e hS
  obtain ⟨x1, r, rfl, hS⟩ := s1I_e hS
  obtain ⟨hy, hs⟩ := List.forall_mem_cons.mp hs
  obtain ⟨hx, hs⟩ := List.forall_mem_cons.mp hs
  have hx : r32 x1 := hx
  have hy : r32 y1 := hy
  refine lv_icmp_eq (tgt := ((pc : Int) + off).toNat) hX.1 hX.2.1 hd (by omega) (fun q => ?_) (fun q => ?_)
  · exact hK _ _ _ _ (hS.1 ((I_eq hx hy).mp q)) H ls locs hM hL hs hl hq hx0 hu0
  · exact hK _ _ _ _ (hS.2 (fun z => q ((I_eq hx hy).mpr z))) H ls locs hM hL hs hl hq hx0 hu0
theorem st_if_ne (hX : jX D p s m args meth c y) {off : Int} (ht : 0 ≤ (pc : Int) + off) (hd : decode (mT y).2.1 pc = .ok (.ifCond .ne off, 3)) (hS : jS cl (.ifCond .ne ((pc : Int) + off)) pc 3 loc stk h K Rt) (hK : ∀ pc loc stk h, K pc loc stk h → jG D p l e R s m args below meth c Q x0 u0 pc loc stk h) : jG D p l e R s m args below meth c Q x0 u0 pc loc stk h := by
  intro H ls locs hM hL hs hl hq hx0 hu0
  obtain ⟨x1, r, rfl, hS⟩ := s1I_e hS
  obtain ⟨hx, hs⟩ := List.forall_mem_cons.mp hs
  have hx : r32 x1 := hx
  refine lv_if_ne (tgt := ((pc : Int) + off).toNat) hX.1 hX.2.1 hd (by omega) (fun q => ?_) (fun q => ?_)
  · exact hK _ _ _ _ (hS.1 ((not_congr (I_eq hx r32_0)).mp q)) H ls locs hM hL hs hl hq hx0 hu0
  · exact hK _ _ _ _ (hS.2 (fun z => z ((I_eq hx r32_0).mp q))) H ls locs hM hL hs hl hq hx0 hu0
theorem st_icmp_ne (hX : jX D p s m args meth c y) {off : Int} (ht : 0 ≤ (pc : Int) + off) (hd : decode (mT y).2.1 pc = .ok (.if_icmp .ne off, 3)) (hS : jS cl (.if_icmp .ne ((pc : Int) + off)) pc 3 loc stk h K Rt) (hK : ∀ pc loc stk h, K pc loc stk h → jG D p l e R s m args below meth c Q x0 u0 pc loc stk h) : jG D p l e R s m args below meth c Q x0 u0 pc loc stk h := by
  intro H ls locs hM hL hs hl hq hx0 hu0
  obtain ⟨y1, r, rfl, hS⟩ := s1I_e hS
  obtain ⟨x1, r, rfl, hS⟩ := s1I_e hS
  obtain ⟨hy, hs⟩ := List.forall_mem_cons.mp hs
  obtain ⟨hx, hs⟩ := List.forall_mem_cons.mp hs
  have hx : r32 x1 := hx
  have hy : r32 y1 := hy
  refine lv_icmp_ne (tgt := ((pc : Int) + off).toNat) hX.1 hX.2.1 hd (by omega) (fun q => ?_) (fun q => ?_)
  · exact hK _ _ _ _ (hS.1 ((not_congr (I_eq hx hy)).mp q)) H ls locs hM hL hs hl hq hx0 hu0
  · exact hK _ _ _ _ (hS.2 (fun z => z ((I_eq hx hy).mp q))) H ls locs hM hL hs hl hq hx0 hu0
theorem st_if_lt (hX : jX D p s m args meth c y) {off : Int} (ht : 0 ≤ (pc : Int) + off) (hd : decode (mT y).2.1 pc = .ok (.ifCond .lt off, 3)) (hS : jS cl (.ifCond .lt ((pc : Int) + off)) pc 3 loc stk h K Rt) (hK : ∀ pc loc stk h, K pc loc stk h → jG D p l e R s m args below meth c Q x0 u0 pc loc stk h) : jG D p l e R s m args below meth c Q x0 u0 pc loc stk h := by
  intro H ls locs hM hL hs hl hq hx0 hu0
  obtain ⟨x1, r, rfl, hS⟩ := s1I_e hS
  obtain ⟨hx, hs⟩ := List.forall_mem_cons.mp hs
  have hx : r32 x1 := hx
  refine lv_if_lt (tgt := ((pc : Int) + off).toNat) hX.1 hX.2.1 hd (by omega) (fun q => ?_) (fun q => ?_)
  · exact hK _ _ _ _ (hS.1 ((I_lt hx r32_0).mp q)) H ls locs hM hL hs hl hq hx0 hu0
  · exact hK _ _ _ _ (hS.2 (fun z => q ((I_lt hx r32_0).mpr z))) H ls locs hM hL hs hl hq hx0 hu0
theorem st_icmp_lt (hX : jX D p s m args meth c y) {off : Int} (ht : 0 ≤ (pc : Int) + off) (hd : decode (mT y).2.1 pc = .ok (.if_icmp .lt off, 3)) (hS : jS cl (.if_icmp .lt ((pc : Int) + off)) pc 3 loc stk h K Rt) (hK : ∀ pc loc stk h, K pc loc stk h → jG D p l e R s m args below meth c Q x0 u0 pc loc stk h) : jG D p l e R s m args below meth c Q x0 u0 pc loc stk h := by
  intro H ls locs hM hL hs hl hq hx0 hu0
  obtain ⟨y1, r, rfl, hS⟩ := s1I_e hS
  obtain ⟨x1, r, rfl, hS⟩ := s1I_e hS
  obtain ⟨hy, hs⟩ := List.forall_mem_cons.mp hs
  obtain ⟨hx, hs⟩ := List.forall_mem_cons.mp hs
  have hx : r32 x1 := hx
  have hy : r32 y1 := hy
  refine lv_icmp_lt (tgt := ((pc : Int) + off).toNat) hX.1 hX.2.1 hd (by omega) (fun q => ?_) (fun q => ?_)
  · exact hK _ _ _ _ (hS.1 ((I_lt hx hy).mp q)) H ls locs hM hL hs hl hq hx0 hu0
  · exact hK _ _ _ _ (hS.2 (fun z => q ((I_lt hx hy).mpr z))) H ls locs hM hL hs hl hq hx0 hu0
theorem st_if_ge (hX : jX D p s m args meth c y) {off : Int} (ht : 0 ≤ (pc : Int) + off) (hd : decode (mT y).2.1 pc = .ok (.ifCond .ge off, 3)) (hS : jS cl (.ifCond .ge ((pc : Int) + off)) pc 3 loc stk h K Rt) (hK : ∀ pc loc stk h, K pc loc stk h → jG D p l e R s m args below meth c Q x0 u0 pc loc stk h) : jG D p l e R s m args below meth c Q x0 u0 pc loc stk h := by
  intro H ls locs hM hL hs hl hq hx0 hu0
  obtain ⟨x1, r, rfl, hS⟩ := s1I_e hS
  obtain ⟨hx, hs⟩ := List.forall_mem_cons.mp hs
  have hx : r32 x1 := hx
  refine lv_if_ge (tgt := ((pc : Int) + off).toNat) hX.1 hX.2.1 hd (by omega) (fun q => ?_) (fun q => ?_)
  · exact hK _ _ _ _ (hS.1 ((I_le r32_0 hx).mp q)) H ls locs hM hL hs hl hq hx0 hu0
  · exact hK _ _ _ _ (hS.2 (fun z => q ((I_le r32_0 hx).mpr z))) H ls locs hM hL hs hl hq hx0 hu0
theorem st_icmp_ge (hX : jX D p s m args meth c y) {off : Int} (ht : 0 ≤ (pc : Int) + off) (hd : decode (mT y).2.1 pc = .ok (.if_icmp .ge off, 3)) (hS : jS cl (.if_icmp .ge ((pc : Int) + off)) pc 3 loc stk h K Rt) (hK : ∀ pc loc stk h, K pc loc stk h → jG D p l e R s m args below meth c Q x0 u0 pc loc stk h) : jG D p l e R s m args below meth c Q x0 u0 pc loc stk h := by
  intro H ls locs hM hL hs hl hq hx0 hu0
  obtain ⟨y1, r, rfl, hS⟩ := s1I_e hS
  obtain ⟨x1, r, rfl, hS⟩ := s1I_e hS
  obtain ⟨hy, hs⟩ := List.forall_mem_cons.mp hs
  obtain ⟨hx, hs⟩ := List.forall_mem_cons.mp hs
  have hx : r32 x1 := hx
  have hy : r32 y1 := hy
  refine lv_icmp_ge (tgt := ((pc : Int) + off).toNat) hX.1 hX.2.1 hd (by omega) (fun q => ?_) (fun q => ?_)
  · exact hK _ _ _ _ (hS.1 ((I_le hy hx).mp q)) H ls locs hM hL hs hl hq hx0 hu0
  · exact hK _ _ _ _ (hS.2 (fun z => q ((I_le hy hx).mpr z))) H ls locs hM hL hs hl hq hx0 hu0
theorem st_if_gt (hX : jX D p s m args meth c y) {off : Int} (ht : 0 ≤ (pc : Int) + off) (hd : decode (mT y).2.1 pc = .ok (.ifCond .gt off, 3)) (hS : jS cl (.ifCond .gt ((pc : Int) + off)) pc 3 loc stk h K Rt) (hK : ∀ pc loc stk h, K pc loc stk h → jG D p l e R s m args below meth c Q x0 u0 pc loc stk h) : jG D p l e R s m args below meth c Q x0 u0 pc loc stk h := by
  intro H ls locs hM hL hs hl hq hx0 hu0
  obtain ⟨x1, r, rfl, hS⟩ := s1I_e hS
  obtain ⟨hx, hs⟩ := List.forall_mem_cons.mp hs
  have hx : r32 x1 := hx
  refine lv_if_gt (tgt := ((pc : Int) + off).toNat) hX.1 hX.2.1 hd (by omega) (fun q => ?_) (fun q => ?_)
  · exact hK _ _ _ _ (hS.1 ((I_lt r32_0 hx).mp q)) H ls locs hM hL hs hl hq hx0 hu0
  · exact hK _ _ _ _ (hS.2 (fun z => q ((I_lt r32_0 hx).mpr z))) H ls locs hM hL hs hl hq hx0 hu0
theorem st_icmp_gt (hX : jX D p s m args meth c y) {off : Int} (ht : 0 ≤ (pc : Int) + off) (hd : decode (mT y).2.1 pc = .ok (.if_icmp .gt off, 3)) (hS : jS cl (.if_icmp .gt ((pc : Int) + off)) pc 3 loc stk h K Rt) (hK : ∀ pc loc stk h, K pc loc stk h → jG D p l e R s m args below meth c Q x0 u0 pc loc stk h) : jG D p l e R s m args below meth c Q x0 u0 pc loc stk h := by
  intro H ls locs hM hL hs hl hq hx0 hu0
  obtain ⟨y1, r, rfl, hS⟩ := s1I_e hS
  obtain ⟨x1, r, rfl, hS⟩ := s1I_e hS
  obtain ⟨hy, hs⟩ := List.forall_mem_cons.mp hs
  obtain ⟨hx, hs⟩ := List.forall_mem_cons.mp hs
  have hx : r32 x1 := hx
  have hy : r32 y1 := hy
  refine lv_icmp_gt (tgt := ((pc : Int) + off).toNat) hX.1 hX.2.1 hd (by omega) (fun q => ?_) (fun q => ?_)
  · exact hK _ _ _ _ (hS.1 ((I_lt hy hx).mp q)) H ls locs hM hL hs hl hq hx0 hu0
  · exact hK _ _ _ _ (hS.2 (fun z => q ((I_lt hy hx).mpr z))) H ls locs hM hL hs hl hq hx0 hu0
theorem st_if_le (hX : jX D p s m args meth c y) {off : Int} (ht : 0 ≤ (pc : Int) + off) (hd : decode (mT y).2.1 pc = .ok (.ifCond .le off, 3)) (hS : jS cl (.ifCond .le ((pc : Int) + off)) pc 3 loc stk h K Rt) (hK : ∀ pc loc stk h, K pc loc stk h → jG D p l e R s m args below meth c Q x0 u0 pc loc stk h) : jG D p l e R s m args below meth c Q x0 u0 pc loc stk h := by
  intro H ls locs hM hL hs hl hq hx0 hu0
  obtain ⟨x1, r, rfl, hS⟩ := s1I_e hS
  obtain ⟨hx, hs⟩ := List.forall_mem_cons.mp hs
  have hx : r32 x1 := hx
  refine lv_if_le (tgt := ((pc : Int) + off).toNat) hX.1 hX.2.1 hd (by omega) (fun q => ?_) (fun q => ?_)
  · exact hK _ _ _ _ (hS.1 ((I_le hx r32_0).mp q)) H ls locs hM hL hs hl hq hx0 hu0
  · exact hK _ _ _ _ (hS.2 (fun z => q ((I_le hx r32_0).mpr z))) H ls locs hM hL hs hl hq hx0 hu0
theorem st_icmp_le (hX : jX D p s m args meth c y) {off : Int} (ht : 0 ≤ (pc : Int) + off) (hd : decode (mT y).2.1 pc = .ok (.if_icmp .le off, 3)) (hS : jS cl (.if_icmp .le ((pc : Int) + off)) pc 3 loc stk h K Rt) (hK : ∀ pc loc stk h, K pc loc stk h → jG D p l e R s m args below meth c Q x0 u0 pc loc stk h) : jG D p l e R s m args below meth c Q x0 u0 pc loc stk h := by
  intro H ls locs hM hL hs hl hq hx0 hu0
  obtain ⟨y1, r, rfl, hS⟩ := s1I_e hS
  obtain ⟨x1, r, rfl, hS⟩ := s1I_e hS
  obtain ⟨hy, hs⟩ := List.forall_mem_cons.mp hs
  obtain ⟨hx, hs⟩ := List.forall_mem_cons.mp hs
  have hx : r32 x1 := hx
  have hy : r32 y1 := hy
  refine lv_icmp_le (tgt := ((pc : Int) + off).toNat) hX.1 hX.2.1 hd (by omega) (fun q => ?_) (fun q => ?_)
  · exact hK _ _ _ _ (hS.1 ((I_le hx hy).mp q)) H ls locs hM hL hs hl hq hx0 hu0
  · exact hK _ _ _ _ (hS.2 (fun z => q ((I_le hx hy).mpr z))) H ls locs hM hL hs hl hq hx0 hu0
theorem st_goto (hX : jX D p s m args meth c y) {off : Int} (ht : 0 ≤ (pc : Int) + off) (hd : decode (mT y).2.1 pc = .ok (.goto off, 3)) (hS : jS cl (.goto ((pc : Int) + off)) pc 3 loc stk h K Rt) (hK : ∀ pc loc stk h, K pc loc stk h → jG D p l e R s m args below meth c Q x0 u0 pc loc stk h) : jG D p l e R s m args below meth c Q x0 u0 pc loc stk h := by
  intro H ls locs hM hL hs hl hq hx0 hu0
  exact lv_goto (tgt := ((pc : Int) + off).toNat) hX.1 hX.2.1 hd (by omega) (hK _ _ _ _ hS H ls locs hM hL hs hl hq hx0 hu0)
theorem st_ifnull (hX : jX D p s m args meth c y) {off : Int} (ht : 0 ≤ (pc : Int) + off) (hd : decode (mT y).2.1 pc = .ok (.ifnull off, 3)) (hS : jS cl (.ifnull ((pc : Int) + off)) pc 3 loc stk h K Rt) (hK : ∀ pc loc stk h, K pc loc stk h → jG D p l e R s m args below meth c Q x0 u0 pc loc stk h) : jG D p l e R s m args below meth c Q x0 u0 pc loc stk h := by
  intro H ls locs hM hL hs hl hq hx0 hu0
  obtain ⟨a, r, rfl, h1, hS1, hS2⟩ := s1P_e hS
  replace hs := (List.forall_mem_cons.mp hs).2
  by_cases h0 : a = 0
  · subst h0; exact lv_ifnullN (tgt := ((pc : Int) + off).toNat) hX.1 hX.2.1 hd (by omega) (hK _ _ _ _ (hS1 rfl) H ls locs hM hL hs hl hq hx0 hu0)
  · have e0 : jV D (jP a) = .ref (jA D a) := jVp_2 (by omega)
    rw [List.map_cons, e0]
    exact lv_ifnull hX.1 hX.2.1 hd (hK _ _ _ _ (hS2 h0) H ls locs hM hL hs hl hq hx0 hu0)
theorem st_ifnonnull (hX : jX D p s m args meth c y) {off : Int} (ht : 0 ≤ (pc : Int) + off) (hd : decode (mT y).2.1 pc = .ok (.ifnonnull off, 3)) (hS : jS cl (.ifnonnull ((pc : Int) + off)) pc 3 loc stk h K Rt) (hK : ∀ pc loc stk h, K pc loc stk h → jG D p l e R s m args below meth c Q x0 u0 pc loc stk h) : jG D p l e R s m args below meth c Q x0 u0 pc loc stk h := by
  intro H ls locs hM hL hs hl hq hx0 hu0
  obtain ⟨a, r, rfl, h1, hS1, hS2⟩ := s1P_e hS
  replace hs := (List.forall_mem_cons.mp hs).2
  by_cases h0 : a = 0
  · subst h0; exact lv_ifnonnullN hX.1 hX.2.1 hd (hK _ _ _ _ (hS2 rfl) H ls locs hM hL hs hl hq hx0 hu0)
  · have e0 : jV D (jP a) = .ref (jA D a) := jVp_2 (by omega)
    rw [List.map_cons, e0]
    exact lv_ifnonnull (tgt := ((pc : Int) + off).toNat) hX.1 hX.2.1 hd (by omega) (hK _ _ _ _ (hS1 h0) H ls locs hM hL hs hl hq hx0 hu0)
end ST1
