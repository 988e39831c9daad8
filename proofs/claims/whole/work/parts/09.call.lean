/-! CALLS AND ENDS -/
def rmd (d c s : Nat) : Room := { frames := d, cells := c, slots := s, locals := 120 * d }
def jPc (D : jD) (as : List AV) (h : AH) : Array Value → State → Prop := fun a U => a = (as.map (jV D)).toArray ∧ va_K (D.2.2.1, D.2.2.2.1) vwCl [] U ∧ jM D U U.heap h ∧ jStr D U ∧ ∀ v ∈ as, vok v
def jQc (D : jD) (v : Option AV) (h' : AH) : Array Value → State → Outcome → State → Prop := fun _ _ o t => o = .returned (v.map (jV D)) ∧ jM D t t.heap h' ∧ ∀ x, v = some x → vok x
def jws (y : Nat) : List Cond := Cond.code (mT y).1 (mT y).2.1 (mT y).2.2.1 (mT y).2.2.2.1 :: gw
/-- the contract of one run of method y -/
def jMt (D : jD) (l : Launch) (d y : Nat) (as : List AV) (h : AH) (v : Option AV) (h' : AH) : Prop :=
  Met l (mT y).1 (jws y) (rmd d (jx h' - jx h) (ju h' - ju h)) (jPc D as h) (jQc D v h') (jx h' - jx h) (ju h' - ju h) (jNew D) ∧ jx h ≤ jx h' ∧ ju h ≤ ju h'
/-- what the tables say of method y -/
def mOK (y : Nat) : Prop := Cond.code (mT y).1 (mT y).2.1 (mT y).2.2.1 (mT y).2.2.2.1 ∈ gw ∧ Cond.initialized (mT y).1.cls ∈ gw ∧ ((mT y).1.cls ≠ "java/lang/invoke/MethodHandle" ∧ (mT y).1.cls ≠ "java/lang/invoke/VarHandle") ∧ (mT y).2.2.1 ≤ 90 ∧ (mT y).1.cls = oR (mT y).2.2.2.2.1 ∧ plainName (mT y).1.cls = true
def mSt (y : Nat) : Prop := mOK y ∧ Cond.static (mT y).1 ∈ gw ∧ (parseMethodDescriptor (mT y).1.desc).map (fun d => d.parameters.length) = some (mT y).2.2.2.2.2.1
def mVi (y : Nat) : Prop := mOK y ∧ Cond.instanceMethod (mT y).1 ∈ gw ∧ Cond.selects (mT y).1.cls (mT y).1 (mT y).1 ∈ gw ∧ (parseMethodDescriptor (mT y).1.desc).map (fun d => d.parameters.length + 1) = some (mT y).2.2.2.2.2.1 ∧ (mT y).2.2.2.2.1 ≤ 12
def mSp (y : Nat) : Prop := mOK y ∧ Cond.instanceMethod (mT y).1 ∈ gw ∧ (mT y).1.name = "<init>" ∧ (mT y).2.2.2.1 = none ∧ (parseMethodDescriptor (mT y).1.desc).map (fun d => d.parameters.length + 1) = some (mT y).2.2.2.2.2.1
theorem jPc_blind (D : jD) (as : List AV) (h : AH) : FrameBlind (jPc D as h) := fun a U g mk ⟨q1, q2, q3, q4, q5⟩ => ⟨q1, va_K.moved (u := U) (U := U.calling g mk a) (Vm.Alike.refl U.vm) q2, jM.moved (u := U) (U := U.calling g mk a) (Vm.Alike.refl U.vm) q3, jStr.same (u := U) (U := U.calling g mk a) rfl q4, q5⟩
theorem jws_good {y : Nat} (h : Cond.code (mT y).1 (mT y).2.1 (mT y).2.2.1 (mT y).2.2.2.1 ∈ gw) : GoodIn gw (jws y) := fun w hw => by
  rcases List.mem_cons.mp hw with rfl | hw
  · exact gw_good _ h
  · exact gw_good w hw
theorem stk_split {α β : Type} (f : α → β) (stk : List α) (n : Nat) : stk.map f = ((stk.take n).reverse.map f).reverse ++ (stk.drop n).map f := by
  rw [← List.map_reverse, List.reverse_reverse, ← List.map_append, List.take_append_drop]
theorem cat_sum {D : jD} (hf : jfv D) (st : List AV) : ((st.map (jV D)).map (fun v => v.category)).sum = (st.map jcat).sum := by
  rw [List.map_map]
  congr 1
  exact List.map_congr_left (fun v _ => jV_cat hf v)
section ST4
variable {D : jD} {p : Program} {l : Launch} {e : Env} {R : Room} {s : State} {m : MethodId} {args : Array Value} {below : List Frame} {meth : Method} {c : Code} {Q : State → Prop} {x0 u0 y : Nat}
variable {cl : Nat → List AV → AH → Option AV → AH → Prop} {K : Nat → List AV → List AV → AH → Prop} {Rt : Option AV → AH → Prop} {pc len : Nat} {loc stk : List AV} {h : AH}
theorem run_go {H : Heap} {locs : List Loc} {cells slots mc ms : Nat} {ls : Array Slot} {st0 rest : List Value} {v : Option AV} {h' : AH} {a : Array Value} (hr : va_Run p l e R s m args below meth c H locs cells slots mc ms (F0 m pc ls st0) rest (jQc D v h' a) (jNew D))
    (kk : ∀ (H1 : Heap) (L : List Loc), (∀ q ∈ L, D.2.2.2.2 ≤ q.base) → jM D s H1 h' → (∀ x, v = some x → vok x) → W p l e R s m args below meth c H1 (locs ++ L) (cells + mc) (slots + ms) Q (F0 m (pc + 3) ls ((v.map (jV D)).toList ++ rest))) : W p l e R s m args below meth c H locs cells slots Q (F0 m pc ls st0) := by
  intro T hT X
  obtain ⟨v', st₀, t, T', L, h0, X', hL, e1, e2, ⟨hv, hm, hvk⟩, st⟩ := hr T hT X
  cases hv
  have hal : t.vm.Alike s.vm := by rw [← e2]; exact X'.warmed.alike.symm
  obtain ⟨t2, a1, b1⟩ := kk t.heap L hL (hm.moved hal) hvk T' e1 X'
  exact ⟨t2, st t2 a1, b1⟩
/-- behind a call -/
theorem st_behind {H : Heap} {locs : List Loc} {ls : Array Slot} {st0 : List Value} {v : Option AV} {h' : AH} {a : Array Value} {n : Nat} (hK : ∀ pc loc stk h, K pc loc stk h → jG D p l e R s m args below meth c Q x0 u0 pc loc stk h) (hS : K (pc + 3) loc (v.toList ++ stk.drop n) h')
    (hr : va_Run p l e R s m args below meth c H locs (jx h - x0) (ju h - u0) (jx h' - jx h) (ju h' - ju h) (F0 m pc ls st0) ((stk.drop n).map (jV D)) (jQc D v h' a) (jNew D)) (m1 : jx h ≤ jx h') (m2 : ju h ≤ ju h')
    (hL : jLo D ls loc) (hs : ∀ v ∈ stk, vok v) (hl : ∀ v ∈ loc, vok v) (hq : ∀ q ∈ locs, D.2.2.2.2 ≤ q.base) (hx0 : x0 ≤ jx h) (hu0 : u0 ≤ ju h) : W p l e R s m args below meth c H locs (jx h - x0) (ju h - u0) Q (F0 m pc ls st0) := by
  refine run_go hr fun H1 L hL1 hM1 hv => ?_
  have g := hK _ _ _ _ hS H1 ls (locs ++ L) hM1 hL (fun w hw => by
    rcases List.mem_append.mp hw with q | q
    · cases v with
      | none => cases q
      | some x => rw [Option.toList_some, List.mem_singleton] at q; subst q; exact hv w rfl
    · exact hs w (List.mem_of_mem_drop q)) hl (fun q hq2 => by
    rcases List.mem_append.mp hq2 with q1 | q1
    · exact hq q q1
    · exact hL1 q q1) (by omega) (by omega)
  rw [show jx h' - x0 = jx h - x0 + (jx h' - jx h) by omega, show ju h' - u0 = ju h - u0 + (ju h' - ju h) by omega, List.map_append] at g
  cases v with
  | none => exact g
  | some x => exact g
theorem st_static (hX : jX D p s m args meth c y) {ix z d : Nat} (hz : mSt z) (hw : Cond.methodLink (oR (mT y).2.2.2.2.1) ix (mT z).1 ∈ gw) (hcl : ∀ as h v h', cl z as h v h' → jMt D l d z as h v h') (hN : loc.length = (mT y).2.2.1) (hR : d + 1 ≤ R.frames ∧ 120 * d + 120 ≤ R.locals) (hKm : ∀ pc loc stk h, K pc loc stk h → jx h - x0 ≤ R.cells ∧ ju h - u0 ≤ R.slots)
    (hd : decode (mT y).2.1 pc = .ok (.invokestatic ix, 3)) (hS : jS cl (.invokestatic z) pc 3 loc stk h K Rt) (hK : ∀ pc loc stk h, K pc loc stk h → jG D p l e R s m args below meth c Q x0 u0 pc loc stk h) : jG D p l e R s m args below meth c Q x0 u0 pc loc stk h := by
  intro H ls locs hM hL hs hl hq hx0 hu0
  obtain ⟨hn, hc8, v, h', hc, hS⟩ := hS
  obtain ⟨hMt, m1, m2⟩ := hcl _ _ _ _ hc
  obtain ⟨rc, rs⟩ := hKm _ _ _ _ hS
  obtain ⟨⟨z1, z2, z3, z4, z5, z6⟩, z7, z8⟩ := hz
  refine st_behind (a := ((stk.take (mT z).2.2.2.2.2.1).reverse.map (jV D)).toArray) hK hS ?_ m1 m2 hL hs hl hq hx0 hu0
  refine va_runS (As := (stk.take (mT z).2.2.2.2.2.1).reverse.map (jV D)) (rest := (stk.drop (mT z).2.2.2.2.2.1).map (jV D)) (n := (mT z).2.2.2.2.2.1) ⟨hX.1, hX.2.1, hX.2.2.1, hX.2.2.2.1, hX.2.2.2.2.1⟩ hMt
    ⟨callB_of _ hX.2.2.2.2.1 (jws_good z1) rfl rfl rfl (hX.2.2.2.2.1 _ z2) (hX.2.2.2.2.1 _ hw) ⟨z3.1, z3.2, z8⟩ ⟨hR.1, ?_⟩, hX.2.2.2.2.1 _ z7⟩ ⟨jPc_blind _ _ _, fun U hU hW => ⟨rfl, va_K.moved hW.alike hX.2.2.2.2.2.1, ?_, hX.2.2.2.2.2.2.2.2.2.warm hW, ?_⟩⟩ rfl ?_ ?_ (stk_split _ _ _) ?_ hd ⟨by omega, by omega⟩
  · show 8 + ((mT z).2.2.1 + 11) + 120 * d ≤ R.locals
    omega
  · rw [hU]; exact hM.moved hW.alike
  · exact fun w hw => hs w (List.mem_of_mem_take (List.mem_reverse.mp hw))
  · rw [List.length_map, List.length_reverse, List.length_take]; omega
  · show ls.size = _
    rw [hL.1, hN]
  · exact lv_room (by rw [cat_sum hM.fv]; exact hc8)
theorem oR_12 {o : Nat} (h : o < 12) : oR o = (kC o).1 := by
  rcases (show o = 0 ∨ o = 1 ∨ o = 2 ∨ o = 3 ∨ o = 4 ∨ o = 5 ∨ o = 6 ∨ o = 7 ∨ o = 8 ∨ o = 9 ∨ o = 10 ∨ o = 11 by omega) with rfl | rfl | rfl | rfl | rfl | rfl | rfl | rfl | rfl | rfl | rfl | rfl <;> rfl
/-- the receiver is an object of the method's class -/
theorem jM.recv {H : Heap} {o a : Nat} (hM : jM D s H h) (hK : va_K (D.2.2.1, D.2.2.2.1) vwCl [] s) (ho : o ≤ 12) (ht : jt h a = tg o) : ∃ cell : Cell, H[jA D a]? = some cell ∧ cell.vm.isStatics = false ∧ s.vm.findClass (oR o) = some cell.cls := by
  by_cases h12 : o = 12
  · subst h12
    have ht : jt h a = 60 := ht
    obtain ⟨⟨cell, q1, q2, q3, -⟩, -⟩ := (hM.1 a (by omega)).2.2 (by omega)
    exact ⟨cell, q1, q2, q3⟩
  · rw [tg_lt (by omega)] at ht
    obtain ⟨cell, a1, a2, a3, a4, a5⟩ := (hM.1 a (by omega)).1 (by omega)
    have e9 : jt h a - 1 = o := by omega
    rw [e9] at a2
    obtain ⟨-, hfc, -⟩ := hK.1 o _ (kC_get (by omega))
    exact ⟨cell, a1, by rw [a3]; rfl, by rw [oR_12 (by omega), a2]; exact hfc⟩
theorem map_len1 {x n : Nat} {q : Option MethodDescriptor} (h : q.map (fun d => d.parameters.length + 1) = some (n + 1)) : q.map (fun d => d.parameters.length) = some n := by
  cases q with
  | none => cases h
  | some d => simp at h ⊢; exact h
theorem st_virt (hX : jX D p s m args meth c y) {ix z d : Nat} (hz : mVi z) (hw : Cond.methodLink (oR (mT y).2.2.2.2.1) ix (mT z).1 ∈ gw) (hcl : ∀ as h v h', cl z as h v h' → jMt D l d z as h v h') (hN : loc.length = (mT y).2.2.1) (hR : d + 1 ≤ R.frames ∧ 120 * d + 120 ≤ R.locals) (hKm : ∀ pc loc stk h, K pc loc stk h → jx h - x0 ≤ R.cells ∧ ju h - u0 ≤ R.slots)
    (hd : decode (mT y).2.1 pc = .ok (.invokevirtual ix, 3)) (hS : jS cl (.invokevirtual z) pc 3 loc stk h K Rt) (hK : ∀ pc loc stk h, K pc loc stk h → jG D p l e R s m args below meth c Q x0 u0 pc loc stk h) : jG D p l e R s m args below meth c Q x0 u0 pc loc stk h := by
  intro H ls locs hM hL hs hl hq hx0 hu0
  obtain ⟨⟨a, hr, ht⟩, hn, hc8, v, h', hc, hS⟩ := hS
  obtain ⟨hMt, m1, m2⟩ := hcl _ _ _ _ hc
  obtain ⟨rc, rs⟩ := hKm _ _ _ _ hS
  obtain ⟨⟨z1, z2, z3, z4, z5, z6⟩, z7, z7', z8, z9⟩ := hz
  have hlen : (stk.take (mT z).2.2.2.2.2.1).reverse.length = (mT z).2.2.2.2.2.1 := by rw [List.length_reverse, List.length_take]; omega
  have hsp := stk_split (jV D) stk (mT z).2.2.2.2.2.1
  have hok : ∀ w ∈ (stk.take (mT z).2.2.2.2.2.1).reverse, vok w := fun w hw => hs w (List.mem_of_mem_take (List.mem_reverse.mp hw))
  generalize has : (stk.take (mT z).2.2.2.2.2.1).reverse = as at *
  cases as with
  | nil => cases hr
  | cons a0 as =>
    have hr : a0 = jP a := Option.some.inj hr
    subst hr
    have hne : ¬ jt h a = 0 := by rw [ht]; unfold tg; split <;> omega
    rw [List.map_cons, List.reverse_cons, List.append_assoc, List.singleton_append, hM.ref hne] at hsp
    have hnn : as.length + 1 = (mT z).2.2.2.2.2.1 := hlen
    rw [← hnn] at z8
    refine st_behind (a := (Value.ref (jA D a) :: as.map (jV D)).toArray) hK hS ?_ m1 m2 hL hs hl hq hx0 hu0
    refine va_runV (b := jA D a) (As := as.map (jV D)) (rest := (stk.drop (mT z).2.2.2.2.2.1).map (jV D)) (n := as.length) (C := (mT z).1.cls) ⟨hX.1, hX.2.1, hX.2.2.1, hX.2.2.2.1, hX.2.2.2.2.1⟩ hMt
      ⟨callB_of _ hX.2.2.2.2.1 (jws_good z1) rfl rfl rfl (hX.2.2.2.2.1 _ z2) (hX.2.2.2.2.1 _ hw) ⟨z3.1, z3.2, map_len1 (x := 0) z8⟩ ⟨hR.1, ?_⟩, hX.2.2.2.2.1 _ z7, hX.2.2.2.2.1 _ z7'⟩ ⟨jPc_blind _ _ _, by rw [z5]; exact hM.recv hX.2.2.2.2.2.1 z9 ht, fun U hU hW => ⟨by rw [List.map_cons, hM.ref hne], va_K.moved hW.alike hX.2.2.2.2.2.1, ?_, hX.2.2.2.2.2.2.2.2.2.warm hW, hok⟩⟩ rfl (List.length_map _) ?_ hsp ?_ hd ⟨by omega, by omega⟩
    · show 8 + ((mT z).2.2.1 + 11) + 120 * d ≤ R.locals
      omega
    · rw [hU]; exact hM.moved hW.alike
    · show ls.size = _
      rw [hL.1, hN]
    · exact lv_room (by rw [cat_sum hM.fv]; exact hc8)
theorem st_spec (hX : jX D p s m args meth c y) {ix z d : Nat} (hz : mSp z) (hw : Cond.methodLink (oR (mT y).2.2.2.2.1) ix (mT z).1 ∈ gw ∨ va_Nw (.methodLinkNest (oR (mT y).2.2.2.2.1) ix (mT z).1 "ProblemTexts") s) (hcl : ∀ as h v h', cl z as h v h' → jMt D l d z as h v h') (hN : loc.length = (mT y).2.2.1) (hR : d + 1 ≤ R.frames ∧ 120 * d + 120 ≤ R.locals) (hKm : ∀ pc loc stk h, K pc loc stk h → jx h - x0 ≤ R.cells ∧ ju h - u0 ≤ R.slots)
    (hd : decode (mT y).2.1 pc = .ok (.invokespecial ix, 3)) {z0 : Nat} (hz0 : z0 % 1000 = z) (hS : jS cl (.invokespecial z0) pc 3 loc stk h K Rt) (hK : ∀ pc loc stk h, K pc loc stk h → jG D p l e R s m args below meth c Q x0 u0 pc loc stk h) : jG D p l e R s m args below meth c Q x0 u0 pc loc stk h := by
  intro H ls locs hM hL hs hl hq hx0 hu0
  obtain ⟨⟨a, hr, ht⟩, hn, hc8, v, h', hc, hS⟩ := hS
  rw [hz0] at hr hn hc8 hc hS
  obtain ⟨hMt, m1, m2⟩ := hcl _ _ _ _ hc
  obtain ⟨rc, rs⟩ := hKm _ _ _ _ hS
  obtain ⟨⟨z1, z2, z3, z4, z5, z6⟩, z7, z9, z10, z8⟩ := hz
  have hlen : (stk.take (mT z).2.2.2.2.2.1).reverse.length = (mT z).2.2.2.2.2.1 := by rw [List.length_reverse, List.length_take]; omega
  have hsp := stk_split (jV D) stk (mT z).2.2.2.2.2.1
  have hok : ∀ w ∈ (stk.take (mT z).2.2.2.2.2.1).reverse, vok w := fun w hw => hs w (List.mem_of_mem_take (List.mem_reverse.mp hw))
  generalize has : (stk.take (mT z).2.2.2.2.2.1).reverse = as at *
  cases as with
  | nil => cases hr
  | cons a0 as =>
    have hr : a0 = jP a := Option.some.inj hr
    subst hr
    have hre : jV D (jP a) = .ref (jA D a) := jVp_2 ht
    rw [List.map_cons, List.reverse_cons, List.append_assoc, List.singleton_append, hre] at hsp
    have hnn : as.length + 1 = (mT z).2.2.2.2.2.1 := hlen
    rw [← hnn] at z8
    have hloc : 8 + ((mT z).2.2.1 + 11) + (rmd d (jx h' - jx h) (ju h' - ju h)).locals ≤ R.locals := by
      show 8 + ((mT z).2.2.1 + 11) + 120 * d ≤ R.locals
      omega
    have hg := jws_good z1
    unfold jMt jws at *
    rw [z10] at hMt z1 hg
    have hp : PreS s H (jPc D (jP a :: as) h) (.ref (jA D a) :: as.map (jV D)) := ⟨jPc_blind _ _ _, fun U hU hW => ⟨by rw [List.map_cons, hre], va_K.moved hW.alike hX.2.2.2.2.2.1, by rw [hU]; exact hM.moved hW.alike, hX.2.2.2.2.2.2.2.2.2.warm hW, hok⟩⟩
    refine st_behind (a := (Value.ref (jA D a) :: as.map (jV D)).toArray) hK hS ?_ m1 m2 hL hs hl hq hx0 hu0
    rcases hw with hw | hw
    · exact va_runI (b := jA D a) (As := as.map (jV D)) (rest := (stk.drop (mT z).2.2.2.2.2.1).map (jV D)) (n := as.length) ⟨hX.1, hX.2.1, hX.2.2.1, hX.2.2.2.1, hX.2.2.2.2.1⟩ hMt
        ⟨callB_of _ hX.2.2.2.2.1 hg rfl rfl rfl (hX.2.2.2.2.1 _ z2) (hX.2.2.2.2.1 _ hw) ⟨z3.1, z3.2, map_len1 (x := 0) z8⟩ ⟨hR.1, hloc⟩, z9, hX.2.2.2.2.1 _ z7⟩ hp rfl (List.length_map _) (by show ls.size = _; rw [hL.1, hN]) hsp (lv_room (by rw [cat_sum hM.fv]; exact hc8)) hd ⟨by omega, by omega⟩
    · exact va_runIN (b := jA D a) (As := as.map (jV D)) (rest := (stk.drop (mT z).2.2.2.2.2.1).map (jV D)) (n := as.length) ⟨hX.1, hX.2.1, hX.2.2.1, hX.2.2.2.1, hX.2.2.2.2.1⟩ hMt
        ⟨va_cnB _ hX.2.2.2.2.1 hg rfl rfl rfl hw (hX.2.2.2.2.1 _ z2) ⟨z3.1, z3.2, map_len1 (x := 0) z8⟩ ⟨hR.1, hloc⟩, z9, hX.2.2.2.2.1 _ z7⟩ hp rfl (List.length_map _) (by show ls.size = _; rw [hL.1, hN]) hsp (lv_room (by rw [cat_sum hM.fv]; exact hc8)) hd ⟨by omega, by omega⟩
theorem objI_words : Cond.instanceMethod Lib.objectInit ∈ gw ∧ Cond.code Lib.objectInit ⟨#[0xb1]⟩ 1 none ∈ gw := ⟨gw_of (by decide +kernel) rfl, gw_of (by decide +kernel) rfl⟩
theorem st_objI (hX : jX D p s m args meth c y) {ix : Nat} (hw : Cond.methodLink (oR (mT y).2.2.2.2.1) ix Lib.objectInit ∈ gw) (hN : loc.length = (mT y).2.2.1) (hR : 1 ≤ R.frames ∧ 20 ≤ R.locals)
    (hd : decode (mT y).2.1 pc = .ok (.invokespecial ix, 3)) (hS : jS cl .monitorenter pc 3 loc stk h K Rt) (hK : ∀ pc loc stk h, K pc loc stk h → jG D p l e R s m args below meth c Q x0 u0 pc loc stk h) : jG D p l e R s m args below meth c Q x0 u0 pc loc stk h := by
  intro H ls locs hM hL hs hl hq hx0 hu0
  obtain ⟨a, r, rfl, ha, hc8, hS⟩ := s1P_e hS
  replace hs := (List.forall_mem_cons.mp hs).2
  rw [List.map_cons, show jV D (jP a) = .ref (jA D a) from jVp_2 ha]
  have hrm := lv_room (m := m) (pc := pc) (ls := ls) (rest := []) (st := r.map (jV D)) (by rw [cat_sum hM.fv]; exact hc8)
  refine W.objInit hX.1 hX.2.1 hX.2.2.2.1 (hX.2.2.2.2.1 _ hw) (hX.2.2.2.2.1 _ objI_words.1) (hX.2.2.2.2.1 _ objI_words.2) rfl (by rw [hX.2.2.1, ← hN]; exact hL.1) rfl hd hR.1 ?_ ?_
  · have : 2 * (F0 m pc ls (.ref (jA D a) :: r.map (jV D))).monitorRoom + ((r.map (jV D)).map fun v => v.category).sum ≤ 8 := hrm
    omega
  · exact hK _ _ _ _ hS H ls locs hM hL hs hl hq hx0 hu0
theorem max_words : Cond.static Lib.Math.max.name ∈ lw_tbl ∧ Cond.initialized "java/lang/Math" ∈ lw_tbl ∧ Cond.code Lib.Math.max.name Lib.Math.max.code 2 (some .int) ∈ lw_tbl := ⟨by decide +kernel, by decide +kernel, by decide +kernel⟩
theorem st_max (hX : jX D p s m args meth c y) {ix : Nat} (hw : Cond.methodLink (oR (mT y).2.2.2.2.1) ix Lib.Math.max.name ∈ gw) (hN : loc.length = (mT y).2.2.1) (hR : 1 ≤ R.frames ∧ 30 ≤ R.locals) (hKm : ∀ pc loc stk h, K pc loc stk h → jx h - x0 ≤ R.cells ∧ ju h - u0 ≤ R.slots)
    (hd : decode (mT y).2.1 pc = .ok (.invokestatic ix, 3)) (hS : jS cl .saload pc 3 loc stk h K Rt) (hK : ∀ pc loc stk h, K pc loc stk h → jG D p l e R s m args below meth c Q x0 u0 pc loc stk h) : jG D p l e R s m args below meth c Q x0 u0 pc loc stk h := by
  intro H ls locs hM hL hs hl hq hx0 hu0
  obtain ⟨y1, r, rfl, hS⟩ := s1I_e hS
  obtain ⟨x1, r, rfl, hc8, hS⟩ := s1I_e hS
  obtain ⟨hy, hs⟩ := List.forall_mem_cons.mp hs
  obtain ⟨hx, hs⟩ := List.forall_mem_cons.mp hs
  have hy : r32 y1 := hy
  have hx : r32 x1 := hx
  obtain ⟨rc, rs⟩ := hKm _ _ _ _ hS
  refine va_mmax hX.1 hX.2.1 (by rw [hX.2.2.1, ← hN]; exact hL.1.symm) hX.2.2.2.1 (hX.2.2.2.2.1 _ hw) (hX.2.2.2.2.1 _ (gw_of max_words.1 rfl)) (hX.2.2.2.2.1 _ (gw_of max_words.2.1 rfl)) (hX.2.2.2.2.1 _ (gw_of max_words.2.2 rfl)) hR.1 (by rw [cat_sum hM.fv]; omega) rc rs hd ?_
  have g := hK _ _ _ _ hS H ls locs hM hL (List.forall_mem_cons.mpr ⟨(by show r32 (if _ then _ else _); split <;> assumption), hs⟩) hl hq hx0 hu0
  have e0 : (if Int32.ofInt x1 < Int32.ofInt y1 then Int32.ofInt y1 else Int32.ofInt x1) = Int32.ofInt (if x1 < y1 then y1 else x1) := by
    simp only [I_lt hx hy]
    split <;> rfl
  rw [e0]
  exact g
theorem min_words : Cond.static Lib.Math.min.name ∈ lw_tbl ∧ Cond.initialized "java/lang/Math" ∈ lw_tbl ∧ Cond.code Lib.Math.min.name Lib.Math.min.code 2 (some .int) ∈ lw_tbl := ⟨by decide +kernel, by decide +kernel, by decide +kernel⟩
theorem st_min (hX : jX D p s m args meth c y) {ix : Nat} (hw : Cond.methodLink (oR (mT y).2.2.2.2.1) ix Lib.Math.min.name ∈ gw) (hN : loc.length = (mT y).2.2.1) (hR : 1 ≤ R.frames ∧ 30 ≤ R.locals) (hKm : ∀ pc loc stk h, K pc loc stk h → jx h - x0 ≤ R.cells ∧ ju h - u0 ≤ R.slots)
    (hd : decode (mT y).2.1 pc = .ok (.invokestatic ix, 3)) (hS : jS cl .sastore pc 3 loc stk h K Rt) (hK : ∀ pc loc stk h, K pc loc stk h → jG D p l e R s m args below meth c Q x0 u0 pc loc stk h) : jG D p l e R s m args below meth c Q x0 u0 pc loc stk h := by
  intro H ls locs hM hL hs hl hq hx0 hu0
  obtain ⟨y1, r, rfl, hS⟩ := s1I_e hS
  obtain ⟨x1, r, rfl, hc8, hS⟩ := s1I_e hS
  obtain ⟨hy, hs⟩ := List.forall_mem_cons.mp hs
  obtain ⟨hx, hs⟩ := List.forall_mem_cons.mp hs
  have hy : r32 y1 := hy
  have hx : r32 x1 := hx
  obtain ⟨rc, rs⟩ := hKm _ _ _ _ hS
  refine va_mmin hX.1 hX.2.1 (by rw [hX.2.2.1, ← hN]; exact hL.1.symm) hX.2.2.2.1 (hX.2.2.2.2.1 _ hw) (hX.2.2.2.2.1 _ (gw_of min_words.1 rfl)) (hX.2.2.2.2.1 _ (gw_of min_words.2.1 rfl)) (hX.2.2.2.2.1 _ (gw_of min_words.2.2 rfl)) hR.1 (by rw [cat_sum hM.fv]; omega) rc rs hd ?_
  have g := hK _ _ _ _ hS H ls locs hM hL (List.forall_mem_cons.mpr ⟨(by show r32 (if _ then _ else _); split <;> assumption), hs⟩) hl hq hx0 hu0
  have e0 : (if Int32.ofInt y1 < Int32.ofInt x1 then Int32.ofInt y1 else Int32.ofInt x1) = Int32.ofInt (if y1 < x1 then y1 else x1) := by
    simp only [I_lt hy hx]
    split <;> rfl
  rw [e0]
  exact g
theorem minL_words : Cond.static Lib.MathLoose.min_long.x ∈ lw_tbl ∧ Cond.initialized "java/lang/Math" ∈ lw_tbl ∧ Cond.code Lib.MathLoose.min_long.x Lib.MathLoose.min_long.code 4 (some .long) ∈ lw_tbl := ⟨by decide +kernel, by decide +kernel, by decide +kernel⟩
theorem st_minL (hX : jX D p s m args meth c y) {ix : Nat} (hw : Cond.methodLink (oR (mT y).2.2.2.2.1) ix Lib.MathLoose.min_long.x ∈ gw) (hN : loc.length = (mT y).2.2.1) (hR : 1 ≤ R.frames ∧ 30 ≤ R.locals) (hKm : ∀ pc loc stk h, K pc loc stk h → jx h - x0 ≤ R.cells ∧ ju h - u0 ≤ R.slots)
    (hd : decode (mT y).2.1 pc = .ok (.invokestatic ix, 3)) (hS : jS cl .caload pc 3 loc stk h K Rt) (hK : ∀ pc loc stk h, K pc loc stk h → jG D p l e R s m args below meth c Q x0 u0 pc loc stk h) : jG D p l e R s m args below meth c Q x0 u0 pc loc stk h := by
  intro H ls locs hM hL hs hl hq hx0 hu0
  obtain ⟨y1, r, rfl, hS⟩ := s1L_e hS
  obtain ⟨x1, r, rfl, hc8, hS⟩ := s1L_e hS
  obtain ⟨hy, hs⟩ := List.forall_mem_cons.mp hs
  obtain ⟨hx, hs⟩ := List.forall_mem_cons.mp hs
  have hy : r64 y1 := hy
  have hx : r64 x1 := hx
  obtain ⟨rc, rs⟩ := hKm _ _ _ _ hS
  refine va_mmin_long hX.1 hX.2.1 (by rw [hX.2.2.1, ← hN]; exact hL.1.symm) hX.2.2.2.1 (hX.2.2.2.2.1 _ hw) (hX.2.2.2.2.1 _ (gw_of minL_words.1 rfl)) (hX.2.2.2.2.1 _ (gw_of minL_words.2.1 rfl)) (hX.2.2.2.2.1 _ (gw_of minL_words.2.2 rfl)) hR.1 (by rw [cat_sum hM.fv]; omega) rc rs hd ?_
  have g := hK _ _ _ _ hS H ls locs hM hL (List.forall_mem_cons.mpr ⟨(by show r64 (if _ then _ else _); split <;> assumption), hs⟩) hl hq hx0 hu0
  have e0 : (if Int64.ofInt y1 < Int64.ofInt x1 then Int64.ofInt y1 else Int64.ofInt x1) = Int64.ofInt (if y1 < x1 then y1 else x1) := by
    simp only [L_lt hy hx]
    split <;> rfl
  rw [e0]
  exact g
end ST4
