/-! WHAT THE ABSTRACT MACHINE DOES, THE MACHINE DOES -/
theorem jc_in : ∀ {L : List (Nat × Instr × Nat)} {pc : Nat} {q : Instr × Nat}, jc L pc = some q → (pc, q) ∈ L
  | (a, c) :: r, pc, q, h => by
    unfold jc at h
    cases hb : Nat.beq a pc with
    | true =>
      rw [hb] at h
      have hc : c = q := Option.some.inj h
      subst hc
      rw [Nat.eq_of_beq_eq_true hb]
      exact List.mem_cons_self
    | false =>
      rw [hb] at h
      exact List.mem_cons_of_mem _ (jc_in h)
theorem jPa_mono {cl : Nat → List AV → AH → Option AV → AH → Prop} {cd : List (Nat × Instr × Nat)} {rt : Option FieldType} {v0 : Option AV} {h0 : AH} (hcl : ∀ y as h v h', cl y as h v h' → jx h ≤ jx h' ∧ ju h ≤ ju h') : ∀ (n pc : Nat) (loc stk : List AV) (h : AH), jPa cl cd rt v0 h0 n pc loc stk h → jx h ≤ jx h0 ∧ ju h ≤ ju h0
  | 0, _, _, _, _, hp => hp.elim
  | n + 1, pc, loc, stk, h, hp => by
    unfold jPa at hp
    cases hq : jc cd pc with
    | none => rw [hq] at hp; exact hp.elim
    | some q =>
      rw [hq] at hp
      refine jS_const (B := jx h ≤ jx h0 ∧ ju h ≤ ju h0) (jS_mono hp hcl (fun pc' loc' stk' h' _ q1 q2 hk => ?_) (fun v h' q1 q2 hr => ?_))
      · obtain ⟨r1, r2⟩ := jPa_mono hcl n pc' loc' stk' h' hk
        exact ⟨Nat.le_trans q1 r1, Nat.le_trans q2 r2⟩
      · rw [hr.2.2] at q1 q2
        exact ⟨q1, q2⟩
theorem jE_mono : ∀ (d y : Nat) (as : List AV) (h : AH) (v : Option AV) (h' : AH), jE d y as h v h' → jx h ≤ jx h' ∧ ju h ≤ ju h'
  | 0, _, _, _, _, _, hp => hp.elim
  | d + 1, y, as, h, v, h', hp => by
    obtain ⟨-, n, hp⟩ := hp
    exact jPa_mono (fun y as h v h' => jE_mono d y as h v h') n _ _ _ _ hp
theorem jarg_in {D : jD} (hf : jfv D) : ∀ (as : List AV) (k i : Nat) (v : AV), (jarg as)[i]? = some v → ¬ v = jU → (k + i, jV D v) ∈ lv_args k (as.map (jV D))
  | [], k, i, v, h, hu => by cases h
  | a :: r, k, i, v, h, hu => by
    rw [List.map_cons]
    unfold lv_args
    rw [jV_cat hf, jcat]
    unfold jarg at h
    cases hl : isL a with
    | true =>
      rw [hl] at h
      simp only [if_true] at h ⊢
      match i, h with
      | 0, h => cases h; exact List.mem_cons_self
      | 1, h => cases h; exact absurd rfl hu
      | j + 2, h =>
        have h2 := jarg_in hf r (k + 2) j v h hu
        rw [show k + (j + 2) = k + 2 + j by omega]
        exact List.mem_cons_of_mem _ h2
    | false =>
      rw [hl] at h
      simp only [Bool.false_eq_true, if_false, show ¬ ((1 : Nat) = 2) by decide] at h ⊢
      match i, h with
      | 0, h => cases h; exact List.mem_cons_self
      | j + 1, h =>
        have h2 := jarg_in hf r (k + 1) j v h hu
        rw [show k + (j + 1) = k + 1 + j by omega]
        exact List.mem_cons_of_mem _ h2
theorem jarg_len {D : jD} (hf : jfv D) : ∀ as : List AV, (lg_sl (as.map (jV D))).length = (jarg as).length
  | [] => rfl
  | a :: r => by
    have ih := jarg_len hf r
    have e : lg_sl ((a :: r).map (jV D)) = (if (jV D a).category = 2 then [Slot.val (jV D a), Slot.second] else [Slot.val (jV D a)]) ++ lg_sl (r.map (jV D)) := by simp [lg_sl]
    rw [e, List.length_append, ih, jV_cat hf, jcat]
    rw [show jarg (a :: r) = if isL a then a :: jU :: jarg r else a :: jarg r from rfl]
    cases hl : isL a <;> simp <;> omega
theorem jent_len {n : Nat} {as : List AV} (h : (jarg as).length ≤ n) : (jent n as).length = n := by
  unfold jent
  rw [List.length_append, List.length_replicate]
  omega
theorem jent_ok {n : Nat} {as : List AV} (h : ∀ v ∈ as, vok v) : ∀ v ∈ jent n as, vok v := by
  intro v hv
  unfold jent at hv
  rcases List.mem_append.mp hv with hv | hv
  · have : ∀ (as : List AV), (∀ v ∈ as, vok v) → v ∈ jarg as → vok v := by
      intro as
      induction as with
      | nil => intro _ q; cases q
      | cons a r ih =>
        intro hok q
        obtain ⟨o1, o2⟩ := List.forall_mem_cons.mp hok
        unfold jarg at q
        split at q
        · rcases List.mem_cons.mp q with rfl | q
          · exact o1
          · rcases List.mem_cons.mp q with rfl | q
            · trivial
            · exact ih o2 q
        · rcases List.mem_cons.mp q with rfl | q
          · exact o1
          · exact ih o2 q
    exact this as h hv
  · rw [List.eq_of_mem_replicate hv]
    trivial
theorem jLo_ent {D : jD} (hf : jfv D) {ls : Array Slot} {n : Nat} {as : List AV} (hn : (jarg as).length ≤ n) (h : lv_has ls n (lv_args 0 (as.map (jV D)))) : jLo D ls (jent n as) := by
  refine ⟨by rw [jent_len hn]; exact h.1, h.2.1, fun i v hv hu => ?_⟩
  unfold jent at hv
  by_cases hi : i < (jarg as).length
  · rw [List.getElem?_append_left hi] at hv
    have := jarg_in hf as 0 i v hv hu
    rw [Nat.zero_add] at this
    exact h.2.2 _ this
  · rw [List.getElem?_append_right (by omega)] at hv
    exact absurd (List.eq_of_mem_replicate (List.mem_of_getElem? hv)) hu
section SND
variable {D : jD} {p : Program} {l : Launch} {e : Env} {R : Room} {s : State} {m : MethodId} {args : Array Value} {below : List Frame} {meth : Method} {c : Code} {Q : State → Prop} {x0 u0 y d : Nat}
variable {cl : Nat → List AV → AH → Option AV → AH → Prop} {K : Nat → List AV → List AV → AH → Prop} {pc : Nat} {loc stk : List AV} {h : AH}
theorem rt_int {rt : Option FieldType} {x : Int} (h : rtOK rt (some (jI x))) : ∃ ty, rt = some ty ∧ (r32 x → narrow ty (.int (Int32.ofInt x)) = .int (Int32.ofInt x)) := by
  match rt, h with
  | some .int, _ => exact ⟨_, rfl, fun _ => rfl⟩
  | some .boolean, h => exact ⟨_, rfl, fun _ => by rcases (show x = 0 ∨ x = 1 from h) with rfl | rfl <;> rfl⟩
  | some .byte, h => exact ⟨_, rfl, fun _ => nar_byte h⟩
  | some .char, h =>
    refine ⟨_, rfl, fun _ => ?_⟩
    have h : 0 ≤ x ∧ x ≤ 65535 := h
    obtain ⟨q, rfl⟩ := Int.eq_ofNat_of_zero_le h.1
    rw [Int32.ofInt_eq_ofNat]
    exact (pk_charN (show q < 65536 by omega)).1
theorem st_ret (hX : jX D p s m args meth c y) {v0 : Option AV} {h0 : AH} {raw : Instr} (hraw : raw = .ireturn ∨ raw = .lreturn ∨ raw = .areturn ∨ raw = .return_) (hd : decode (mT y).2.1 pc = .ok (raw, 1)) (hS : jS cl raw pc 1 loc stk h K (fun v h' => rtOK (mT y).2.2.2.1 v ∧ v = v0 ∧ h' = h0)) :
    jG D p l e R s m args below meth c (MQ below (jQc D v0 h0) args s (jx h0 - x0) (ju h0 - u0) (jNew D)) x0 u0 pc loc stk h := by
  intro H ls locs hM hL hs hl hq hx0 hu0
  have hlk := hX.2.2.2.2.2.2.2.1
  have hrt := hX.2.2.2.2.2.2.1
  rcases hraw with rfl | rfl | rfl | rfl
  · obtain ⟨x, r, rfl, rfl, h1, rfl, rfl⟩ := s1I_e hS
    obtain ⟨hx, -⟩ := List.forall_mem_cons.mp hs
    obtain ⟨ty, e1, e2⟩ := rt_int h1
    exact W.zret hX.1 hX.2.1 (hrt.trans e1) (e2 hx) (fun t ht hW => ⟨rfl, by rw [ht]; exact hM.moved hW.alike, fun x e => by cases e; exact hx⟩) hq hd hlk
  · obtain ⟨x, r, rfl, rfl, h1, rfl, rfl⟩ := s1L_e hS
    obtain ⟨hx, -⟩ := List.forall_mem_cons.mp hs
    have e1 : (mT y).2.2.2.1 = some .long := by
      revert h1
      generalize (mT y).2.2.2.1 = rt
      intro h1
      match rt, h1 with
      | some .long, _ => rfl
    exact W.lret hX.1 hX.2.1 (hrt.trans e1) (fun t ht hW => ⟨rfl, by rw [ht]; exact hM.moved hW.alike, fun x e => by cases e; exact hx⟩) hq hd hlk
  · obtain ⟨x, r, rfl, rfl, h1, rfl, rfl⟩ := s1P_e hS
    have e1 : ∃ rt, (mT y).2.2.2.1 = some rt ∧ ((∃ n, rt = .object n) ∨ ∃ t, rt = .array t) := by
      revert h1
      generalize (mT y).2.2.2.1 = rt
      intro h1
      match rt, h1 with
      | some (.object n), _ => exact ⟨_, rfl, Or.inl ⟨n, rfl⟩⟩
      | some (.array n), _ => exact ⟨_, rfl, Or.inr ⟨n, rfl⟩⟩
    obtain ⟨rt, e1, e2⟩ := e1
    exact W.aret hX.1 hX.2.1 (hrt.trans e1) e2 (jVp_or hM.fv x) (fun t ht hW => ⟨rfl, by rw [ht]; exact hM.moved hW.alike, fun x e => by cases e; trivial⟩) hq hd hlk
  · obtain ⟨rfl, h1, rfl, rfl⟩ := hS
    have e1 : (mT y).2.2.2.1 = none := by
      revert h1
      generalize (mT y).2.2.2.1 = rt
      intro h1
      match rt, h1 with
      | none, _ => rfl
      | some t, h1 => exact absurd h1 (by cases t <;> exact fun q => q)
    exact W.vret hX.1 hX.2.1 (hrt.trans e1) (fun t ht hW => ⟨rfl, by rw [ht]; exact hM.moved hW.alike, fun x e => by cases e⟩) hq hd hlk
/-- a path of the abstract frame is one of the machine's -/
theorem path_ok (hX : jX D p s m args meth c y) (hok : ∀ q ∈ jcode y, okI y q = true) (hcl : ∀ z, z < 202 → ∀ as h v h', jE d z as h v h' → jMt D l d z as h v h') (hR : d + 1 ≤ R.frames ∧ 120 * d + 120 ≤ R.locals) {v0 : Option AV} {h0 : AH} (hC : jx h0 - x0 ≤ R.cells ∧ ju h0 - u0 ≤ R.slots)
    (hE : ∀ raw pc loc stk h (K : Nat → List AV → List AV → AH → Prop), (raw = .ireturn ∨ raw = .lreturn ∨ raw = .areturn ∨ raw = .return_) → decode (mT y).2.1 pc = .ok (raw, 1) → jS (jE d) raw pc 1 loc stk h K (fun v h' => rtOK (mT y).2.2.2.1 v ∧ v = v0 ∧ h' = h0) → jG D p l e R s m args below meth c Q x0 u0 pc loc stk h) :
    ∀ (n pc : Nat) (loc stk : List AV) (h : AH), loc.length = (mT y).2.2.1 → jPa (jE d) (jcode y) (mT y).2.2.2.1 v0 h0 n pc loc stk h → jG D p l e R s m args below meth c Q x0 u0 pc loc stk h
  | 0, _, _, _, _, _, hp => hp.elim
  | n + 1, pc, loc, stk, h, hN, hp => by
    unfold jPa at hp
    cases hq : jc (jcode y) pc with
    | none => rw [hq] at hp; exact hp.elim
    | some q =>
      rw [hq] at hp
      obtain ⟨raw, hd, ht, hl, hr⟩ := okI_e (hok _ (jc_in hq))
      have hS := jS_mono (K2 := fun pc loc stk h => loc.length = (mT y).2.2.1 ∧ jPa (jE d) (jcode y) (mT y).2.2.2.1 v0 h0 n pc loc stk h) (R2 := fun v h' => rtOK (mT y).2.2.2.1 v ∧ v = v0 ∧ h' = h0) hp (jE_mono d) (fun pc' loc' stk' h' e1 _ _ hk => ⟨e1.trans hN, hk⟩) (fun v h' _ _ hr => hr)
      dsimp only at hd ht hl hr
      rw [← ht] at hS
      refine step_ok hX hN hcl hR (fun pc loc stk h hk => ?_) (fun pc loc stk h hk => path_ok hX hok hcl hR hC hE n pc loc stk h hk.1 hk.2) hd hl hr hS (fun h1 h2 h3 h4 => hE _ _ _ _ _ _ h1 h3 h4)
      obtain ⟨q1, q2⟩ := jPa_mono (jE_mono d) n _ _ _ _ hk.2
      omega
end SND
theorem sound {D : jD} {l : Launch} (hall : ∀ y, y < 202 → ∀ q ∈ jcode y, okI y q = true) : ∀ (d y : Nat), y < 202 → ∀ (as : List AV) (h : AH) (v : Option AV) (h' : AH), jE d y as h v h' → jMt D l d y as h v h'
  | 0, _, _, _, _, _, _, hp => hp.elim
  | d + 1, y, hy, as, h, v, h', hp => by
    obtain ⟨m1, m2⟩ := jE_mono _ _ _ _ _ _ hp
    refine ⟨?_, m1, m2⟩
    obtain ⟨hn, n, hp⟩ := hp
    obtain ⟨z1, z2, z3, z4, z5, z6⟩ := mOK_of hy
    refine Met.ofW (cc := (mT y).2.1) (maxL := (mT y).2.2.1) (ret := (mT y).2.2.2.1) z6 rfl ?_
    intro p e s m args below meth c s₁ B hml hv
    obtain ⟨rfl, hK, hM, hStr, hvk⟩ := hv
    have hts := atoms_spec (ws := jws y) B.pre
    have hown : s.vm.findClass (mT y).1.cls = some m.cls := findClass_of_methodNamed B.named
    rw [z5] at hown
    have hX : jX D p s m ((as.map (jV D)).toArray) meth c y := ⟨B.exec, B.bytes, hml, hown, fun w hw => hts w (List.mem_cons_of_mem _ hw), hK, B.returns, B.notSynchronized, fun hk => ((name_of_methodNamed B.named B.method).1).trans (mSp_of hy hk).2.2.1, hStr⟩
    have hl := lv_entry (as.map (jV D)) (n := (mT y).2.2.1) (by rw [jarg_len hM.fv]; exact hn)
    rw [lg_entry_eq]
    generalize (lg_sl (as.map (jV D)) ++ List.replicate ((mT y).2.2.1 - (lg_sl (as.map (jV D))).length) Slot.unset).toArray = ls at hl ⊢
    have g := path_ok (l := l) (R := rmd (d + 1) (jx h' - jx h) (ju h' - ju h)) (Q := MQ below (jQc D v h') ((as.map (jV D)).toArray) s (jx h' - jx h) (ju h' - ju h) (jNew D)) (x0 := jx h) (u0 := ju h) (e := e) (below := below) hX (hall y hy) (sound hall d) ⟨Nat.le_refl _, by show 120 * d + 120 ≤ 120 * (d + 1); omega⟩ ⟨Nat.le_refl _, Nat.le_refl _⟩
      (fun raw pc loc stk h K h1 h2 h3 => st_ret hX h1 h2 h3) n 0 _ [] h (jent_len hn) hp s.heap ls [] hM (jLo_ent hM.fv hn hl) (fun v hv => by cases hv) (jent_ok hvk) (fun q hq => by cases hq) (Nat.le_refl _) (Nat.le_refl _)
    rw [Nat.sub_self, Nat.sub_self] at g
    exact g
