/-! A LOGIC FOR THE ABSTRACT MACHINE -/
theorem s1I_x {α : Type} {st : List AV} {k : α → Int → List AV → Prop} (h : s1I st (fun x r => ∃ a, k a x r)) : ∃ a, s1I st (k a) := by
  obtain ⟨x, r, rfl, a, h⟩ := s1I_e h
  exact ⟨a, h⟩
theorem s1L_x {α : Type} {st : List AV} {k : α → Int → List AV → Prop} (h : s1L st (fun x r => ∃ a, k a x r)) : ∃ a, s1L st (k a) := by
  obtain ⟨x, r, rfl, a, h⟩ := s1L_e h
  exact ⟨a, h⟩
theorem s1P_x {α : Type} {st : List AV} {k : α → Nat → List AV → Prop} (h : s1P st (fun x r => ∃ a, k a x r)) : ∃ a, s1P st (k a) := by
  obtain ⟨x, r, rfl, a, h⟩ := s1P_e h
  exact ⟨a, h⟩
theorem s1V_x {α : Type} {st : List AV} {k : α → AV → List AV → Prop} (h : s1V st (fun x r => ∃ a, k a x r)) : ∃ a, s1V st (k a) := by
  obtain ⟨x, r, rfl, e, a, h⟩ := s1V_e h
  exact ⟨a, e, h⟩
theorem and_x {α : Type} {A : Prop} {B : α → Prop} (h : A ∧ ∃ a, B a) : ∃ a, A ∧ B a := h.2.elim fun a q => ⟨a, h.1, q⟩
theorem br_x {α : Type} {c : Prop} {A B : α → Prop} (h : (c → ∃ a, A a) ∧ (¬ c → ∃ a, B a)) : ∃ a, (c → A a) ∧ (¬ c → B a) := by
  by_cases q : c
  · obtain ⟨a, z⟩ := h.1 q
    exact ⟨a, fun _ => z, fun z => absurd q z⟩
  · obtain ⟨a, z⟩ := h.2 q
    exact ⟨a, fun z => absurd z q, fun _ => z⟩
theorem jpf_x {α : Type} {ty : FieldType} {stk : List AV} {h : AH} {k : Nat} {K : α → Nat → List AV → AH → Prop} (hS : jpf ty stk h k (fun a r h' => ∃ z, K z a r h')) : ∃ z, jpf ty stk h k (K z) := by
  cases ty with
  | long => exact s1L_x (s1L_m hS fun x r hS => s1P_x hS)
  | int => exact s1I_x (s1I_m hS fun x r hS => s1P_x hS)
  | boolean => exact s1I_x (s1I_m hS fun x r hS => s1P_x (s1P_m hS fun a r hS => and_x hS))
  | object n => exact s1P_x (s1P_m hS fun x r hS => s1P_x hS)
  | array n => exact s1P_x (s1P_m hS fun x r hS => s1P_x hS)
  | _ => exact hS.elim
theorem jcl_x {α : Type} {cl : Nat → List AV → AH → Option AV → AH → Prop} {y : Nat} {stk : List AV} {h : AH} {K : α → List AV → AH → Prop} (hS : jcl cl y stk h (fun st h' => ∃ z, K z st h')) : ∃ z, jcl cl y stk h (K z) := by
  obtain ⟨a, b, v, h', c, z, d⟩ := hS
  exact ⟨z, a, b, v, h', c, d⟩
set_option maxHeartbeats 4000000 in
theorem jS_ex {α : Type} {cl : Nat → List AV → AH → Option AV → AH → Prop} {ins : Instr} {pc len : Nat} {loc stk : List AV} {h : AH} {K : α → Nat → List AV → List AV → AH → Prop} {R : α → Option AV → AH → Prop} (hS : jS cl ins pc len loc stk h (fun pc loc stk h => ∃ a, K a pc loc stk h) (fun v h => ∃ a, R a v h)) : ∃ a, jS cl ins pc len loc stk h (K a) (R a) := by
  cases ins with
  | sipush c => exact and_x hS
  | jsr_w c => exact and_x hS
  | jsr c => exact hS
  | iload i => exact s1I_x hS
  | lload i => exact s1L_x hS
  | aload i => exact s1P_x hS
  | istore i => exact s1I_x (s1I_m hS fun _ _ hS => and_x hS)
  | astore i => exact s1P_x (s1P_m hS fun _ _ hS => and_x hS)
  | lstore i => exact s1L_x (s1L_m hS fun _ _ hS => and_x hS)
  | iinc i c => exact s1I_x (s1I_m hS fun _ _ hS => and_x hS)
  | iadd => exact s1I_x (s1I_m hS fun _ _ hS => s1I_x hS)
  | isub => exact s1I_x (s1I_m hS fun _ _ hS => s1I_x hS)
  | imul => exact s1I_x (s1I_m hS fun _ _ hS => s1I_x hS)
  | iand => exact s1I_x (s1I_m hS fun _ _ hS => s1I_x hS)
  | ior => exact s1I_x (s1I_m hS fun _ _ hS => s1I_x hS)
  | ixor => exact s1I_x (s1I_m hS fun _ _ hS => s1I_x hS)
  | ishl => exact s1I_x (s1I_m hS fun _ _ hS => s1I_x hS)
  | ishr => exact s1I_x (s1I_m hS fun _ _ hS => s1I_x hS)
  | iushr => exact s1I_x (s1I_m hS fun _ _ hS => s1I_x hS)
  | idiv => exact s1I_x (s1I_m hS fun _ _ hS => s1I_x (s1I_m hS fun _ _ hS => and_x hS))
  | irem => exact s1I_x (s1I_m hS fun _ _ hS => s1I_x (s1I_m hS fun _ _ hS => and_x hS))
  | ladd => exact s1L_x (s1L_m hS fun _ _ hS => s1L_x hS)
  | lsub => exact s1L_x (s1L_m hS fun _ _ hS => s1L_x hS)
  | lmul => exact s1L_x (s1L_m hS fun _ _ hS => s1L_x hS)
  | land => exact s1L_x (s1L_m hS fun _ _ hS => s1L_x hS)
  | lor => exact s1L_x (s1L_m hS fun _ _ hS => s1L_x hS)
  | lcmp => exact s1L_x (s1L_m hS fun _ _ hS => s1L_x hS)
  | ldiv => exact s1L_x (s1L_m hS fun _ _ hS => s1L_x (s1L_m hS fun _ _ hS => and_x hS))
  | lrem => exact s1L_x (s1L_m hS fun _ _ hS => s1L_x (s1L_m hS fun _ _ hS => and_x hS))
  | lshl => exact s1I_x (s1I_m hS fun _ _ hS => s1L_x hS)
  | lshr => exact s1I_x (s1I_m hS fun _ _ hS => s1L_x hS)
  | lushr => exact s1I_x (s1I_m hS fun _ _ hS => s1L_x hS)
  | ineg => exact s1I_x hS
  | i2l => exact s1I_x hS
  | i2b => exact s1I_x hS
  | i2c => exact s1I_x hS
  | lneg => exact s1L_x hS
  | l2i => exact s1L_x hS
  | dup => exact s1V_x hS
  | pop => exact s1V_x hS
  | dup2 => exact s1V_x (s1V_m hS fun _ _ hS => s1V_x hS)
  | ifCond c t => exact s1I_x (s1I_m hS fun _ _ hS => br_x hS)
  | if_icmp c t => exact s1I_x (s1I_m hS fun _ _ hS => s1I_x (s1I_m hS fun _ _ hS => br_x hS))
  | ifnull t => exact s1P_x (s1P_m hS fun _ _ hS => and_x ⟨hS.1, br_x hS.2⟩)
  | ifnonnull t => exact s1P_x (s1P_m hS fun _ _ hS => and_x ⟨hS.1, (br_x ⟨hS.2.2, hS.2.1⟩).imp fun _ z => ⟨z.2, z.1⟩⟩)
  | goto t => exact hS
  | tableswitch d lo hi ts => exact s1I_x (s1I_m hS fun _ _ hS => br_x ⟨hS.1, fun q => (hS.2 q).elim fun t ht => ht.2.elim fun z hz => ⟨z, t, ht.1, hz⟩⟩)
  | lookupswitch d ps => exact s1I_x hS
  | getfield f => exact s1P_x (s1P_m hS fun _ _ hS => and_x hS)
  | putfield f => exact jpf_x (ty := kTy (f / 100) (f % 100)) (stk := stk) (h := h) (k := f % 100) (jpf_m (K := fun a r h' => jt h a = tg (f / 100) ∧ f / 100 < 12 ∧ ∃ z, K z (pc + len) loc r h') (K2 := fun a r h' => ∃ z, jt h a = tg (f / 100) ∧ f / 100 < 12 ∧ K z (pc + len) loc r h') hS fun a r h' _ _ hS => and_x ⟨hS.1, and_x hS.2⟩)
  | new ci => exact and_x hS
  | newarray t => exact s1I_x (s1I_m hS fun _ _ hS => and_x ⟨hS.1, and_x ⟨hS.2.1, and_x hS.2.2⟩⟩)
  | anewarray f => exact s1I_x (s1I_m hS fun _ _ hS => and_x ⟨hS.1, and_x ⟨hS.2.1, and_x hS.2.2⟩⟩)
  | multianewarray f g => exact s1I_x (s1I_m hS fun _ _ hS => s1I_x (s1I_m hS fun _ _ hS => and_x ⟨hS.1, and_x ⟨hS.2.1, and_x ⟨hS.2.2.1, and_x hS.2.2.2⟩⟩⟩))
  | arraylength => exact s1P_x (s1P_m hS fun _ _ hS => and_x ⟨hS.1, and_x hS.2⟩)
  | iaload => exact s1I_x (s1I_m hS fun _ _ hS => s1P_x (s1P_m hS fun _ _ hS => and_x hS))
  | laload => exact s1I_x (s1I_m hS fun _ _ hS => s1P_x (s1P_m hS fun _ _ hS => and_x hS))
  | baload => exact s1I_x (s1I_m hS fun _ _ hS => s1P_x (s1P_m hS fun _ _ hS => and_x hS))
  | aaload => exact s1I_x (s1I_m hS fun _ _ hS => s1P_x (s1P_m hS fun _ _ hS => and_x hS))
  | iastore => exact s1I_x (s1I_m hS fun _ _ hS => s1I_x (s1I_m hS fun _ _ hS => s1P_x (s1P_m hS fun _ _ hS => and_x hS)))
  | lastore => exact s1L_x (s1L_m hS fun _ _ hS => s1I_x (s1I_m hS fun _ _ hS => s1P_x (s1P_m hS fun _ _ hS => and_x hS)))
  | bastore => exact s1I_x (s1I_m hS fun _ _ hS => s1I_x (s1I_m hS fun _ _ hS => s1P_x (s1P_m hS fun _ _ hS => and_x hS)))
  | aastore => exact s1P_x (s1P_m hS fun _ _ hS => s1I_x (s1I_m hS fun _ _ hS => s1P_x (s1P_m hS fun _ _ hS => and_x ⟨hS.1, and_x hS.2⟩)))
  | invokevirtual f => exact and_x ⟨hS.1, jcl_x hS.2⟩
  | invokestatic f => exact jcl_x hS
  | invokespecial f => exact and_x ⟨hS.1, jcl_x hS.2⟩
  | saload => exact s1I_x (s1I_m hS fun _ _ hS => s1I_x (s1I_m hS fun _ _ hS => and_x hS))
  | sastore => exact s1I_x (s1I_m hS fun _ _ hS => s1I_x (s1I_m hS fun _ _ hS => and_x hS))
  | caload => exact s1L_x (s1L_m hS fun _ _ hS => s1L_x (s1L_m hS fun _ _ hS => and_x hS))
  | monitorenter => exact s1P_x (s1P_m hS fun _ _ hS => and_x ⟨hS.1, and_x hS.2⟩)
  | ireturn => exact s1I_x (s1I_m hS fun _ _ hS => and_x hS)
  | lreturn => exact s1L_x (s1L_m hS fun _ _ hS => and_x hS)
  | areturn => exact s1P_x (s1P_m hS fun _ _ hS => and_x hS)
  | return_ => exact and_x hS
  | _ => exact hS.elim
theorem jcl_u {cl cl2 : Nat → List AV → AH → Option AV → AH → Prop} (hc : ∀ y as h v h', cl y as h v h' → cl2 y as h v h') {y : Nat} {stk : List AV} {h : AH} {K : List AV → AH → Prop} (hS : jcl cl y stk h K) : jcl cl2 y stk h K := by
  obtain ⟨a, b, v, h', c, d⟩ := hS
  exact ⟨a, b, v, h', hc _ _ _ _ _ c, d⟩
theorem jS_up {cl cl2 : Nat → List AV → AH → Option AV → AH → Prop} (hc : ∀ y as h v h', cl y as h v h' → cl2 y as h v h') {ins : Instr} {pc len : Nat} {loc stk : List AV} {h : AH} {K : Nat → List AV → List AV → AH → Prop} {R : Option AV → AH → Prop} (hS : jS cl ins pc len loc stk h K R) : jS cl2 ins pc len loc stk h K R := by
  cases ins with
  | invokevirtual y => exact ⟨hS.1, jcl_u hc hS.2⟩
  | invokestatic y => exact jcl_u hc hS
  | invokespecial e => exact ⟨hS.1, jcl_u hc hS.2⟩
  | _ => exact hS
/-- the frame of method y comes from here to its end, with Q -/
def WF (d y pc : Nat) (loc stk : List AV) (h : AH) (Q : Option AV → AH → Prop) : Prop := ∃ n v h', jPa (jE d) (jcode y) (mT y).2.2.2.1 v h' n pc loc stk h ∧ Q v h'
theorem WF.step {d y pc len : Nat} {ins : Instr} {loc stk : List AV} {h : AH} {Q : Option AV → AH → Prop} (hc : jc (jcode y) pc = some (ins, len)) (hS : jS (jE d) ins pc len loc stk h (fun pc loc stk h => WF d y pc loc stk h Q) (fun v h' => rtOK (mT y).2.2.2.1 v ∧ Q v h')) : WF d y pc loc stk h Q := by
  have h1 : jS (jE d) ins pc len loc stk h (fun pc loc stk h => ∃ a : Nat × Option AV × AH, jPa (jE d) (jcode y) (mT y).2.2.2.1 a.2.1 a.2.2 a.1 pc loc stk h ∧ Q a.2.1 a.2.2) (fun v h' => ∃ a : Nat × Option AV × AH, (rtOK (mT y).2.2.2.1 v ∧ v = a.2.1 ∧ h' = a.2.2) ∧ Q a.2.1 a.2.2) :=
    jS_mono hS (jE_mono d) (fun _ _ _ _ _ _ _ ⟨n, v, h', q⟩ => ⟨(n, v, h'), q⟩) (fun v h' _ _ q => ⟨(0, v, h'), ⟨q.1, rfl, rfl⟩, q.2⟩)
  obtain ⟨⟨n, v, h'⟩, h2⟩ := jS_ex h1
  refine ⟨n + 1, v, h', ?_, jS_const (jS_mono h2 (jE_mono d) (fun _ _ _ _ _ _ _ q => q.2) (fun _ _ _ _ q => q.2))⟩
  unfold jPa
  rw [hc]
  exact jS_mono h2 (jE_mono d) (fun _ _ _ _ _ _ _ q => q.1) (fun _ _ _ _ q => q.1)
theorem WF.mono {d y pc : Nat} {loc stk : List AV} {h : AH} {Q Q2 : Option AV → AH → Prop} (hW : WF d y pc loc stk h Q) (f : ∀ v h', Q v h' → Q2 v h') : WF d y pc loc stk h Q2 := by
  obtain ⟨n, v, h', a, b⟩ := hW
  exact ⟨n, v, h', a, f v h' b⟩
/-- a call that ends with P: by what the method answers -/
def callW (d : Nat) (rt : Option FieldType) (y : Nat) (as : List AV) (h : AH) (P : List AV → AH → Prop) : Prop := match rt with
  | none => ∃ h1, jE d y as h none h1 ∧ P [] h1
  | some .long => ∃ x h1, jE d y as h (some (jL x)) h1 ∧ P [jL x] h1
  | some (.object _) => ∃ x h1, jE d y as h (some (jP x)) h1 ∧ P [jP x] h1
  | some (.array _) => ∃ x h1, jE d y as h (some (jP x)) h1 ∧ P [jP x] h1
  | some _ => ∃ x h1, jE d y as h (some (jI x)) h1 ∧ P [jI x] h1
theorem callW_e {d : Nat} {rt : Option FieldType} {y : Nat} {as : List AV} {h : AH} {P : List AV → AH → Prop} (hc : callW d rt y as h P) : ∃ v h1, jE d y as h v h1 ∧ P v.toList h1 := by
  unfold callW at hc
  split at hc
  · obtain ⟨h1, a, b⟩ := hc; exact ⟨_, h1, a, b⟩
  · obtain ⟨x, h1, a, b⟩ := hc; exact ⟨_, h1, a, b⟩
  · obtain ⟨x, h1, a, b⟩ := hc; exact ⟨_, h1, a, b⟩
  · obtain ⟨x, h1, a, b⟩ := hc; exact ⟨_, h1, a, b⟩
  · obtain ⟨x, h1, a, b⟩ := hc; exact ⟨_, h1, a, b⟩
def nA (y : Nat) : Nat := (mT y).2.2.2.2.2.1
theorem bif_e {c : Bool} {P : Prop} (h : bif c then P else False) : c = true ∧ P := by
  cases c
  · exact h.elim
  · exact ⟨rfl, h⟩
theorem bif_n {c : Bool} {P : Prop} (h : bif c then False else P) : c = false ∧ P := by
  cases c
  · exact ⟨rfl, h⟩
  · exact h.elim
def s0P : List AV → (Nat → Prop) → Prop
  | .inr (.inr (.inl a)) :: _, k => k a
  | _, _ => False
theorem s0P_e {st : List AV} {k : Nat → Prop} (h : s0P st k) : ∃ a, st[0]? = some (jP a) ∧ k a := by
  match st, h with
  | .inr (.inr (.inl a)) :: _, h => exact ⟨a, rfl, h⟩
def s1W : List AV → (AV → List AV → Prop) → Prop
  | v :: r, k => bif isL v then False else k v r
  | _, _ => False
theorem s1W_e {st : List AV} {k : AV → List AV → Prop} (h : s1W st k) : s1V st k := by
  match st, h with
  | v :: r, h => exact bif_n h
def goCall (d y : Nat) (stk : List AV) (h : AH) (K : List AV → AH → Prop) : Prop := bif Nat.ble (nA y) stk.length && Nat.ble ((stk.drop (nA y)).map jcat).sum 8 then callW d (mT y).2.2.2.1 y (stk.take (nA y)).reverse h (fun st h1 => K (st ++ stk.drop (nA y)) h1) else False
theorem goCall_e {d y : Nat} {stk : List AV} {h : AH} {K : List AV → AH → Prop} (hc : goCall d y stk h K) : jcl (jE d) y stk h K := by
  obtain ⟨a, c⟩ := bif_e hc
  rw [Bool.and_eq_true] at a
  obtain ⟨v, h1, e1, e2⟩ := callW_e c
  exact ⟨Nat.le_of_ble_eq_true a.1, Nat.le_of_ble_eq_true a.2, v, h1, e1, e2⟩
/-- a switch, case by case -/
def jtab (x : Int) (k : Int → Prop) : Int → List Int → Prop
  | _, [] => True
  | lo, t :: r => (x = lo → k t) ∧ jtab x k (lo + 1) r
theorem jtab_e {x : Int} {k : Int → Prop} : ∀ {ts : List Int} {lo : Int}, jtab x k lo ts → lo ≤ x → x < lo + ts.length → ∃ t, ts[(x - lo).toNat]? = some t ∧ k t
  | [], lo, _, h1, h2 => by simp at h2; omega
  | t :: r, lo, hj, h1, h2 => by
    by_cases e : x = lo
    · refine ⟨t, ?_, hj.1 e⟩
      rw [e, Int.sub_self]; rfl
    · obtain ⟨u, e1, e2⟩ := jtab_e hj.2 (by omega) (by simp only [List.length_cons] at h2; omega)
      refine ⟨u, ?_, e2⟩
      rw [show (x - lo).toNat = (x - (lo + 1)).toNat + 1 by omega]
      exact e1
def jlk (x : Int) (k : Int → Prop) (d : Int) : List (Int × Int) → Prop
  | [] => k d
  | (a, t) :: r => (x = a → k t) ∧ (¬ x = a → jlk x k d r)
theorem jlk_e {x d : Int} {k : Int → Prop} : ∀ {ps : List (Int × Int)}, jlk x k d ps → k (jlook d ps x)
  | [], h => h
  | (a, t) :: r, h => by
    show k (if x = a then t else jlook d r x)
    by_cases e : x = a
    · rw [if_pos e]; exact h.1 e
    · rw [if_neg e]; exact jlk_e (h.2 e)
/-- an end, with what the answer's type asks -/
def rtQ (rt : Option FieldType) (v : Option AV) (P : Prop) : Prop := match rt, v with
  | none, none => P
  | some .int, some (.inl _) => P
  | some .boolean, some (.inl x) => (x = 0 ∨ x = 1) ∧ P
  | some .byte, some (.inl x) => (-128 ≤ x ∧ x ≤ 127) ∧ P
  | some .char, some (.inl x) => (0 ≤ x ∧ x ≤ 65535) ∧ P
  | some .long, some (.inr (.inl _)) => P
  | some (.object _), some (.inr (.inr (.inl _))) => P
  | some (.array _), some (.inr (.inr (.inl _))) => P
  | _, _ => False
theorem rtQ_e {rt : Option FieldType} {v : Option AV} {P : Prop} (h : rtQ rt v P) : rtOK rt v ∧ P := by
  unfold rtQ at h
  split at h
  · exact ⟨trivial, h⟩
  · exact ⟨trivial, h⟩
  · exact h
  · exact h
  · exact h
  · exact ⟨trivial, h⟩
  · exact ⟨trivial, h⟩
  · exact ⟨trivial, h⟩
  · exact h.elim
/-- one step, in the form in which conditions are told: what a program sees is taken off -/
def jS2 (d : Nat) (ins : Instr) (pc len : Nat) (loc stk : List AV) (h : AH) (K : Nat → List AV → List AV → AH → Prop) (R : Option AV → AH → Prop) : Prop := match ins with
  | .sipush c => bif decide (-2147483648 ≤ c) && decide (c ≤ 2147483647) then K (pc + len) loc (jI c :: stk) h else False
  | .jsr_w c => bif decide (-9223372036854775808 ≤ c) && decide (c ≤ 9223372036854775807) then K (pc + len) loc (jL c :: stk) h else False
  | .istore i => s1I stk fun x r => bif Nat.ble (i + 1) loc.length then K (pc + len) (lset i (jI x) loc) r h else False
  | .lstore i => s1L stk fun x r => bif Nat.ble (i + 2) loc.length then K (pc + len) (lset2 i (jL x) loc) r h else False
  | .astore i => s1P stk fun x r => bif Nat.ble (i + 1) loc.length then K (pc + len) (lset i (jP x) loc) r h else False
  | .iinc i c => s1I [loc.getD i jU] fun x _ => bif Nat.ble (i + 1) loc.length then K (pc + len) (lset i (jI (w32 (x + c))) loc) stk h else False
  | .dup => s1W stk fun v r => K (pc + len) loc (v :: v :: r) h
  | .pop => s1W stk fun _ r => K (pc + len) loc r h
  | .dup2 => s1W stk fun v r => s1W r fun w r => K (pc + len) loc (v :: w :: v :: w :: r) h
  | .putfield f => bif Nat.ble (f / 100 + 1) 12 then jpf (kTy (f / 100) (f % 100)) stk h (f % 100) (fun a r h' => jt h a = tg (f / 100) ∧ K (pc + len) loc r h') else False
  | .new ci => bif Nat.ble (ci + 1) 12 then K (pc + len) loc (jP (jx h) :: stk) (nw h (ci + 1) (kC ci).2.2) else False
  | .newarray t => s1I stk fun n r => bif Nat.ble (aT t + 1) 4 then 0 ≤ n ∧ n ≤ 1000000 ∧ K (pc + len) loc (jP (jx h) :: r) (nw h (20 + aT t) n.toNat) else False
  | .anewarray f => s1I stk fun n r => bif Nat.beq f 5 then 0 ≤ n ∧ n ≤ 1000000 ∧ K (pc + len) loc (jP (jx h) :: r) (nw h 25 n.toNat) else False
  | .saload => s1I stk fun y r => s1I r fun x r => bif Nat.ble (r.map jcat).sum 8 then K (pc + len) loc (jI (if x < y then y else x) :: r) h else False
  | .sastore => s1I stk fun y r => s1I r fun x r => bif Nat.ble (r.map jcat).sum 8 then K (pc + len) loc (jI (if y < x then y else x) :: r) h else False
  | .caload => s1L stk fun y r => s1L r fun x r => bif Nat.ble (r.map jcat).sum 8 then K (pc + len) loc (jL (if y < x then y else x) :: r) h else False
  | .monitorenter => s1P stk fun a r => bif Nat.ble (r.map jcat).sum 8 then 2 ≤ a ∧ K (pc + len) loc r h else False
  | .tableswitch d lo hi ts => s1I stk fun x r => bif decide (hi - lo + 1 = (ts.toList.length : Int)) then ((x < lo ∨ hi < x) → K d.toNat loc r h) ∧ jtab x (fun t => K t.toNat loc r h) lo ts.toList else False
  | .lookupswitch d ps => s1I stk fun x r => jlk x (fun t => K t.toNat loc r h) d ps.toList
  | .invokevirtual y => s0P (stk.take (nA y)).reverse (fun a => jt h a = tg (mT y).2.2.2.2.1 ∧ goCall d y stk h (fun st h1 => K (pc + len) loc st h1))
  | .invokestatic y => goCall d y stk h (fun st h1 => K (pc + len) loc st h1)
  | .invokespecial e => s0P (stk.take (nA (e % 1000))).reverse (fun a => 2 ≤ a ∧ goCall d (e % 1000) stk h (fun st h1 => K (pc + len) loc st h1))
  | .ireturn => s1I stk fun x r => bif r.isEmpty then R (some (jI x)) h else False
  | .lreturn => s1L stk fun x r => bif r.isEmpty then R (some (jL x)) h else False
  | .areturn => s1P stk fun x r => bif r.isEmpty then R (some (jP x)) h else False
  | .return_ => bif stk.isEmpty then R none h else False
  | i => jS (jE d) i pc len loc stk h K R
theorem jS2_e {d : Nat} {ins : Instr} {pc len : Nat} {loc stk : List AV} {h : AH} {K : Nat → List AV → List AV → AH → Prop} {R : Option AV → AH → Prop} (hS : jS2 d ins pc len loc stk h K R) : jS (jE d) ins pc len loc stk h K R := by
  cases ins with
  | sipush c =>
    obtain ⟨a, b⟩ := bif_e hS
    rw [Bool.and_eq_true, decide_eq_true_eq, decide_eq_true_eq] at a
    exact ⟨a, b⟩
  | jsr_w c =>
    obtain ⟨a, b⟩ := bif_e hS
    rw [Bool.and_eq_true, decide_eq_true_eq, decide_eq_true_eq] at a
    exact ⟨a, b⟩
  | istore i => exact s1I_m hS fun x r hS => ⟨Nat.le_of_ble_eq_true (bif_e hS).1, (bif_e hS).2⟩
  | lstore i => exact s1L_m hS fun x r hS => ⟨Nat.le_of_ble_eq_true (bif_e hS).1, (bif_e hS).2⟩
  | astore i => exact s1P_m hS fun x r hS => ⟨Nat.le_of_ble_eq_true (bif_e hS).1, (bif_e hS).2⟩
  | iinc i c => exact s1I_m hS fun x r hS => ⟨Nat.le_of_ble_eq_true (bif_e hS).1, (bif_e hS).2⟩
  | dup => exact s1W_e hS
  | pop => exact s1W_e hS
  | dup2 => exact s1V_m (s1W_e hS) fun v r hS => s1W_e hS
  | putfield f =>
    obtain ⟨a, b⟩ := bif_e hS
    have b : jpf (kTy (f / 100) (f % 100)) stk h (f % 100) (fun a r h' => jt h a = tg (f / 100) ∧ K (pc + len) loc r h') := b
    exact jpf_m (K2 := fun x r h' => jt h x = tg (f / 100) ∧ f / 100 < 12 ∧ K (pc + len) loc r h') b fun x r h' _ _ hS => ⟨hS.1, Nat.le_of_ble_eq_true a, hS.2⟩
  | new ci => exact ⟨Nat.le_of_ble_eq_true (bif_e hS).1, (bif_e hS).2⟩
  | newarray t => exact s1I_m hS fun x r hS => ⟨(bif_e hS).2.1, (bif_e hS).2.2.1, Nat.le_of_ble_eq_true (bif_e hS).1, (bif_e hS).2.2.2⟩
  | anewarray t => exact s1I_m hS fun x r hS => ⟨(bif_e hS).2.1, (bif_e hS).2.2.1, Nat.eq_of_beq_eq_true (bif_e hS).1, (bif_e hS).2.2.2⟩
  | saload => exact s1I_m hS fun x r hS => s1I_m hS fun x r hS => ⟨Nat.le_of_ble_eq_true (bif_e hS).1, (bif_e hS).2⟩
  | sastore => exact s1I_m hS fun x r hS => s1I_m hS fun x r hS => ⟨Nat.le_of_ble_eq_true (bif_e hS).1, (bif_e hS).2⟩
  | caload => exact s1L_m hS fun x r hS => s1L_m hS fun x r hS => ⟨Nat.le_of_ble_eq_true (bif_e hS).1, (bif_e hS).2⟩
  | monitorenter => exact s1P_m hS fun x r hS => ⟨(bif_e hS).2.1, Nat.le_of_ble_eq_true (bif_e hS).1, (bif_e hS).2.2⟩
  | ireturn => exact s1I_m hS fun x r hS => ⟨List.isEmpty_iff.mp (bif_e hS).1, (bif_e hS).2⟩
  | lreturn => exact s1L_m hS fun x r hS => ⟨List.isEmpty_iff.mp (bif_e hS).1, (bif_e hS).2⟩
  | areturn => exact s1P_m hS fun x r hS => ⟨List.isEmpty_iff.mp (bif_e hS).1, (bif_e hS).2⟩
  | return_ => exact ⟨List.isEmpty_iff.mp (bif_e hS).1, (bif_e hS).2⟩
  | tableswitch d lo hi ts =>
    refine s1I_m hS fun x r hS => ?_
    obtain ⟨a, b⟩ := bif_e hS
    have a := of_decide_eq_true a
    exact ⟨b.1, fun q => jtab_e b.2 (by omega) (by omega)⟩
  | lookupswitch d ps => exact s1I_m hS fun x r hS => jlk_e (k := fun t => K t.toNat loc r h) hS
  | invokevirtual y =>
    obtain ⟨a, e1, e2, e3⟩ := s0P_e hS
    exact ⟨⟨a, e1, e2⟩, goCall_e e3⟩
  | invokestatic y => exact goCall_e hS
  | invokespecial e =>
    obtain ⟨a, e1, e2, e3⟩ := s0P_e hS
    exact ⟨⟨a, e1, e2⟩, goCall_e e3⟩
  | _ => exact hS
def cutAt : List Nat → Nat → Bool
  | [], _ => false
  | a :: r, q => bif Nat.beq a q then true else cutAt r q
/-- what must hold so that the frame goes from here, up to the places 'cuts' -/
def WB (d y : Nat) (cd : List (Nat × Instr × Nat)) (cuts : List Nat) (Q : Option AV → AH → Prop) : Nat → Nat → List AV → List AV → AH → Prop
  | 0, _, _, _, _ => False
  | n + 1, pc, loc, stk, h => match jc cd pc with
    | some q => jS2 d q.1 pc q.2 loc stk h (fun pc loc stk h => bif cutAt cuts pc then WF d y pc loc stk h Q else WB d y cd cuts Q n pc loc stk h) (fun v h' => rtQ (mT y).2.2.2.1 v (Q v h'))
    | none => False
theorem WB_ok {d y : Nat} {cd : List (Nat × Instr × Nat)} {cuts : List Nat} {Q : Option AV → AH → Prop} (hcd : jcode y = cd) : ∀ {n pc : Nat} {loc stk : List AV} {h : AH}, WB d y cd cuts Q n pc loc stk h → WF d y pc loc stk h Q
  | 0, _, _, _, _, hb => hb.elim
  | n + 1, pc, loc, stk, h, hb => by
    unfold WB at hb
    cases hq : jc cd pc with
    | none => rw [hq] at hb; exact hb.elim
    | some q =>
      rw [hq] at hb
      refine WF.step (by rw [hcd]; exact hq) (jS_mono (jS2_e hb) (jE_mono d) (fun pc' loc' stk' h' _ _ _ hk => ?_) (fun _ _ _ _ q => rtQ_e q))
      cases hc : cutAt cuts pc' with
      | true => rw [hc] at hk; exact hk
      | false => rw [hc] at hk; exact WB_ok hcd hk
/-- from the frame to the method -/
theorem jE_of {d y : Nat} {as : List AV} {h : AH} {P : Option AV → AH → Prop} (hn : (jarg as).length ≤ (mT y).2.2.1) (hW : WF d y 0 (jent (mT y).2.2.1 as) [] h P) : ∃ v h', jE (d + 1) y as h v h' ∧ P v h' := by
  obtain ⟨n, v, h', a, b⟩ := hW
  exact ⟨v, h', ⟨hn, n, a⟩, b⟩
/-- more room -/
theorem jE_up : ∀ {d y : Nat} {as : List AV} {h : AH} {v : Option AV} {h' : AH}, jE d y as h v h' → jE (d + 1) y as h v h'
  | 0, _, _, _, _, _, hp => hp.elim
  | d + 1, y, as, h, v, h', hp => by
    obtain ⟨hn, n, hp⟩ := hp
    refine ⟨hn, n, ?_⟩
    have key : ∀ (n pc : Nat) (loc stk : List AV) (g : AH), jPa (jE d) (jcode y) (mT y).2.2.2.1 v h' n pc loc stk g → jPa (jE (d + 1)) (jcode y) (mT y).2.2.2.1 v h' n pc loc stk g := by
      intro n
      induction n with
      | zero => intro _ _ _ _ q; exact q.elim
      | succ n ih =>
        intro pc loc stk g q
        unfold jPa at q ⊢
        cases hc : jc (jcode y) pc with
        | none => rw [hc] at q; exact q.elim
        | some z =>
          rw [hc] at q
          dsimp only at q ⊢
          exact jS_up (fun _ _ _ _ _ e => jE_up e) (jS_mono q (jE_mono d) (fun pc' loc' stk' g' _ _ _ hk => ih _ _ _ _ hk) (fun _ _ _ _ r => r))
    exact key n _ _ _ _ hp
theorem jE_le {d d' y : Nat} {as : List AV} {h : AH} {v : Option AV} {h' : AH} (hd : d ≤ d') (hp : jE d y as h v h') : jE d' y as h v h' := by
  obtain ⟨k, rfl⟩ := Nat.le.dest hd
  induction k with
  | zero => exact hp
  | succ k ih => exact jE_up (ih (by omega))
