/-! A STEP'S GOING ON MAY BE WEAKENED; the locals keep their number, the heap only grows -/
theorem s1I_m {st : List AV} {k k2 : Int → List AV → Prop} (h : s1I st k) (f : ∀ x r, k x r → k2 x r) : s1I st k2 := by
  obtain ⟨x, r, rfl, h⟩ := s1I_e h
  exact f x r h
theorem s1L_m {st : List AV} {k k2 : Int → List AV → Prop} (h : s1L st k) (f : ∀ x r, k x r → k2 x r) : s1L st k2 := by
  obtain ⟨x, r, rfl, h⟩ := s1L_e h
  exact f x r h
theorem s1P_m {st : List AV} {k k2 : Nat → List AV → Prop} (h : s1P st k) (f : ∀ x r, k x r → k2 x r) : s1P st k2 := by
  obtain ⟨x, r, rfl, h⟩ := s1P_e h
  exact f x r h
theorem s1V_m {st : List AV} {k k2 : AV → List AV → Prop} (h : s1V st k) (f : ∀ x r, k x r → k2 x r) : s1V st k2 := by
  obtain ⟨x, r, rfl, e, h⟩ := s1V_e h
  exact ⟨e, f x r h⟩
theorem jpf_m {ty : FieldType} {stk : List AV} {h : AH} {k : Nat} {K K2 : Nat → List AV → AH → Prop} (hS : jpf ty stk h k K) (f : ∀ a r h', jx h' = jx h → ju h' = ju h → K a r h' → K2 a r h') : jpf ty stk h k K2 := by
  cases ty with
  | long => exact s1L_m hS fun x r hS => s1P_m hS fun a r hS => f _ _ _ rfl rfl hS
  | int => exact s1I_m hS fun x r hS => s1P_m hS fun a r hS => f _ _ _ rfl rfl hS
  | boolean => exact s1I_m hS fun x r hS => s1P_m hS fun a r hS => ⟨hS.1, f _ _ _ rfl rfl hS.2⟩
  | object n => exact s1P_m hS fun x r hS => s1P_m hS fun a r hS => f _ _ _ rfl rfl hS
  | array n => exact s1P_m hS fun x r hS => s1P_m hS fun a r hS => f _ _ _ rfl rfl hS
  | _ => exact hS.elim
theorem jpf_c {ty : FieldType} {stk : List AV} {h : AH} {k : Nat} {B : Prop} (hS : jpf ty stk h k (fun _ _ _ => B)) : B := by
  obtain ⟨v, a, r, h', -, hB, -⟩ := jpf_e hS
  exact hB
theorem lset2_len (i : Nat) (v : AV) (loc : List AV) : (lset2 i v loc).length = loc.length := by rw [lset2, List.length_set, lset_len]
theorem jcl_m {cl : Nat → List AV → AH → Option AV → AH → Prop} {y : Nat} {stk : List AV} {h : AH} {K K2 : List AV → AH → Prop} (hS : jcl cl y stk h K) (hcl : ∀ y as h v h', cl y as h v h' → jx h ≤ jx h' ∧ ju h ≤ ju h') (f : ∀ st h', jx h ≤ jx h' → ju h ≤ ju h' → K st h' → K2 st h') : jcl cl y stk h K2 := by
  obtain ⟨a, b, v, h', c, d⟩ := hS
  obtain ⟨q1, q2⟩ := hcl _ _ _ _ _ c
  exact ⟨a, b, v, h', c, f _ _ q1 q2 d⟩
set_option maxHeartbeats 4000000 in
theorem jS_mono {cl : Nat → List AV → AH → Option AV → AH → Prop} {ins : Instr} {pc len : Nat} {loc stk : List AV} {h : AH} {K K2 : Nat → List AV → List AV → AH → Prop} {R R2 : Option AV → AH → Prop} (hS : jS cl ins pc len loc stk h K R) (hcl : ∀ y as h v h', cl y as h v h' → jx h ≤ jx h' ∧ ju h ≤ ju h')
    (hK : ∀ pc' loc' stk' h', loc'.length = loc.length → jx h ≤ jx h' → ju h ≤ ju h' → K pc' loc' stk' h' → K2 pc' loc' stk' h') (hR : ∀ v h', jx h ≤ jx h' → ju h ≤ ju h' → R v h' → R2 v h') : jS cl ins pc len loc stk h K2 R2 := by
  have z := Nat.le_refl (jx h)
  have w := Nat.le_refl (ju h)
  cases ins with
  | sipush c => exact ⟨hS.1, hK _ _ _ _ rfl z w hS.2⟩
  | jsr_w c => exact ⟨hS.1, hK _ _ _ _ rfl z w hS.2⟩
  | jsr c => exact hK _ _ _ _ rfl z w hS
  | iload i => exact s1I_m hS fun _ _ hS => hK _ _ _ _ rfl z w hS
  | lload i => exact s1L_m hS fun _ _ hS => hK _ _ _ _ rfl z w hS
  | aload i => exact s1P_m hS fun _ _ hS => hK _ _ _ _ rfl z w hS
  | istore i => exact s1I_m hS fun _ _ hS => ⟨hS.1, hK _ _ _ _ (lset_len _ _ _) z w hS.2⟩
  | astore i => exact s1P_m hS fun _ _ hS => ⟨hS.1, hK _ _ _ _ (lset_len _ _ _) z w hS.2⟩
  | lstore i => exact s1L_m hS fun _ _ hS => ⟨hS.1, hK _ _ _ _ (lset2_len _ _ _) z w hS.2⟩
  | iinc i c => exact s1I_m hS fun _ _ hS => ⟨hS.1, hK _ _ _ _ (lset_len _ _ _) z w hS.2⟩
  | iadd => exact s1I_m hS fun _ _ hS => s1I_m hS fun _ _ hS => hK _ _ _ _ rfl z w hS
  | isub => exact s1I_m hS fun _ _ hS => s1I_m hS fun _ _ hS => hK _ _ _ _ rfl z w hS
  | imul => exact s1I_m hS fun _ _ hS => s1I_m hS fun _ _ hS => hK _ _ _ _ rfl z w hS
  | iand => exact s1I_m hS fun _ _ hS => s1I_m hS fun _ _ hS => hK _ _ _ _ rfl z w hS
  | ior => exact s1I_m hS fun _ _ hS => s1I_m hS fun _ _ hS => hK _ _ _ _ rfl z w hS
  | ixor => exact s1I_m hS fun _ _ hS => s1I_m hS fun _ _ hS => hK _ _ _ _ rfl z w hS
  | ishl => exact s1I_m hS fun _ _ hS => s1I_m hS fun _ _ hS => hK _ _ _ _ rfl z w hS
  | ishr => exact s1I_m hS fun _ _ hS => s1I_m hS fun _ _ hS => hK _ _ _ _ rfl z w hS
  | iushr => exact s1I_m hS fun _ _ hS => s1I_m hS fun _ _ hS => hK _ _ _ _ rfl z w hS
  | idiv => exact s1I_m hS fun _ _ hS => s1I_m hS fun _ _ hS => ⟨hS.1, hK _ _ _ _ rfl z w hS.2⟩
  | irem => exact s1I_m hS fun _ _ hS => s1I_m hS fun _ _ hS => ⟨hS.1, hK _ _ _ _ rfl z w hS.2⟩
  | ladd => exact s1L_m hS fun _ _ hS => s1L_m hS fun _ _ hS => hK _ _ _ _ rfl z w hS
  | lsub => exact s1L_m hS fun _ _ hS => s1L_m hS fun _ _ hS => hK _ _ _ _ rfl z w hS
  | lmul => exact s1L_m hS fun _ _ hS => s1L_m hS fun _ _ hS => hK _ _ _ _ rfl z w hS
  | land => exact s1L_m hS fun _ _ hS => s1L_m hS fun _ _ hS => hK _ _ _ _ rfl z w hS
  | lor => exact s1L_m hS fun _ _ hS => s1L_m hS fun _ _ hS => hK _ _ _ _ rfl z w hS
  | lcmp => exact s1L_m hS fun _ _ hS => s1L_m hS fun _ _ hS => hK _ _ _ _ rfl z w hS
  | ldiv => exact s1L_m hS fun _ _ hS => s1L_m hS fun _ _ hS => ⟨hS.1, hK _ _ _ _ rfl z w hS.2⟩
  | lrem => exact s1L_m hS fun _ _ hS => s1L_m hS fun _ _ hS => ⟨hS.1, hK _ _ _ _ rfl z w hS.2⟩
  | lshl => exact s1I_m hS fun _ _ hS => s1L_m hS fun _ _ hS => hK _ _ _ _ rfl z w hS
  | lshr => exact s1I_m hS fun _ _ hS => s1L_m hS fun _ _ hS => hK _ _ _ _ rfl z w hS
  | lushr => exact s1I_m hS fun _ _ hS => s1L_m hS fun _ _ hS => hK _ _ _ _ rfl z w hS
  | ineg => exact s1I_m hS fun _ _ hS => hK _ _ _ _ rfl z w hS
  | i2l => exact s1I_m hS fun _ _ hS => hK _ _ _ _ rfl z w hS
  | i2b => exact s1I_m hS fun _ _ hS => hK _ _ _ _ rfl z w hS
  | i2c => exact s1I_m hS fun _ _ hS => hK _ _ _ _ rfl z w hS
  | lneg => exact s1L_m hS fun _ _ hS => hK _ _ _ _ rfl z w hS
  | l2i => exact s1L_m hS fun _ _ hS => hK _ _ _ _ rfl z w hS
  | dup => exact s1V_m hS fun _ _ hS => hK _ _ _ _ rfl z w hS
  | pop => exact s1V_m hS fun _ _ hS => hK _ _ _ _ rfl z w hS
  | dup2 => exact s1V_m hS fun _ _ hS => s1V_m hS fun _ _ hS => hK _ _ _ _ rfl z w hS
  | ifCond c t => exact s1I_m hS fun _ _ hS => ⟨fun q => hK _ _ _ _ rfl z w (hS.1 q), fun q => hK _ _ _ _ rfl z w (hS.2 q)⟩
  | if_icmp c t => exact s1I_m hS fun _ _ hS => s1I_m hS fun _ _ hS => ⟨fun q => hK _ _ _ _ rfl z w (hS.1 q), fun q => hK _ _ _ _ rfl z w (hS.2 q)⟩
  | ifnull t => exact s1P_m hS fun _ _ hS => ⟨hS.1, fun q => hK _ _ _ _ rfl z w (hS.2.1 q), fun q => hK _ _ _ _ rfl z w (hS.2.2 q)⟩
  | ifnonnull t => exact s1P_m hS fun _ _ hS => ⟨hS.1, fun q => hK _ _ _ _ rfl z w (hS.2.1 q), fun q => hK _ _ _ _ rfl z w (hS.2.2 q)⟩
  | goto t => exact hK _ _ _ _ rfl z w hS
  | tableswitch d lo hi ts => exact s1I_m hS fun _ _ hS => ⟨fun q => hK _ _ _ _ rfl z w (hS.1 q), fun q => (hS.2 q).imp fun t ht => ⟨ht.1, hK _ _ _ _ rfl z w ht.2⟩⟩
  | lookupswitch d ps => exact s1I_m hS fun _ _ hS => hK _ _ _ _ rfl z w hS
  | getfield f => exact s1P_m hS fun _ _ hS => ⟨hS.1, hK _ _ _ _ rfl z w hS.2⟩
  | putfield f => exact jpf_m (ty := kTy (f / 100) (f % 100)) (stk := stk) (h := h) (k := f % 100) (K := fun a r h' => jt h a = tg (f / 100) ∧ f / 100 < 12 ∧ K (pc + len) loc r h') (K2 := fun a r h' => jt h a = tg (f / 100) ∧ f / 100 < 12 ∧ K2 (pc + len) loc r h') hS fun a r h' e1 e2 hS => ⟨hS.1, hS.2.1, hK _ _ _ _ rfl (Nat.le_of_eq e1.symm) (Nat.le_of_eq e2.symm) hS.2.2⟩
  | new ci => exact ⟨hS.1, hK _ _ _ _ rfl (Nat.le_succ _) (Nat.le_add_right _ _) hS.2⟩
  | newarray t => exact s1I_m hS fun _ _ hS => ⟨hS.1, hS.2.1, hS.2.2.1, hK _ _ _ _ rfl (Nat.le_succ _) (Nat.le_add_right _ _) hS.2.2.2⟩
  | anewarray f => exact s1I_m hS fun _ _ hS => ⟨hS.1, hS.2.1, hS.2.2.1, hK _ _ _ _ rfl (Nat.le_succ _) (Nat.le_add_right _ _) hS.2.2.2⟩
  | multianewarray f g => exact s1I_m hS fun _ _ hS => s1I_m hS fun _ _ hS => ⟨hS.1, hS.2.1, hS.2.2.1, hS.2.2.2.1, hK _ _ _ _ rfl (by show jx h ≤ jx h + 1 + _; omega) (by show ju h ≤ ju h + _ + _; omega) hS.2.2.2.2⟩
  | arraylength => exact s1P_m hS fun _ _ hS => ⟨hS.1, hS.2.1, hK _ _ _ _ rfl z w hS.2.2⟩
  | iaload => exact s1I_m hS fun _ _ hS => s1P_m hS fun _ _ hS => ⟨hS.1, hK _ _ _ _ rfl z w hS.2⟩
  | laload => exact s1I_m hS fun _ _ hS => s1P_m hS fun _ _ hS => ⟨hS.1, hK _ _ _ _ rfl z w hS.2⟩
  | baload => exact s1I_m hS fun _ _ hS => s1P_m hS fun _ _ hS => ⟨hS.1, hK _ _ _ _ rfl z w hS.2⟩
  | aaload => exact s1I_m hS fun _ _ hS => s1P_m hS fun _ _ hS => ⟨hS.1, hK _ _ _ _ rfl z w hS.2⟩
  | iastore => exact s1I_m hS fun _ _ hS => s1I_m hS fun _ _ hS => s1P_m hS fun _ _ hS => ⟨hS.1, hK _ _ _ _ rfl z w hS.2⟩
  | lastore => exact s1L_m hS fun _ _ hS => s1I_m hS fun _ _ hS => s1P_m hS fun _ _ hS => ⟨hS.1, hK _ _ _ _ rfl z w hS.2⟩
  | bastore => exact s1I_m hS fun _ _ hS => s1I_m hS fun _ _ hS => s1P_m hS fun _ _ hS => ⟨hS.1, hK _ _ _ _ rfl z w hS.2⟩
  | aastore => exact s1P_m hS fun _ _ hS => s1I_m hS fun _ _ hS => s1P_m hS fun _ _ hS => ⟨hS.1, hS.2.1, hK _ _ _ _ rfl z w hS.2.2⟩
  | invokevirtual f => exact ⟨hS.1, jcl_m hS.2 hcl fun _ _ q1 q2 hS => hK _ _ _ _ rfl q1 q2 hS⟩
  | invokestatic f => exact jcl_m hS hcl fun _ _ q1 q2 hS => hK _ _ _ _ rfl q1 q2 hS
  | invokespecial f => exact ⟨hS.1, jcl_m hS.2 hcl fun _ _ q1 q2 hS => hK _ _ _ _ rfl q1 q2 hS⟩
  | saload => exact s1I_m hS fun _ _ hS => s1I_m hS fun _ _ hS => ⟨hS.1, hK _ _ _ _ rfl z w hS.2⟩
  | sastore => exact s1I_m hS fun _ _ hS => s1I_m hS fun _ _ hS => ⟨hS.1, hK _ _ _ _ rfl z w hS.2⟩
  | caload => exact s1L_m hS fun _ _ hS => s1L_m hS fun _ _ hS => ⟨hS.1, hK _ _ _ _ rfl z w hS.2⟩
  | monitorenter => exact s1P_m hS fun _ _ hS => ⟨hS.1, hS.2.1, hK _ _ _ _ rfl z w hS.2.2⟩
  | ireturn => exact s1I_m hS fun _ _ hS => ⟨hS.1, hR _ _ z w hS.2⟩
  | lreturn => exact s1L_m hS fun _ _ hS => ⟨hS.1, hR _ _ z w hS.2⟩
  | areturn => exact s1P_m hS fun _ _ hS => ⟨hS.1, hR _ _ z w hS.2⟩
  | return_ => exact ⟨hS.1, hR _ _ z w hS.2⟩
  | _ => exact hS.elim
theorem s1I_c {st : List AV} {B : Prop} {k : Int → List AV → Prop} (h : s1I st k) (f : ∀ x r, k x r → B) : B := by
  obtain ⟨x, r, rfl, h⟩ := s1I_e h
  exact f x r h
theorem s1L_c {st : List AV} {B : Prop} {k : Int → List AV → Prop} (h : s1L st k) (f : ∀ x r, k x r → B) : B := by
  obtain ⟨x, r, rfl, h⟩ := s1L_e h
  exact f x r h
theorem s1P_c {st : List AV} {B : Prop} {k : Nat → List AV → Prop} (h : s1P st k) (f : ∀ x r, k x r → B) : B := by
  obtain ⟨x, r, rfl, h⟩ := s1P_e h
  exact f x r h
theorem s1V_c {st : List AV} {B : Prop} {k : AV → List AV → Prop} (h : s1V st k) (f : ∀ x r, k x r → B) : B := by
  obtain ⟨x, r, rfl, e, h⟩ := s1V_e h
  exact f x r h
theorem jcl_c {cl : Nat → List AV → AH → Option AV → AH → Prop} {y : Nat} {stk : List AV} {h : AH} {B : Prop} (hS : jcl cl y stk h (fun _ _ => B)) : B := by
  obtain ⟨a, b, v, h', c, d⟩ := hS
  exact d
set_option maxHeartbeats 4000000 in
theorem jS_const {cl : Nat → List AV → AH → Option AV → AH → Prop} {ins : Instr} {pc len : Nat} {loc stk : List AV} {h : AH} {B : Prop} (hS : jS cl ins pc len loc stk h (fun _ _ _ _ => B) (fun _ _ => B)) : B := by
  cases ins with
  | sipush c => exact hS.2
  | jsr_w c => exact hS.2
  | jsr c => exact hS
  | iload i => exact s1I_c hS fun _ _ hS => hS
  | lload i => exact s1L_c hS fun _ _ hS => hS
  | aload i => exact s1P_c hS fun _ _ hS => hS
  | istore i => exact s1I_c hS fun _ _ hS => hS.2
  | astore i => exact s1P_c hS fun _ _ hS => hS.2
  | lstore i => exact s1L_c hS fun _ _ hS => hS.2
  | iinc i c => exact s1I_c hS fun _ _ hS => hS.2
  | iadd => exact s1I_c hS fun _ _ hS => s1I_c hS fun _ _ hS => hS
  | isub => exact s1I_c hS fun _ _ hS => s1I_c hS fun _ _ hS => hS
  | imul => exact s1I_c hS fun _ _ hS => s1I_c hS fun _ _ hS => hS
  | iand => exact s1I_c hS fun _ _ hS => s1I_c hS fun _ _ hS => hS
  | ior => exact s1I_c hS fun _ _ hS => s1I_c hS fun _ _ hS => hS
  | ixor => exact s1I_c hS fun _ _ hS => s1I_c hS fun _ _ hS => hS
  | ishl => exact s1I_c hS fun _ _ hS => s1I_c hS fun _ _ hS => hS
  | ishr => exact s1I_c hS fun _ _ hS => s1I_c hS fun _ _ hS => hS
  | iushr => exact s1I_c hS fun _ _ hS => s1I_c hS fun _ _ hS => hS
  | idiv => exact s1I_c hS fun _ _ hS => s1I_c hS fun _ _ hS => hS.2
  | irem => exact s1I_c hS fun _ _ hS => s1I_c hS fun _ _ hS => hS.2
  | ladd => exact s1L_c hS fun _ _ hS => s1L_c hS fun _ _ hS => hS
  | lsub => exact s1L_c hS fun _ _ hS => s1L_c hS fun _ _ hS => hS
  | lmul => exact s1L_c hS fun _ _ hS => s1L_c hS fun _ _ hS => hS
  | land => exact s1L_c hS fun _ _ hS => s1L_c hS fun _ _ hS => hS
  | lor => exact s1L_c hS fun _ _ hS => s1L_c hS fun _ _ hS => hS
  | lcmp => exact s1L_c hS fun _ _ hS => s1L_c hS fun _ _ hS => hS
  | ldiv => exact s1L_c hS fun _ _ hS => s1L_c hS fun _ _ hS => hS.2
  | lrem => exact s1L_c hS fun _ _ hS => s1L_c hS fun _ _ hS => hS.2
  | lshl => exact s1I_c hS fun _ _ hS => s1L_c hS fun _ _ hS => hS
  | lshr => exact s1I_c hS fun _ _ hS => s1L_c hS fun _ _ hS => hS
  | lushr => exact s1I_c hS fun _ _ hS => s1L_c hS fun _ _ hS => hS
  | ineg => exact s1I_c hS fun _ _ hS => hS
  | i2l => exact s1I_c hS fun _ _ hS => hS
  | i2b => exact s1I_c hS fun _ _ hS => hS
  | i2c => exact s1I_c hS fun _ _ hS => hS
  | lneg => exact s1L_c hS fun _ _ hS => hS
  | l2i => exact s1L_c hS fun _ _ hS => hS
  | dup => exact s1V_c hS fun _ _ hS => hS
  | pop => exact s1V_c hS fun _ _ hS => hS
  | dup2 => exact s1V_c hS fun _ _ hS => s1V_c hS fun _ _ hS => hS
  | ifCond c t => exact s1I_c hS fun _ _ hS => Classical.byCases hS.1 hS.2
  | if_icmp c t => exact s1I_c hS fun _ _ hS => s1I_c hS fun _ _ hS => Classical.byCases hS.1 hS.2
  | ifnull t => exact s1P_c hS fun _ _ hS => Classical.byCases hS.2.1 hS.2.2
  | ifnonnull t => exact s1P_c hS fun _ _ hS => Classical.byCases hS.2.2 hS.2.1
  | goto t => exact hS
  | tableswitch d lo hi ts => exact s1I_c hS fun _ _ hS => Classical.byCases hS.1 fun q => (hS.2 q).elim fun _ ht => ht.2
  | lookupswitch d ps => exact s1I_c hS fun _ _ hS => hS
  | getfield f => exact s1P_c hS fun _ _ hS => hS.2
  | putfield f => exact jpf_c (ty := kTy (f / 100) (f % 100)) (stk := stk) (h := h) (k := f % 100) (jpf_m (K := fun a r h' => jt h a = tg (f / 100) ∧ f / 100 < 12 ∧ B) (K2 := fun _ _ _ => B) hS fun a r h' _ _ hS => hS.2.2)
  | new ci => exact hS.2
  | newarray t => exact s1I_c hS fun _ _ hS => hS.2.2.2
  | anewarray f => exact s1I_c hS fun _ _ hS => hS.2.2.2
  | multianewarray f g => exact s1I_c hS fun _ _ hS => s1I_c hS fun _ _ hS => hS.2.2.2.2
  | arraylength => exact s1P_c hS fun _ _ hS => hS.2.2
  | iaload => exact s1I_c hS fun _ _ hS => s1P_c hS fun _ _ hS => hS.2
  | laload => exact s1I_c hS fun _ _ hS => s1P_c hS fun _ _ hS => hS.2
  | baload => exact s1I_c hS fun _ _ hS => s1P_c hS fun _ _ hS => hS.2
  | aaload => exact s1I_c hS fun _ _ hS => s1P_c hS fun _ _ hS => hS.2
  | iastore => exact s1I_c hS fun _ _ hS => s1I_c hS fun _ _ hS => s1P_c hS fun _ _ hS => hS.2
  | lastore => exact s1L_c hS fun _ _ hS => s1I_c hS fun _ _ hS => s1P_c hS fun _ _ hS => hS.2
  | bastore => exact s1I_c hS fun _ _ hS => s1I_c hS fun _ _ hS => s1P_c hS fun _ _ hS => hS.2
  | aastore => exact s1P_c hS fun _ _ hS => s1I_c hS fun _ _ hS => s1P_c hS fun _ _ hS => hS.2.2
  | invokevirtual f => exact jcl_c hS.2
  | invokestatic f => exact jcl_c hS
  | invokespecial f => exact jcl_c hS.2
  | saload => exact s1I_c hS fun _ _ hS => s1I_c hS fun _ _ hS => hS.2
  | sastore => exact s1I_c hS fun _ _ hS => s1I_c hS fun _ _ hS => hS.2
  | caload => exact s1L_c hS fun _ _ hS => s1L_c hS fun _ _ hS => hS.2
  | monitorenter => exact s1P_c hS fun _ _ hS => hS.2.2
  | ireturn => exact s1I_c hS fun _ _ hS => hS.2
  | lreturn => exact s1L_c hS fun _ _ hS => hS.2
  | areturn => exact s1P_c hS fun _ _ hS => hS.2
  | return_ => exact hS.2
  | _ => exact hS.elim
