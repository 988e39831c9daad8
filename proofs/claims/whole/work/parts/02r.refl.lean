/-! THE CODE LISTS ARE THE BYTES': decoded, and resolved by the link tables -/
def lk3 {α : Type} : List (Nat × α × Nat) → Nat → Option (α × Nat)
  | [], _ => none
  | (a, b) :: r, q => bif Nat.beq a q then some b else lk3 r q
theorem lk3_in {α : Type} : ∀ {L : List (Nat × α × Nat)} {q : Nat} {b : α × Nat}, lk3 L q = some b → (q, b) ∈ L
  | (a, c) :: r, q, b, h => by
    unfold lk3 at h
    cases hb : Nat.beq a q with
    | true =>
      rw [hb] at h
      have hc : c = b := Option.some.inj h
      subst hc
      rw [Nat.eq_of_beq_eq_true hb]
      exact List.mem_cons_self
    | false =>
      rw [hb] at h
      exact List.mem_cons_of_mem _ (lk3_in h)
/-- the abstract instruction of a decoded one at pc in the code of class o -/
def trn (o pc : Nat) (raw : Instr) : Instr := match raw with
  | .iconst n => .sipush n
  | .bipush n => .sipush n
  | .ldc ix => match lk3 (lkI.getD o []) ix with
    | some q => .sipush q.1
    | none => match lk3 (lkS.getD o []) ix with
      | some q => .jsr q.1
      | none => .nop
  | .ldc_w ix => match lk3 (lkI.getD o []) ix with
    | some q => .sipush q.1
    | none => .nop
  | .lconst n => .jsr_w (n.val : Int)
  | .ldc2_w ix => match lk3 (lkL.getD o []) ix with
    | some q => .jsr_w q.1
    | none => .nop
  | .aconst_null => .jsr 0
  | .iload_n n => .iload n.val
  | .lload_n n => .lload n.val
  | .aload_n n => .aload n.val
  | .istore_n n => .istore n.val
  | .lstore_n n => .lstore n.val
  | .astore_n n => .astore n.val
  | .ifCond c t => .ifCond c ((pc : Int) + t)
  | .if_icmp c t => .if_icmp c ((pc : Int) + t)
  | .ifnull t => .ifnull ((pc : Int) + t)
  | .ifnonnull t => .ifnonnull ((pc : Int) + t)
  | .goto t => .goto ((pc : Int) + t)
  | .tableswitch d lo hi ts => .tableswitch ((pc : Int) + d) lo hi (ts.map (fun t => (pc : Int) + t))
  | .lookupswitch d ps => .lookupswitch ((pc : Int) + d) (ps.map (fun q => (q.1, (pc : Int) + q.2)))
  | .getfield ix => match lk3 (lkF.getD o []) ix with
    | some q => .getfield q.1
    | none => .nop
  | .putfield ix => match lk3 (lkF.getD o []) ix with
    | some q => .putfield q.1
    | none => .nop
  | .getstatic ix => match lk3 (lkG.getD o []) ix with
    | some q => bif Nat.beq q.1 0 then .sipush 1 else bif Nat.beq q.1 1 then .jsr 1 else .jsr 3
    | none => .nop
  | .invokevirtual ix => match lk3 (lkM.getD o []) ix with
    | some q => .invokevirtual q.1
    | none => .nop
  | .invokestatic ix => match lk3 (lkM.getD o []) ix with
    | some q => bif Nat.beq q.1 901 then .saload else bif Nat.beq q.1 902 then .sastore else bif Nat.beq q.1 903 then .caload else .invokestatic q.1
    | none => .nop
  | .invokespecial ix => match lk3 (lkM.getD o []) ix with
    | some q => bif Nat.beq q.1 900 then .monitorenter else .invokespecial q.1
    | none => match lk3 (lkN.getD o []) ix with
      | some q => .invokespecial (1000 + q.1)
      | none => .nop
  | .new ix => match lk3 (lkC.getD o []) ix with
    | some q => .new q.1
    | none => .nop
  | .anewarray _ => .anewarray 5
  | .multianewarray _ _ => .multianewarray 6 2
  | .monitorenter => .nop
  | .saload => .nop
  | .sastore => .nop
  | .caload => .nop
  | .jsr _ => .nop
  | .jsr_w _ => .nop
  | .athrow => .nop
  | r => r
/-- what else must hold of a decoded instruction -/
def rawOK (y pc : Nat) (raw : Instr) : Bool := match raw with
  | .bipush n => decide (-128 ≤ n ∧ n ≤ 127)
  | .sipush n => decide (-32768 ≤ n ∧ n ≤ 32767)
  | .ifCond _ t => decide (0 ≤ (pc : Int) + t)
  | .if_icmp _ t => decide (0 ≤ (pc : Int) + t)
  | .ifnull t => decide (0 ≤ (pc : Int) + t)
  | .ifnonnull t => decide (0 ≤ (pc : Int) + t)
  | .goto t => decide (0 ≤ (pc : Int) + t)
  | .tableswitch d _ _ ts => decide (0 ≤ (pc : Int) + d) && ts.toList.all (fun t => decide (0 ≤ (pc : Int) + t))
  | .lookupswitch d ps => decide (0 ≤ (pc : Int) + d) && (ps.toList.all (fun q => decide (0 ≤ (pc : Int) + q.2)) && (ps.toList.zip (ps.toList.drop 1)).all (fun (a, next) => a.1 < next.1))
  | .putfield ix => match lk3 (lkF.getD (mT y).2.2.2.2.1 []) ix with
    | some q => !((kC (q.1 / 100)).2.1 (q.1 % 100)).2.2.2 || (Nat.beq (mT y).2.2.2.2.2.2 2 && decide (((kC (q.1 / 100)).2.1 (q.1 % 100)).1 = oR (mT y).2.2.2.2.1))
    | none => true
  | .getstatic ix => match lk3 (lkG.getD (mT y).2.2.2.2.1 []) ix with
    | some q => Nat.beq q.1 0 || (Nat.beq q.1 1 || (Nat.beq ix 66 && Nat.beq (mT y).2.2.2.2.1 9))
    | none => true
  | .new ix => match lk3 (lkC.getD (mT y).2.2.2.2.1 []) ix with
    | some q => Nat.ble (q.1 + 1) 12
    | none => true
  | .anewarray ix => Nat.beq (mT y).2.2.2.2.1 1 && Nat.beq ix 38
  | .multianewarray ix dm => Nat.beq (mT y).2.2.2.2.1 3 && (Nat.beq ix 9 && Nat.beq dm 2)
  | .invokevirtual ix => match lk3 (lkM.getD (mT y).2.2.2.2.1 []) ix with
    | some q => Nat.beq (mT q.1).2.2.2.2.2.2 0 && Nat.ble (q.1 + 1) 202
    | none => true
  | .invokestatic ix => match lk3 (lkM.getD (mT y).2.2.2.2.1 []) ix with
    | some q => (Nat.beq q.1 901 || (Nat.beq q.1 902 || Nat.beq q.1 903)) || (Nat.beq (mT q.1).2.2.2.2.2.2 1 && Nat.ble (q.1 + 1) 202)
    | none => true
  | .invokespecial ix => match lk3 (lkM.getD (mT y).2.2.2.2.1 []) ix with
    | some q => Nat.beq q.1 900 || (Nat.beq (mT q.1).2.2.2.2.2.2 2 && Nat.ble (q.1 + 1) 202)
    | none => match lk3 (lkN.getD (mT y).2.2.2.2.1 []) ix with
      | some q => Nat.beq (mT q.1).2.2.2.2.2.2 2 && Nat.ble (q.1 + 1) 202
      | none => true
  | _ => true
/-- the length of an instruction (of a switch any) -/
def rln (raw : Instr) (n : Nat) : Nat := match raw with
  | .bipush _ => 2
  | .iload _ => 2
  | .lload _ => 2
  | .aload _ => 2
  | .istore _ => 2
  | .lstore _ => 2
  | .astore _ => 2
  | .ldc _ => 2
  | .newarray _ => 2
  | .sipush _ => 3
  | .ldc_w _ => 3
  | .ldc2_w _ => 3
  | .ifCond _ _ => 3
  | .if_icmp _ _ => 3
  | .ifnull _ => 3
  | .ifnonnull _ => 3
  | .goto _ => 3
  | .iinc _ _ => 3
  | .getfield _ => 3
  | .putfield _ => 3
  | .getstatic _ => 3
  | .invokevirtual _ => 3
  | .invokestatic _ => 3
  | .invokespecial _ => 3
  | .new _ => 3
  | .anewarray _ => 3
  | .multianewarray _ _ => 4
  | .tableswitch _ _ _ _ => n
  | .lookupswitch _ _ => n
  | _ => 1
def okI (y : Nat) (q : Nat × Instr × Nat) : Bool := match decode (mT y).2.1 q.1 with
  | .ok (raw, n) => Nat.beq n q.2.2 && (decide (trn (mT y).2.2.2.2.1 q.1 raw = q.2.1) && (Nat.beq q.2.2 (rln raw q.2.2) && rawOK y q.1 raw))
  | _ => false
theorem okI_e {y : Nat} {q : Nat × Instr × Nat} (h : okI y q = true) : ∃ raw, decode (mT y).2.1 q.1 = .ok (raw, q.2.2) ∧ trn (mT y).2.2.2.2.1 q.1 raw = q.2.1 ∧ q.2.2 = rln raw q.2.2 ∧ rawOK y q.1 raw = true := by
  unfold okI at h
  split at h
  · rename_i raw n hd
    rw [Bool.and_eq_true, Bool.and_eq_true, Bool.and_eq_true, decide_eq_true_eq] at h
    refine ⟨raw, ?_, h.2.1, Nat.eq_of_beq_eq_true h.2.2.1, h.2.2.2⟩
    rw [← Nat.eq_of_beq_eq_true h.1]
    exact hd
  · cases h
def alP (P : Nat → Prop) : Nat → Nat → Prop
  | _, 0 => True
  | s, n + 1 => P s ∧ alP P (s + 1) n
theorem alP_e {P : Nat → Prop} : ∀ {n s : Nat}, alP P s n → ∀ y, s ≤ y → y < s + n → P y
  | 0, s, _, y, h1, h2 => by omega
  | n + 1, s, h, y, h1, h2 => by
    by_cases e : y = s
    · rw [e]; exact h.1
    · exact alP_e h.2 y (by omega) (by omega)
