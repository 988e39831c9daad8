/-! WHAT TIES THE MACHINE TO THE ABSTRACT ONE -/
/-- the words that every method rests on: those of the tables that a call keeps -/
def gw : List Cond := lw_tbl.filter goodWord
theorem gw_of {w : Cond} (h : w ∈ lw_tbl) (hg : goodWord w = true) : w ∈ gw := List.mem_filter.mpr ⟨h, hg⟩
theorem gw_good : GoodIn gw gw := fun w hw => ⟨hw, good_of_word (List.mem_filter.mp hw).2⟩
/-- real addresses of the old cells (below 32), the value of the one static of which nothing is known, class ids, field slots, the first new real address -/
abbrev jD : Type := (Nat → Nat) × Value × (Nat → ClassId) × (Nat → Nat → Nat) × Nat
def jA (D : jD) (a : Nat) : Nat := if a < 32 then D.1 a else D.2.2.2.2 + (a - 32)
def jVp (D : jD) (a : Nat) : Value := if a = 0 then .null else if a = 1 then D.2.1 else .ref (jA D a)
def jV (D : jD) : AV → Value
  | .inl x => .int (Int32.ofInt x)
  | .inr (.inl x) => .long (Int64.ofInt x)
  | .inr (.inr (.inl a)) => jVp D a
  | .inr (.inr (.inr _)) => .int 0
def jfv (D : jD) : Prop := D.2.1 = .null ∨ ∃ a, D.2.1 = .ref a
def vok : AV → Prop
  | .inl x => r32 x
  | .inr (.inl x) => r64 x
  | _ => True
/-- the string constants: own class, entry, text, abstract address -/
def strL : List (String × Nat × String × Nat) := [(RX9, 69, "=+-*()[],;:", 4), (RX10, 200, ": ", 5), (RX10, 229, "-", 6), (RX10, 231, "", 7), (RX10, 233, " - ", 8), (RX10, 235, " + ", 9), (RX10, 210, " <= ", 10), (RX10, 212, " = ", 11), (RX10, 214, " >= ", 12)]
def jNew (D : jD) : Nat → Prop := fun q => D.2.2.2.2 ≤ q
def jOld (D : jD) (U : State) (H : Heap) : Prop :=
  va_Z "ProblemTexts" "WORDS" "[I" (jV D (jP 3)) (jNew D) U H ∧ va_Z "java/lang/String" "COMPACT_STRINGS" "Z" (.int 1) (jNew D) U H ∧
  va_Z "jdk/internal/util/Preconditions" "SIOOBE_FORMATTER" "Ljava/util/function/BiFunction;" D.2.1 (jNew D) U H
def jC (D : jD) (U : State) (H : Heap) (h : AH) (a : Nat) : Prop :=
  (jt h a < 20 → ∃ cell, H[jA D a]? = some cell ∧ cell.cls = D.2.2.1 (jt h a - 1) ∧ cell.vm = .none ∧ jt h a - 1 < 12 ∧ ∀ k, k < (kC (jt h a - 1)).2.2 → cell.slots[D.2.2.2.1 (jt h a - 1) k]? = some (jV D (jfl (kTy (jt h a - 1) k) h a k))) ∧
  (20 ≤ jt h a → jt h a < 60 → ∃ cell, H[jA D a]? = some cell ∧ U.isArrayOf cell (aTy (jt h a % 20)) ∧ cell.vm ≠ .unknown ∧ (jn h a ≤ cell.slots.size ∧ cell.slots.size.toInt32 = Int32.ofNat (jn h a)) ∧ jn h a < 2 ^ 31 ∧ (∀ k, k < jn h a → cell.slots[k]? = some (jV D (jfl (aTy (jt h a % 20)) h a k))) ∧ (jt h a = 25 → va_RA U cell.cls (.object "ProblemTexts$Part"))) ∧
  (60 ≤ jt h a → va_O "java/lang/String" (jA D a) (jNew D) U H ∧ va_OF "java/lang/String" "value" "[B" (jV D (jfl (kTy 12 0) h a 0)) (jA D a) (jNew D) U H ∧ va_OF "java/lang/String" "coder" "B" (jV D (jfl (kTy 12 1) h a 1)) (jA D a) (jNew D) U H)
def jM (D : jD) (U : State) (H : Heap) (h : AH) : Prop :=
  (∀ a, ¬ jt h a = 0 → jC D U H h a) ∧ (H.size = D.2.2.2.2 + (jx h - 32) ∧ 32 ≤ jx h) ∧ (∀ a, ¬ jt h a = 0 → (2 ≤ a ∧ a < 32 ∧ 40 ≤ jt h a ∧ D.1 a < D.2.2.2.2) ∨ (32 ≤ a ∧ a < jx h ∧ jt h a < 40)) ∧
  (∀ a k, r32 (ji h a k) ∧ r64 (jl h a k)) ∧ jOld D U H ∧ jfv D
def eqat (h h' : AH) (b : Nat) : Prop := jt h' b = jt h b ∧ jn h' b = jn h b ∧ ∀ k, ji h' b k = ji h b k ∧ jl h' b k = jl h b k ∧ jr h' b k = jr h b k
theorem eqat.fl {h h' : AH} {b : Nat} (e : eqat h h' b) (ty : FieldType) (k : Nat) : jfl ty h' b k = jfl ty h b k := by
  obtain ⟨-, -, e⟩ := e
  obtain ⟨e1, e2, e3⟩ := e k
  cases ty <;> simp [jfl, e1, e2, e3]
theorem jA_new {D : jD} {a : Nat} (h : 32 ≤ a) : jA D a = D.2.2.2.2 + (a - 32) := by
  unfold jA
  rw [if_neg (by omega)]
theorem jA_old {D : jD} {a : Nat} (h : a < 32) : jA D a = D.1 a := by
  unfold jA
  rw [if_pos h]
theorem jM.ne {D : jD} {U : State} {H : Heap} {h : AH} (hM : jM D U H h) {a b : Nat} (ha : ¬ jt h a = 0) (hb : 32 ≤ b) (hab : a ≠ b) : jA D a ≠ jA D b := by
  rw [jA_new hb]
  rcases hM.2.2.1 a ha with ⟨-, q1, -, q3⟩ | ⟨q1, -, -⟩
  · rw [jA_old q1]; omega
  · rw [jA_new q1]; omega
theorem jM.lt {D : jD} {U : State} {H : Heap} {h : AH} (hM : jM D U H h) {a : Nat} (ha : ¬ jt h a = 0) : jA D a < H.size := by
  rw [hM.2.1.1]
  have := hM.2.1.2
  rcases hM.2.2.1 a ha with ⟨-, q1, -, q3⟩ | ⟨q1, q2, -⟩
  · rw [jA_old q1]; omega
  · rw [jA_new q1]; omega
theorem jC.eq {D : jD} {U : State} {H H' : Heap} {h h' : AH} {b : Nat} (e : eqat h h' b) (hq : H'[jA D b]? = H[jA D b]?) (hs : 60 ≤ jt h b → ∀ a : Nat, a < H.size → ¬ jNew D a → H'[a]? = H[a]?) (hc : jC D U H h b) : jC D U H' h' b := by
  have e1 : jt h' b = jt h b := e.1
  have e2 : jn h' b = jn h b := e.2.1
  unfold jC
  rw [e1, e2, hq]
  refine ⟨fun t => ?_, fun t1 t2 => ?_, fun t => ?_⟩
  · obtain ⟨cell, a1, a2, a3, a4, a5⟩ := hc.1 t
    exact ⟨cell, a1, a2, a3, a4, fun k hk => by rw [e.fl]; exact a5 k hk⟩
  · obtain ⟨cell, a1, a2, a3, a4, a5, a6, a7⟩ := hc.2.1 t1 t2
    exact ⟨cell, a1, a2, a3, a4, a5, fun k hk => by rw [e.fl]; exact a6 k hk, a7⟩
  · obtain ⟨a1, a2, a3⟩ := hc.2.2 t
    rw [e.fl, e.fl]
    exact ⟨a1.kept (hs t), a2.kept (hs t), a3.kept (hs t)⟩
theorem jOld.kept {D : jD} {U : State} {H H' : Heap} (h : jOld D U H) (hq : ∀ a : Nat, a < H.size → ¬ jNew D a → H'[a]? = H[a]?) : jOld D U H' := ⟨h.1.kept hq, h.2.1.kept hq, h.2.2.kept hq⟩
/-- the cells Z change, or are new; all others stay -/
theorem jM.upd {D : jD} {U : State} {H H' : Heap} {h h' : AH} (Z : Nat → Prop) (hM : jM D U H h) (ho : ∀ b, ¬ Z b → eqat h h' b) (hz : ∀ b, Z b → 32 ≤ b ∧ jC D U H' h' b ∧ jt h' b < 40 ∧ b < jx h' ∧ ∀ k, r32 (ji h' b k) ∧ r64 (jl h' b k))
    (hsz : H'.size = D.2.2.2.2 + (jx h' - 32)) (hx : jx h ≤ jx h') (hH : ∀ q, q < H.size → (∀ b, Z b → q ≠ jA D b) → H'[q]? = H[q]?) : jM D U H' h' := by
  have hold : ∀ a : Nat, a < H.size → ¬ jNew D a → H'[a]? = H[a]? := fun q q1 q2 => hH q q1 (fun b hb e => q2 (by
    show D.2.2.2.2 ≤ q
    rw [e, jA_new (hz b hb).1]; omega))
  refine ⟨fun a ha => ?_, ⟨hsz, Nat.le_trans hM.2.1.2 hx⟩, fun a ha => ?_, fun a k => ?_, hM.2.2.2.2.1.kept hold, hM.2.2.2.2.2⟩
  · by_cases za : Z a
    · exact (hz a za).2.1
    · have e := ho a za
      have ha' : ¬ jt h a = 0 := by rw [← e.1]; exact ha
      exact (hM.1 a ha').eq e (hH _ (hM.lt ha') (fun b hb q => by
        by_cases hab : a = b
        · exact za (hab ▸ hb)
        · exact hM.ne ha' (hz b hb).1 hab q)) (fun _ => hold)
  · by_cases za : Z a
    · obtain ⟨q1, -, q2, q3, -⟩ := hz a za
      exact Or.inr ⟨q1, q3, q2⟩
    · have e := ho a za
      rw [e.1] at ha ⊢
      rcases hM.2.2.1 a ha with q | ⟨q1, q2, q3⟩
      · exact Or.inl q
      · exact Or.inr ⟨q1, Nat.lt_of_lt_of_le q2 hx, q3⟩
  · by_cases za : Z a
    · exact (hz a za).2.2.2.2 k
    · obtain ⟨e1, e2, -⟩ := (ho a za).2.2 k
      rw [e1, e2]
      exact hM.2.2.2.1 a k
/-- the class of long[][], and that its rows are long[] -/
def jLL (U : State) : Prop := ∃ (comp cA : ClassId) (kA : Class), U.vm.findClass (FieldType.array .long).toString = some comp ∧ U.vm.classes[cA]? = some kA ∧ kA.kind = .array comp (.array .long) ∧ U.vm.findClass ("[" ++ (FieldType.array .long).toString) = some cA
theorem jLL.moved {u U : State} (hvm : u.vm.Alike U.vm) (h : jLL u) : jLL U := by
  obtain ⟨comp, cA, kA, h1, h2, h3, h4⟩ := h
  obtain ⟨k', hk', he⟩ := hvm.2.2 _ _ h2
  exact ⟨comp, cA, k', by rw [hvm.findClass]; exact h1, hk', by rw [he]; exact h3, by rw [hvm.findClass]; exact h4⟩
/-- the words that a call keeps too, but by laws of their own: string constants, nest mates, arrays of references -/
def jStr (D : jD) (U : State) : Prop := (∀ q ∈ strL, vk_R q.1 q.2.1 q.2.2.1 (jA D q.2.2.2) U) ∧ va_Nw (.methodLinkNest RX1 11 ⟨RX4, "<init>", "()V"⟩ "ProblemTexts") U ∧ va_Nw (.methodLinkNest RX1 20 ⟨RX7, "<init>", "()V"⟩ "ProblemTexts") U ∧
  va_Nw (.fieldLinkNest RX9 66 "ProblemTexts" "WORDS" "[I" "ProblemTexts") U ∧ va_AO "ProblemTexts$Part" U ∧ jLL U
theorem jStr.warm {D : jD} {u U : State} (hW : u.WarmedH U.vm) (h : jStr D u) : jStr D U := ⟨fun q hq => (h.1 q hq).warm hW, h.2.1.warmM hW, h.2.2.1.warmM hW, h.2.2.2.1.warmF hW, h.2.2.2.2.1.moved hW.alike, h.2.2.2.2.2.moved hW.alike⟩
theorem jStr.same {D : jD} {u U : State} (hv : U.vm = u.vm) (h : jStr D u) : jStr D U := ⟨fun q hq => (h.1 q hq).same hv, h.2.1.same rfl hv.symm, h.2.2.1.same rfl hv.symm, h.2.2.2.1.same rfl hv.symm, h.2.2.2.2.1.moved (by rw [hv]; exact Vm.Alike.refl _), h.2.2.2.2.2.moved (by rw [hv]; exact Vm.Alike.refl _)⟩
theorem jOld.moved {D : jD} {u U : State} {H : Heap} (hW : u.vm.Alike U.vm) (h : jOld D u H) : jOld D U H := ⟨h.1.moved hW, h.2.1.moved hW, h.2.2.moved hW⟩
theorem jM.moved {D : jD} {u U : State} {H : Heap} {h : AH} (hW : u.vm.Alike U.vm) (hM : jM D u H h) : jM D U H h := by
  refine ⟨fun a ha => ?_, hM.2.1, hM.2.2.1, hM.2.2.2.1, hM.2.2.2.2.1.moved hW, hM.2.2.2.2.2⟩
  obtain ⟨c1, c2, c3⟩ := hM.1 a ha
  refine ⟨c1, fun t1 t2 => ?_, fun t => ?_⟩
  · obtain ⟨cell, a1, a2, a3, a4, a5, a6, a7⟩ := c2 t1 t2
    exact ⟨cell, a1, State.isArrayOf_alike hW a2, a3, a4, a5, a6, fun t => (a7 t).moved hW⟩
  · obtain ⟨a1, a2, a3⟩ := c3 t
    exact ⟨a1.moved hW, a2.moved hW, a3.moved hW⟩
/-! numbers -/
theorem w32_r (x : Int) : r32 (w32 x) := by unfold r32 w32; omega
theorem w64_r (x : Int) : r64 (w64 x) := by unfold r64 w64; omega
theorem w32_id {x : Int} (h : r32 x) : w32 x = x := by unfold r32 at h; unfold w32; omega
theorem w64_id {x : Int} (h : r64 x) : w64 x = x := by unfold r64 at h; unfold w64; omega
theorem r32_I (x : Int32) : r32 x.toInt := by
  have := x.le_toInt
  have := x.toInt_lt
  unfold r32; omega
theorem r64_L (x : Int64) : r64 x.toInt := by
  have := x.le_toInt
  have := x.toInt_lt
  unfold r64; omega
theorem w32_bm (x : Int) : w32 x = x.bmod 4294967296 := by
  unfold w32; rw [Int.bmod_def]; split <;> omega
theorem w64_bm (x : Int) : w64 x = x.bmod 18446744073709551616 := by
  unfold w64; rw [Int.bmod_def]; split <;> omega
theorem I_w32 (x : Int) : Int32.ofInt (w32 x) = Int32.ofInt x := by
  apply Int32.toInt_inj.mp
  rw [Int32.toInt_ofInt, Int32.toInt_ofInt, w32_bm]
  exact Int.bmod_bmod
theorem L_w64 (x : Int) : Int64.ofInt (w64 x) = Int64.ofInt x := by
  apply Int64.toInt_inj.mp
  rw [Int64.toInt_ofInt, Int64.toInt_ofInt, w64_bm]
  exact Int.bmod_bmod
theorem I_to {x : Int} (h : r32 x) : (Int32.ofInt x).toInt = x := Int32.toInt_ofInt_of_le (by unfold r32 at h; omega) (by unfold r32 at h; omega)
theorem L_to {x : Int} (h : r64 x) : (Int64.ofInt x).toInt = x := Int64.toInt_ofInt_of_le (by unfold r64 at h; omega) (by unfold r64 at h; omega)
theorem I_lt {x y : Int} (hx : r32 x) (hy : r32 y) : Int32.ofInt x < Int32.ofInt y ↔ x < y := by rw [Int32.lt_iff_toInt_lt, I_to hx, I_to hy]
theorem I_le {x y : Int} (hx : r32 x) (hy : r32 y) : Int32.ofInt x ≤ Int32.ofInt y ↔ x ≤ y := by rw [Int32.le_iff_toInt_le, I_to hx, I_to hy]
theorem I_eq {x y : Int} (hx : r32 x) (hy : r32 y) : Int32.ofInt x = Int32.ofInt y ↔ x = y := by rw [← Int32.toInt_inj, I_to hx, I_to hy]
theorem L_lt {x y : Int} (hx : r64 x) (hy : r64 y) : Int64.ofInt x < Int64.ofInt y ↔ x < y := by rw [Int64.lt_iff_toInt_lt, L_to hx, L_to hy]
theorem L_eq {x y : Int} (hx : r64 x) (hy : r64 y) : Int64.ofInt x = Int64.ofInt y ↔ x = y := by rw [← Int64.toInt_inj, L_to hx, L_to hy]
theorem I_0 : Int32.ofInt 0 = 0 := rfl
theorem r32_0 : r32 0 := by unfold r32; omega
theorem I_add (x y : Int) : Int32.ofInt x + Int32.ofInt y = Int32.ofInt (w32 (x + y)) := by rw [I_w32, Int32.ofInt_add]
theorem I_sub (x y : Int) : Int32.ofInt x - Int32.ofInt y = Int32.ofInt (w32 (x - y)) := by rw [I_w32, Int32.ofInt_sub]
theorem I_mul (x y : Int) : Int32.ofInt x * Int32.ofInt y = Int32.ofInt (w32 (x * y)) := by rw [I_w32, Int32.ofInt_mul]
theorem I_neg (x : Int) : -Int32.ofInt x = Int32.ofInt (w32 (-x)) := by rw [I_w32, Int32.ofInt_neg]
theorem L_add (x y : Int) : Int64.ofInt x + Int64.ofInt y = Int64.ofInt (w64 (x + y)) := by rw [L_w64, Int64.ofInt_add]
theorem L_sub (x y : Int) : Int64.ofInt x - Int64.ofInt y = Int64.ofInt (w64 (x - y)) := by rw [L_w64, Int64.ofInt_sub]
theorem L_mul (x y : Int) : Int64.ofInt x * Int64.ofInt y = Int64.ofInt (w64 (x * y)) := by rw [L_w64, Int64.ofInt_mul]
theorem L_neg (x : Int) : -Int64.ofInt x = Int64.ofInt (w64 (-x)) := by rw [L_w64, Int64.ofInt_neg]
theorem I_div {x y : Int} (hx : r32 x) (hy : r32 y) : Int32.ofInt x / Int32.ofInt y = Int32.ofInt (w32 (Int.tdiv x y)) := by
  rw [I_w32]
  apply Int32.toInt_inj.mp
  rw [Int32.toInt_div, I_to hx, I_to hy, Int32.toInt_ofInt]
theorem L_div {x y : Int} (hx : r64 x) (hy : r64 y) : Int64.ofInt x / Int64.ofInt y = Int64.ofInt (w64 (Int.tdiv x y)) := by
  rw [L_w64]
  apply Int64.toInt_inj.mp
  rw [Int64.toInt_div, L_to hx, L_to hy, Int64.toInt_ofInt]
theorem I_rem {x y : Int} (hx : r32 x) (hy : r32 y) : Int32.ofInt x - Int32.ofInt x / Int32.ofInt y * Int32.ofInt y = Int32.ofInt (w32 (Int.tmod x y)) := by
  rw [I_div hx hy, I_w32, I_w32, ← Int32.ofInt_mul, ← Int32.ofInt_sub]
  congr 1
  have := Int.mul_tdiv_add_tmod x y
  rw [Int.mul_comm] at this
  omega
theorem L_rem {x y : Int} (hx : r64 x) (hy : r64 y) : Int64.ofInt x - Int64.ofInt x / Int64.ofInt y * Int64.ofInt y = Int64.ofInt (w64 (Int.tmod x y)) := by
  rw [L_div hx hy, L_w64, L_w64, ← Int64.ofInt_mul, ← Int64.ofInt_sub]
  congr 1
  have := Int.mul_tdiv_add_tmod x y
  rw [Int.mul_comm] at this
  omega
theorem I_clamp {x : Int} (h : r32 x) (h0 : 0 ≤ x) : (Int32.ofInt x).toNatClampNeg = x.toNat := by
  show (Int32.ofInt x).toInt.toNat = _
  rw [I_to h]
theorem I_in {x : Int} {n : Nat} (h : r32 x) (h0 : 0 ≤ x) (h1 : x < (n : Int)) : ¬ (Int32.ofInt x < 0 ∨ n ≤ (Int32.ofInt x).toNatClampNeg) := by
  rw [I_clamp h h0]
  rintro (q | q)
  · rw [← I_0, I_lt h r32_0] at q; omega
  · omega
