/-! THE START: what the law finds -/
def sBy : List (List Int) := [[61, 43, 45, 42, 40, 41, 91, 93, 44, 59, 58], [58, 32], [45], [], [32, 45, 32], [32, 43, 32], [32, 60, 61, 32], [32, 61, 32], [32, 62, 61, 32]]
def wdL : List Int := [7562612, 1684108385, 7758194, 1920298085, 1735352684, 7170414, 7168376, 7566701, 26990, 6713202]
/-- the abstract heap at the law's entry: the script at 2, WORDS at 3, the strings at 4 .. 12, their bytes at 13 .. 21 -/
def hI (L : Nat) (xs : Nat → Int) : AH :=
  (fun a => if a = 2 then 40 else if a = 3 then 40 else if 4 ≤ a ∧ a ≤ 12 then 60 else if 13 ≤ a ∧ a ≤ 21 then 42 else 0,
   fun a => if a = 2 then L else if a = 3 then 10 else if 13 ≤ a ∧ a ≤ 21 then (sBy.getD (a - 13) []).length else 0,
   fun a k => if a = 2 then (if k < L then xs k else 0) else if a = 3 then wdL.getD k 0 else if 13 ≤ a ∧ a ≤ 21 then (sBy.getD (a - 13) []).getD k 0 else 0,
   fun _ _ => 0, fun a k => if 4 ≤ a ∧ a ≤ 12 ∧ k = 0 then a + 9 else 0, 32, 0)
def tmS (i : Nat) : Term := .string (strL.getD i ("", 0, "", 0)).1 (strL.getD i ("", 0, "", 0)).2.1
def lnS : List Nat := sBy.map List.length
def byS : List (List Int32) := sBy.map (fun l => l.map Int32.ofInt)
set_option maxRecDepth 100000 in
theorem fS_hex : ∀ i, i < 9 → Cond.exactly (tmS i) "java/lang/String" ∈ flatC (Jvm.Cond.and given_1 narrow_1) := by decide +kernel
set_option maxRecDepth 100000 in
theorem fS_co : ∀ i, i < 9 → Cond.eq (.field (tmS i) "java/lang/String" "coder" "B") (.int 0) ∈ flatC (Jvm.Cond.and given_1 narrow_1) := by decide +kernel
set_option maxRecDepth 100000 in
theorem fS_ar : ∀ i, i < 9 → Cond.arrayOf (.field (tmS i) "java/lang/String" "value" "[B") .byte ∈ flatC (Jvm.Cond.and given_1 narrow_1) := by decide +kernel
set_option maxRecDepth 100000 in
theorem fS_le : ∀ i, i < 9 → Cond.eq (.length (.field (tmS i) "java/lang/String" "value" "[B")) (.int (Int32.ofNat (lnS.getD i 0))) ∈ flatC (Jvm.Cond.and given_1 narrow_1) := by decide +kernel
set_option maxRecDepth 100000 in
theorem fS_el : ∀ i, i < 9 → ∀ j, j < lnS.getD i 0 → Cond.eq (.elem (.field (tmS i) "java/lang/String" "value" "[B") (.int (Int32.ofNat j))) (.int ((byS.getD i []).getD j 0)) ∈ flatC (Jvm.Cond.and given_1 narrow_1) := by decide +kernel
set_option maxRecDepth 100000 in
theorem fS_ne : ∀ i, i < 9 → ∀ j, j < 9 → i ≠ j → Cond.not (Cond.eq (tmS i) (tmS j)) ∈ flatC (Jvm.Cond.and given_1 narrow_1) ∨ Cond.not (Cond.eq (tmS j) (tmS i)) ∈ flatC (Jvm.Cond.and given_1 narrow_1) := by decide +kernel
set_option maxRecDepth 100000 in
theorem fW : Cond.arrayOf (.static "ProblemTexts" "WORDS" "[I") .int ∈ flatC (Jvm.Cond.and given_1 narrow_1) ∧ Cond.eq (.length (.static "ProblemTexts" "WORDS" "[I")) (.int 10) ∈ flatC (Jvm.Cond.and given_1 narrow_1) ∧ Cond.eq (.static "java/lang/String" "COMPACT_STRINGS" "Z") (.int 1) ∈ flatC (Jvm.Cond.and given_1 narrow_1) ∧
    Cond.isRef (.static "jdk/internal/util/Preconditions" "SIOOBE_FORMATTER" "Ljava/util/function/BiFunction;") ∈ flatC (Jvm.Cond.and given_1 narrow_1) ∧ ∀ j, j < 10 → Cond.eq (.elem (.static "ProblemTexts" "WORDS" "[I") (.int (Int32.ofNat j))) (.int (Int32.ofInt (wdL.getD j 0))) ∈ flatC (Jvm.Cond.and given_1 narrow_1) := by decide +kernel
set_option maxRecDepth 100000 in
theorem fT : (Cond.laysStatic "ProblemTexts" "WORDS" "[I" ∈ lw_tbl ∧ Cond.initialized "ProblemTexts" ∈ lw_tbl) ∧ (Cond.laysStatic "java/lang/String" "COMPACT_STRINGS" "Z" ∈ lw_tbl ∧ Cond.initialized "java/lang/String" ∈ lw_tbl) ∧
    (Cond.laysStatic "jdk/internal/util/Preconditions" "SIOOBE_FORMATTER" "Ljava/util/function/BiFunction;" ∈ lw_tbl ∧ Cond.initialized "jdk/internal/util/Preconditions" ∈ lw_tbl) ∧ (Cond.methodLinkNest RX1 11 ⟨RX4, "<init>", "()V"⟩ "ProblemTexts" ∈ lw_tbl ∧ Cond.methodLinkNest RX1 20 ⟨RX7, "<init>", "()V"⟩ "ProblemTexts" ∈ lw_tbl ∧
    Cond.fieldLinkNest RX9 66 "ProblemTexts" "WORDS" "[I" "ProblemTexts" ∈ lw_tbl ∧ Cond.arrayOver (.object "ProblemTexts$Part") ∈ lw_tbl) ∧ ∀ q ∈ strL, Cond.stringRef q.1 q.2.1 q.2.2.1 ∈ lw_tbl := by decide +kernel
set_option maxRecDepth 100000 in
theorem fT2 : Cond.arrayOver (.array .long) ∈ lw_tbl := by decide +kernel
theorem start_K {s : State} {args : Array Value} (hts : ∀ w ∈ gw, w.before args s = true) : ∃ (dC : Nat → ClassId) (dI : Nat → Nat → Nat), va_K (dC, dI) vwCl [] s := by
  have h0 : ∀ ci : Nat, ∃ q : ClassId × (Nat → Nat), ci < 12 → u_Kn s (kC ci).1 (kC ci).2.1 (kC ci).2.2 q.1 q.2 := by
    intro ci
    by_cases h : ci < 12
    · obtain ⟨cC, iS, hk⟩ := u_known hts (kC_in h) (hts _ (kC_inst h).1)
      exact ⟨(cC, iS), fun _ => hk⟩
    · exact ⟨(0, fun _ => 0), fun q => absurd q h⟩
  obtain ⟨f, hf⟩ := Classical.axiomOfChoice h0
  refine ⟨fun k => (f k).1, fun k => (f k).2, fun c q hq => ?_, fun k q hq => by simp at hq⟩
  have hc : c < 12 := (List.getElem?_eq_some_iff.mp hq).1
  have e := kC_get hc
  rw [hq] at e
  cases e
  exact hf c hc
theorem sBy_r : ∀ i, i < 9 → ∀ j, j < 12 → r32 ((sBy.getD i []).getD j 0) := by unfold r32; decide +kernel
theorem wdL_r : ∀ j, j < 11 → r32 (wdL.getD j 0) := by unfold r32; decide +kernel
theorem getD_len {α : Type} (l : List α) (z : α) {k : Nat} (h : l.length ≤ k) : l.getD k z = z := by rw [List.getD_eq_getElem?_getD, List.getElem?_eq_none h]; rfl
theorem sBy_len : ∀ i, i < 9 → (sBy.getD i []).length ≤ 11 ∧ lnS.getD i 0 = (sBy.getD i []).length := by decide +kernel
theorem byS_get : ∀ i, i < 9 → ∀ j, j < 11 → (byS.getD i []).getD j 0 = Int32.ofInt ((sBy.getD i []).getD j 0) := by decide +kernel
theorem strL_ad : ∀ i, i < 9 → (strL.getD i ("", 0, "", 0)).2.2.2 = i + 4 := by decide +kernel
theorem hI_c {L a : Nat} {xs : Nat → Int} (h : ¬ jt (hI L xs) a = 0) : a = 2 ∨ a = 3 ∨ (∃ i, i < 9 ∧ a = i + 4) ∨ (∃ i, i < 9 ∧ a = i + 13) := by
  have e : jt (hI L xs) a = if a = 2 then 40 else if a = 3 then 40 else if 4 ≤ a ∧ a ≤ 12 then 60 else if 13 ≤ a ∧ a ≤ 21 then 42 else 0 := rfl
  rw [e] at h
  by_cases h2 : a = 2
  · exact Or.inl h2
  by_cases h3 : a = 3
  · exact Or.inr (Or.inl h3)
  by_cases h4 : 4 ≤ a ∧ a ≤ 12
  · exact Or.inr (Or.inr (Or.inl ⟨a - 4, by omega, by omega⟩))
  by_cases h5 : 13 ≤ a ∧ a ≤ 21
  · exact Or.inr (Or.inr (Or.inr ⟨a - 13, by omega, by omega⟩))
  · rw [if_neg h2, if_neg h3, if_neg h4, if_neg h5] at h
    exact absurd rfl h
theorem hI_tK {L i : Nat} {xs : Nat → Int} (h : i < 9) : jt (hI L xs) (i + 4) = 60 := by
  show (if i + 4 = 2 then 40 else if i + 4 = 3 then 40 else if 4 ≤ i + 4 ∧ i + 4 ≤ 12 then 60 else if 13 ≤ i + 4 ∧ i + 4 ≤ 21 then 42 else 0) = 60
  rw [if_neg (by omega), if_neg (by omega), if_pos (by omega)]
theorem hI_tV {L i : Nat} {xs : Nat → Int} (h : i < 9) : jt (hI L xs) (i + 13) = 42 := by
  show (if i + 13 = 2 then 40 else if i + 13 = 3 then 40 else if 4 ≤ i + 13 ∧ i + 13 ≤ 12 then 60 else if 13 ≤ i + 13 ∧ i + 13 ≤ 21 then 42 else 0) = 42
  rw [if_neg (by omega), if_neg (by omega), if_neg (by omega), if_pos (by omega)]
theorem hI_nV {L i : Nat} {xs : Nat → Int} (h : i < 9) : jn (hI L xs) (i + 13) = (sBy.getD i []).length := by
  show (if i + 13 = 2 then L else if i + 13 = 3 then 10 else if 13 ≤ i + 13 ∧ i + 13 ≤ 21 then (sBy.getD (i + 13 - 13) []).length else 0) = _
  rw [if_neg (by omega), if_neg (by omega), if_pos (by omega), Nat.add_sub_cancel]
theorem hI_iV {L i k : Nat} {xs : Nat → Int} (h : i < 9) : ji (hI L xs) (i + 13) k = (sBy.getD i []).getD k 0 := by
  show (if i + 13 = 2 then (if k < L then xs k else 0) else if i + 13 = 3 then wdL.getD k 0 else if 13 ≤ i + 13 ∧ i + 13 ≤ 21 then (sBy.getD (i + 13 - 13) []).getD k 0 else 0) = _
  rw [if_neg (by omega), if_neg (by omega), if_pos (by omega), Nat.add_sub_cancel]
theorem hI_iK {L i k : Nat} {xs : Nat → Int} (h : i < 9) : ji (hI L xs) (i + 4) k = 0 := by
  show (if i + 4 = 2 then (if k < L then xs k else 0) else if i + 4 = 3 then wdL.getD k 0 else if 13 ≤ i + 4 ∧ i + 4 ≤ 21 then (sBy.getD (i + 4 - 13) []).getD k 0 else 0) = _
  rw [if_neg (by omega), if_neg (by omega), if_neg (by omega)]
theorem hI_rK {L i : Nat} {xs : Nat → Int} (h : i < 9) : jr (hI L xs) (i + 4) 0 = i + 13 := by
  show (if 4 ≤ i + 4 ∧ i + 4 ≤ 12 ∧ 0 = 0 then i + 4 + 9 else 0) = _
  rw [if_pos ⟨by omega, by omega, rfl⟩]
theorem start_M {s : State} {b L : Nat} {xs : Nat → Int32} (hL : L ≤ 2048) (hts : ∀ w ∈ lw_tbl, w.before #[Value.ref b] s = true) (hX : va_X b L xs s s.heap) (hbl : b < s.heap.size) (hgv : (Jvm.Cond.and given_1 narrow_1).before #[Value.ref b] s = true) :
    ∃ D : jD, jM D s s.heap (hI L (fun k => (xs k).toInt)) ∧ jStr D s ∧ va_K (D.2.2.1, D.2.2.2.1) vwCl [] s ∧ D.1 2 = b ∧ D.2.2.2.2 = s.heap.size := by
  have hgw : ∀ w ∈ gw, w.before #[Value.ref b] s = true := fun w hw => hts w (List.mem_filter.mp hw).1
  obtain ⟨dC, dI, hK⟩ := start_K hgw
  have fl := flat_of_before _ hgv
  obtain ⟨⟨t1, t2⟩, ⟨t3, t4⟩, ⟨t5, t6⟩, ⟨t7, t8, t9, t10⟩, t11⟩ := fT
  obtain ⟨w1, w2, w3, w4, w5⟩ := fW
  have hA : ∀ a : Nat, a < s.heap.size → ¬ (fun q : Nat => s.heap.size ≤ q) a := fun a h q => Nat.not_le.mpr h q
  obtain ⟨adK, adV, hS, hev⟩ := vk_Sof (args := #[Value.ref b]) (s := s) (N := 9) (tm := tmS) (len := lnS) (byt := byS) (A := fun q : Nat => s.heap.size ≤ q) (by decide +kernel) (fun i hi => fl _ (fS_hex i hi)) (fun i hi => fl _ (fS_co i hi)) (fun i hi => fl _ (fS_ar i hi)) (fun i hi => fl _ (fS_le i hi)) (fun i hi j hj => fl _ (fS_el i hi j hj))
    (fun i j hi hj hij => (fS_ne i hi j hj hij).elim (fun q => Or.inl (fl _ q)) (fun q => Or.inr (fl _ q))) hA
  obtain ⟨wt, hwt, hWT⟩ := va_Tof (args := #[Value.ref b]) (s := s) (tm := .static "ProblemTexts" "WORDS" "[I") (ty := .int) (N := 10) (f := fun j => .int (Int32.ofInt (wdL.getD j 0))) (A := fun q : Nat => s.heap.size ≤ q) (by decide) (fl _ w1) (va_eqt (fl _ w2)) (fun j hj => va_eqt (fl _ (w5 j hj))) hA
  have z1 := va_Zref (args := #[Value.ref b]) (A := fun q : Nat => s.heap.size ≤ q) (hts _ t1) (hts _ t2) hwt hA
  have z2 := va_Zof (args := #[Value.ref b]) (A := fun q : Nat => s.heap.size ≤ q) (hts _ t3) (hts _ t4) (va_eqi (fl _ w3)) hA
  obtain ⟨fv, z3, hfv⟩ : ∃ fv : Value, va_Z "jdk/internal/util/Preconditions" "SIOOBE_FORMATTER" "Ljava/util/function/BiFunction;" fv (fun q : Nat => s.heap.size ≤ q) s s.heap ∧ (fv = .null ∨ ∃ a, fv = .ref a) := by
    rcases va_Zqof (args := #[Value.ref b]) (A := fun q : Nat => s.heap.size ≤ q) (hts _ t5) (hts _ t6) (fl _ w4) hA with q | ⟨t, q⟩
    · exact ⟨_, q, Or.inl rfl⟩
    · exact ⟨_, q, Or.inr ⟨t, rfl⟩⟩
  let ro : Nat → Nat := fun a => if a = 2 then b else if a = 3 then wt else if a ≤ 12 then adK (a - 4) else adV (a - 13)
  have ro2 : ro 2 = b := rfl
  have ro3 : ro 3 = wt := rfl
  have roK : ∀ i, i < 9 → ro (i + 4) = adK i := fun i hi => by
    show (if i + 4 = 2 then b else if i + 4 = 3 then wt else if i + 4 ≤ 12 then adK (i + 4 - 4) else adV (i + 4 - 13)) = _
    rw [if_neg (by omega), if_neg (by omega), if_pos (by omega), Nat.add_sub_cancel]
  have roV : ∀ i, i < 9 → ro (i + 13) = adV i := fun i hi => by
    show (if i + 13 = 2 then b else if i + 13 = 3 then wt else if i + 13 ≤ 12 then adK (i + 13 - 4) else adV (i + 13 - 13)) = _
    rw [if_neg (by omega), if_neg (by omega), if_neg (by omega), Nat.add_sub_cancel]
  generalize ro = ro at ro2 ro3 roK roV
  refine ⟨(ro, fv, dC, dI, s.heap.size), ⟨fun a ha => ?_, ⟨?_, ?_⟩, fun a ha => ?_, fun a k => ?_, ⟨?_, z2, z3⟩, hfv⟩, ⟨fun q hq => ?_, va_Nw.of rfl (hts _ t7), va_Nw.of rfl (hts _ t8), va_Nw.of rfl (hts _ t9), va_AO.of (hts _ t10), by
    obtain ⟨q1, q2, q3, q4, -, q6, q7, q8⟩ := arrayOverA_spec (hts _ fT2)
    exact ⟨q1, q2, q3, q4, q6, q7, q8⟩⟩, hK, ro2, rfl⟩
  · rcases hI_c ha with rfl | rfl | ⟨i, hi, rfl⟩ | ⟨i, hi, rfl⟩
    · have e : jt (hI L (fun k => (xs k).toInt)) 2 = 40 := rfl
      obtain ⟨scr, c1, c2, c3, c4, c5⟩ := hX
      unfold jC
      rw [e]
      refine ⟨fun t => by omega, fun _ _ => ⟨scr, ?_, c2, c3, ⟨Nat.le_of_eq c4.symm, by rw [c4]; rfl⟩, ?_, fun k hk => ?_, fun t => by omega⟩, fun t => by omega⟩
      · rw [jA_old (by omega)]
        show s.heap[ro 2]? = _
        rw [ro2]; exact c1
      · show L < 2 ^ 31
        omega
      · have hk : k < L := hk
        rw [c5 k hk]
        show _ = some (Value.int (Int32.ofInt (if k < L then (xs k).toInt else 0)))
        rw [if_pos hk, Int32.ofInt_toInt]
    · have e : jt (hI L (fun k => (xs k).toInt)) 3 = 40 := rfl
      obtain ⟨cell, c1, c2, c3, c4, c5, c6, c7⟩ := hWT
      unfold jC
      rw [e]
      refine ⟨fun t => by omega, fun _ _ => ⟨cell, ?_, c2, c3, ⟨c4, c5⟩, by show 10 < 2 ^ 31; omega, fun k hk => c6 k hk, fun t => by omega⟩, fun t => by omega⟩
      rw [jA_old (by omega)]
      show s.heap[ro 3]? = _
      rw [ro3]; exact c1
    · obtain ⟨q1, q2, q3, q4⟩ := hS.1 i hi
      unfold jC
      rw [hI_tK hi]
      refine ⟨fun t => by omega, fun _ t => by omega, fun _ => ?_⟩
      rw [jA_old (by omega)]
      show va_O _ (ro (i + 4)) _ _ _ ∧ va_OF _ _ _ (jVp (ro, fv, dC, dI, s.heap.size) (jr (hI L (fun k => (xs k).toInt)) (i + 4) 0)) (ro (i + 4)) _ _ _ ∧ va_OF _ _ _ (.int (Int32.ofInt (ji (hI L (fun k => (xs k).toInt)) (i + 4) 1))) (ro (i + 4)) _ _ _
      rw [hI_rK hi, hI_iK hi, jVp_2 (by omega), jA_old (by omega)]
      show va_O _ (ro (i + 4)) _ _ _ ∧ va_OF _ _ _ (.ref (ro (i + 13))) (ro (i + 4)) _ _ _ ∧ _
      rw [roK i hi, roV i hi]
      exact ⟨q1, q3, q2⟩
    · obtain ⟨-, -, -, ⟨cell, c1, c2, c3, c4, c5, c6, c7⟩⟩ := hS.1 i hi
      obtain ⟨l1, l2⟩ := sBy_len i hi
      unfold jC
      rw [hI_tV hi, hI_nV hi]
      rw [l2] at c4 c5 c6
      refine ⟨fun t => by omega, fun _ _ => ⟨cell, ?_, c2, c3, ⟨c4, c5⟩, by omega, fun k hk => ?_, fun t => by omega⟩, fun t => by omega⟩
      · rw [jA_old (by omega)]
        show s.heap[ro (i + 13)]? = _
        rw [roV i hi]; exact c1
      · rw [c6 k hk]
        show some (Value.int ((byS.getD i []).getD k 0)) = some (Value.int (Int32.ofInt (ji (hI L (fun k => (xs k).toInt)) (i + 13) k)))
        rw [hI_iV hi, byS_get i hi k (by omega)]
  · show s.heap.size = s.heap.size + (32 - 32)
    omega
  · exact Nat.le_refl 32
  · left
    rcases hI_c ha with rfl | rfl | ⟨i, hi, rfl⟩ | ⟨i, hi, rfl⟩
    · exact ⟨by omega, by omega, Nat.le_refl 40, by show ro 2 < s.heap.size; rw [ro2]; exact hbl⟩
    · obtain ⟨cell, c1, -⟩ := hWT
      exact ⟨by omega, by omega, Nat.le_refl 40, by show ro 3 < s.heap.size; rw [ro3]; exact (Array.getElem?_eq_some_iff.mp c1).1⟩
    · obtain ⟨⟨cell, c1, -⟩, -⟩ := hS.1 i hi
      exact ⟨by omega, by omega, by rw [hI_tK hi]; omega, by show ro (i + 4) < s.heap.size; rw [roK i hi]; exact (Array.getElem?_eq_some_iff.mp c1).1⟩
    · obtain ⟨-, -, -, ⟨cell, c1, -⟩⟩ := hS.1 i hi
      exact ⟨by omega, by omega, by rw [hI_tV hi]; omega, by show ro (i + 13) < s.heap.size; rw [roV i hi]; exact (Array.getElem?_eq_some_iff.mp c1).1⟩
  · refine ⟨?_, by show r64 0; unfold r64; omega⟩
    show r32 (if a = 2 then (if k < L then (xs k).toInt else 0) else if a = 3 then wdL.getD k 0 else if 13 ≤ a ∧ a ≤ 21 then (sBy.getD (a - 13) []).getD k 0 else 0)
    split
    · split
      · exact r32_I _
      · exact r32_0
    · split
      · by_cases hk : k < 11
        · exact wdL_r k hk
        · rw [getD_len _ _ (by show 10 ≤ k; omega)]; exact r32_0
      · split
        · rename_i q
          by_cases hk : k < 12
          · exact sBy_r _ (by omega) k hk
          · rw [getD_len _ _ (by have := (sBy_len (a - 13) (by omega)).1; omega)]; exact r32_0
        · exact r32_0
  · show va_Z _ _ _ (jVp (ro, fv, dC, dI, s.heap.size) 3) _ _ _
    rw [jVp_2 (by omega), jA_old (by omega)]
    show va_Z _ _ _ (.ref (ro 3)) _ _ _
    rw [ro3]
    exact z1
  · obtain ⟨i, hi⟩ := List.getElem?_of_mem hq
    have h9 : i < 9 := (List.getElem?_eq_some_iff.mp hi).1
    have hg : strL.getD i ("", 0, "", 0) = q := by rw [List.getD_eq_getElem?_getD, hi]; rfl
    have ha := strL_ad i h9
    have he := hev i h9
    unfold tmS at he
    rw [hg] at ha he
    rw [ha, jA_old (by omega)]
    show vk_R _ _ _ (ro (i + 4)) _
    rw [roK i h9]
    exact vk_R.of (hts _ (t11 q hq)) he
