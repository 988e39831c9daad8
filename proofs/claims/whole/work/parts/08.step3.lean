/-! ONE STEP: statics, arrays, new cells -/
theorem jM.arr {D : jD} {U : State} {H : Heap} {h : AH} (hM : jM D U H h) {a n : Nat} {i : Int} (hi : inA h a n i) (hn : n < 20) (hr : r32 i) : ∃ cell : Cell, H[jA D a]? = some cell ∧ U.isArrayOf cell (aTy n) ∧ cell.vm ≠ .unknown ∧ ¬ (Int32.ofInt i < 0 ∨ cell.slots.size ≤ (Int32.ofInt i).toNatClampNeg) ∧
    (Int32.ofInt i).toNatClampNeg = i.toNat ∧ cell.slots[i.toNat]? = some (jV D (jfl (aTy n) h a i.toNat)) ∧ ¬ jt h a = 0 ∧ i.toNat < jn h a ∧ (jt h a = 25 → va_RA U cell.cls (.object "ProblemTexts$Part")) := by
  obtain ⟨ht, i0, i1⟩ := hi
  have ha : ¬ jt h a = 0 := by omega
  obtain ⟨cell, a1, a2, a3, a4, a5, a6, a7⟩ := (hM.1 a ha).2.1 (by omega) (by omega)
  have e9 : jt h a % 20 = n := by omega
  rw [e9] at a2 a6
  exact ⟨cell, a1, a2, a3, I_in hr i0 (by have := a4.1; omega), I_clamp hr i0, a6 _ (by omega), ha, by omega, a7⟩
theorem inW.A {h : AH} {a n : Nat} {i : Int} (hi : inW h a n i) : inA h a n i := ⟨Or.inl hi.1, hi.2⟩
theorem nar_byte {x : Int} (h : -128 ≤ x ∧ x ≤ 127) : narrow .byte (.int (Int32.ofInt x)) = .int (Int32.ofInt x) := by
  show Value.int ((Int32.ofInt x).toInt8.toInt32) = _
  congr 1
  rw [← Int32.toInt_inj, Int8.toInt_toInt32, Int32.toInt_toInt8, I_to (by unfold r32; omega), Int.bmod_def]
  split <;> omega
theorem kC_inst {ci : Nat} (h : ci < 12) : Cond.instantiable (kC ci).1 (kC ci).2.2 ∈ gw ∧ Cond.initialized (kC ci).1 ∈ gw := by
  rcases (show ci = 0 ∨ ci = 1 ∨ ci = 2 ∨ ci = 3 ∨ ci = 4 ∨ ci = 5 ∨ ci = 6 ∨ ci = 7 ∨ ci = 8 ∨ ci = 9 ∨ ci = 10 ∨ ci = 11 by omega) with rfl | rfl | rfl | rfl | rfl | rfl | rfl | rfl | rfl | rfl | rfl | rfl <;> exact ⟨gw_of (by decide +kernel) rfl, gw_of (by decide +kernel) rfl⟩
theorem aTy_aT {t : Jvm.ClassFile.ArrayType} (h : aT t < 4) : aTy (aT t) = newarray.typeOf t ∧ newarray.typeOf t ≠ .float ∧ newarray.typeOf t ≠ .double := by
  cases t <;> first
    | exact ⟨rfl, by decide, by decide⟩
    | exact absurd h (by decide)
theorem aT_bytes {t : Jvm.ClassFile.ArrayType} (h : aT t < 4) : componentBytes (newarray.typeOf t) ≤ 8 := by
  cases t <;> first
    | decide
    | exact absurd h (by decide)
theorem arr_word {t : Jvm.ClassFile.ArrayType} (h : aT t < 4) : Cond.arrayClass (newarray.typeOf t) ∈ gw := by
  cases t <;> first
    | exact gw_of (by decide +kernel) rfl
    | exact absurd h (by decide)
section ST3
variable {D : jD} {p : Program} {l : Launch} {e : Env} {R : Room} {s : State} {m : MethodId} {args : Array Value} {below : List Frame} {meth : Method} {c : Code} {Q : State → Prop} {x0 u0 y : Nat}
variable {cl : Nat → List AV → AH → Option AV → AH → Prop} {K : Nat → List AV → List AV → AH → Prop} {Rt : Option AV → AH → Prop} {pc len : Nat} {loc stk : List AV} {h : AH}
theorem st_gs0 (hX : jX D p s m args meth c y) {ix : Nat} (hw : Cond.fieldLink (oR (mT y).2.2.2.2.1) ix "java/lang/String" "COMPACT_STRINGS" "Z" ∈ gw) (hd : decode (mT y).2.1 pc = .ok (.getstatic ix, 3)) (hS : jS cl (.sipush 1) pc 3 loc stk h K Rt) (hK : ∀ pc loc stk h, K pc loc stk h → jG D p l e R s m args below meth c Q x0 u0 pc loc stk h) : jG D p l e R s m args below meth c Q x0 u0 pc loc stk h := by
  intro H ls locs hM hL hs hl hq hx0 hu0
  obtain ⟨cf, kf, fi, f, a, cell, h1, h2, h3, h4, h5, h6, h7, h8⟩ := hM.2.2.2.2.1.2.1
  exact W.gets hX.1 hX.2.1 hX.2.2.2.1 (hX.2.2.2.2.1 _ hw) h1 h2 h3 h4 h5 (fun e => by rw [e] at h6; cases h6) h7 rfl hd (hK _ _ _ _ hS.2 H ls locs hM hL (List.forall_mem_cons.mpr ⟨hS.1, hs⟩) hl hq hx0 hu0)
theorem st_gs1 (hX : jX D p s m args meth c y) {ix : Nat} (hw : Cond.fieldLink (oR (mT y).2.2.2.2.1) ix "jdk/internal/util/Preconditions" "SIOOBE_FORMATTER" "Ljava/util/function/BiFunction;" ∈ gw) (hd : decode (mT y).2.1 pc = .ok (.getstatic ix, 3)) (hS : jS cl (.jsr 1) pc 3 loc stk h K Rt) (hK : ∀ pc loc stk h, K pc loc stk h → jG D p l e R s m args below meth c Q x0 u0 pc loc stk h) : jG D p l e R s m args below meth c Q x0 u0 pc loc stk h := by
  intro H ls locs hM hL hs hl hq hx0 hu0
  obtain ⟨cf, kf, fi, f, a, cell, h1, h2, h3, h4, h5, h6, h7, h8⟩ := hM.2.2.2.2.1.2.2
  exact W.gets hX.1 hX.2.1 hX.2.2.2.1 (hX.2.2.2.2.1 _ hw) h1 h2 h3 h4 h5 (fun e => by rw [e] at h6; cases h6) h7 rfl hd (hK _ _ _ _ hS H ls locs hM hL (List.forall_mem_cons.mpr ⟨trivial, hs⟩) hl hq hx0 hu0)
theorem st_gs2 (hX : jX D p s m args meth c y) (ho : (oR (mT y).2.2.2.2.1) = RX9) (hd : decode (mT y).2.1 pc = .ok (.getstatic 66, 3)) (hS : jS cl (.jsr 3) pc 3 loc stk h K Rt) (hK : ∀ pc loc stk h, K pc loc stk h → jG D p l e R s m args below meth c Q x0 u0 pc loc stk h) : jG D p l e R s m args below meth c Q x0 u0 pc loc stk h := by
  intro H ls locs hM hL hs hl hq hx0 hu0
  obtain ⟨cf, kf, fi, f, a, cell, h1, h2, h3, h4, h5, h6, h7, h8⟩ := hM.2.2.2.2.1.1
  exact va_WgetsN hX.1 hX.2.1 hX.2.2.2.1 (va_Nw.use rfl (by rw [ho]; exact hX.2.2.2.2.2.2.2.2.2.2.2.2.1)) h1 h2 h3 h4 h5 (fun e => by rw [e] at h6; cases h6) h7 rfl hd (hK _ _ _ _ hS H ls locs hM hL (List.forall_mem_cons.mpr ⟨trivial, hs⟩) hl hq hx0 hu0)
theorem st_iaload (hX : jX D p s m args meth c y)  (hd : decode (mT y).2.1 pc = .ok (.iaload, 1)) (hS : jS cl (.iaload) pc 1 loc stk h K Rt) (hK : ∀ pc loc stk h, K pc loc stk h → jG D p l e R s m args below meth c Q x0 u0 pc loc stk h) : jG D p l e R s m args below meth c Q x0 u0 pc loc stk h := by
  intro H ls locs hM hL hs hl hq hx0 hu0
  obtain ⟨i, r, rfl, hS⟩ := s1I_e hS
  obtain ⟨a, r, rfl, hA, hS⟩ := s1P_e hS
  obtain ⟨hi, hs⟩ := List.forall_mem_cons.mp hs
  replace hs := (List.forall_mem_cons.mp hs).2
  obtain ⟨cell, c1, c2, c3, c4, c5, c6, ha, -⟩ := hM.arr hA (by omega) hi
  rw [List.map_cons, List.map_cons, hM.ref ha]
  exact W.iald hX.1 hX.2.1 c1 c2 c3 c4 (by rw [c5]; exact c6) rfl rfl hd (hK _ _ _ _ hS H ls locs hM hL (List.forall_mem_cons.mpr ⟨(hM.2.2.2.1 _ _).1, hs⟩) hl hq hx0 hu0)
theorem st_laload (hX : jX D p s m args meth c y)  (hd : decode (mT y).2.1 pc = .ok (.laload, 1)) (hS : jS cl (.laload) pc 1 loc stk h K Rt) (hK : ∀ pc loc stk h, K pc loc stk h → jG D p l e R s m args below meth c Q x0 u0 pc loc stk h) : jG D p l e R s m args below meth c Q x0 u0 pc loc stk h := by
  intro H ls locs hM hL hs hl hq hx0 hu0
  obtain ⟨i, r, rfl, hS⟩ := s1I_e hS
  obtain ⟨a, r, rfl, hA, hS⟩ := s1P_e hS
  obtain ⟨hi, hs⟩ := List.forall_mem_cons.mp hs
  replace hs := (List.forall_mem_cons.mp hs).2
  obtain ⟨cell, c1, c2, c3, c4, c5, c6, ha, -⟩ := hM.arr hA (by omega) hi
  rw [List.map_cons, List.map_cons, hM.ref ha]
  exact W.lald hX.1 hX.2.1 c1 c2 c3 c4 (by rw [c5]; exact c6) rfl rfl hd (hK _ _ _ _ hS H ls locs hM hL (List.forall_mem_cons.mpr ⟨(hM.2.2.2.1 _ _).2, hs⟩) hl hq hx0 hu0)
theorem st_baload (hX : jX D p s m args meth c y)  (hd : decode (mT y).2.1 pc = .ok (.baload, 1)) (hS : jS cl (.baload) pc 1 loc stk h K Rt) (hK : ∀ pc loc stk h, K pc loc stk h → jG D p l e R s m args below meth c Q x0 u0 pc loc stk h) : jG D p l e R s m args below meth c Q x0 u0 pc loc stk h := by
  intro H ls locs hM hL hs hl hq hx0 hu0
  obtain ⟨i, r, rfl, hS⟩ := s1I_e hS
  obtain ⟨a, r, rfl, hA, hS⟩ := s1P_e hS
  obtain ⟨hi, hs⟩ := List.forall_mem_cons.mp hs
  replace hs := (List.forall_mem_cons.mp hs).2
  have g := hK _ _ _ _ hS H ls locs hM hL (List.forall_mem_cons.mpr ⟨(hM.2.2.2.1 _ _).1, hs⟩) hl hq hx0 hu0
  rcases hA with hA | hA
  · obtain ⟨cell, c1, c2, c3, c4, c5, c6, ha, -⟩ := hM.arr hA (by omega) hi
    rw [List.map_cons, List.map_cons, hM.ref ha]
    exact W.bald hX.1 hX.2.1 c1 c2 c3 c4 (by rw [c5]; exact c6) rfl rfl hd g
  · obtain ⟨cell, c1, c2, c3, c4, c5, c6, ha, -⟩ := hM.arr hA (by omega) hi
    rw [List.map_cons, List.map_cons, hM.ref ha]
    exact W.zald hX.1 hX.2.1 c1 c2 c3 c4 (by rw [c5]; exact c6) rfl rfl hd g
theorem st_aaload (hX : jX D p s m args meth c y)  (hd : decode (mT y).2.1 pc = .ok (.aaload, 1)) (hS : jS cl (.aaload) pc 1 loc stk h K Rt) (hK : ∀ pc loc stk h, K pc loc stk h → jG D p l e R s m args below meth c Q x0 u0 pc loc stk h) : jG D p l e R s m args below meth c Q x0 u0 pc loc stk h := by
  intro H ls locs hM hL hs hl hq hx0 hu0
  obtain ⟨i, r, rfl, hS⟩ := s1I_e hS
  obtain ⟨a, r, rfl, hA, hS⟩ := s1P_e hS
  obtain ⟨hi, hs⟩ := List.forall_mem_cons.mp hs
  replace hs := (List.forall_mem_cons.mp hs).2
  have g := hK _ _ _ _ hS H ls locs hM hL (List.forall_mem_cons.mpr ⟨trivial, hs⟩) hl hq hx0 hu0
  rcases hA with hA | hA
  · obtain ⟨cell, c1, c2, c3, c4, c5, c6, ha, -⟩ := hM.arr hA (by omega) hi
    rw [List.map_cons, List.map_cons, hM.ref ha]
    exact W.aald hX.1 hX.2.1 c1 c2 rfl c3 c4 (by rw [c5]; exact c6) rfl rfl hd g
  · obtain ⟨cell, c1, c2, c3, c4, c5, c6, ha, -⟩ := hM.arr hA (by omega) hi
    rw [List.map_cons, List.map_cons, hM.ref ha]
    exact W.aald hX.1 hX.2.1 c1 c2 rfl c3 c4 (by rw [c5]; exact c6) rfl rfl hd g
theorem st_alen (hX : jX D p s m args meth c y)  (hd : decode (mT y).2.1 pc = .ok (.arraylength, 1)) (hS : jS cl (.arraylength) pc 1 loc stk h K Rt) (hK : ∀ pc loc stk h, K pc loc stk h → jG D p l e R s m args below meth c Q x0 u0 pc loc stk h) : jG D p l e R s m args below meth c Q x0 u0 pc loc stk h := by
  intro H ls locs hM hL hs hl hq hx0 hu0
  obtain ⟨a, r, rfl, t1, t2, hS⟩ := s1P_e hS
  replace hs := (List.forall_mem_cons.mp hs).2
  have ha : ¬ jt h a = 0 := by omega
  obtain ⟨cell, a1, a2, a3, a4, a5, -⟩ := (hM.1 a ha).2.1 t1 t2
  rw [List.map_cons, hM.ref ha]
  refine W.alen (n := Int32.ofInt (jn h a : Int)) hX.1 hX.2.1 a1 a2 (by rw [Int32.ofInt_eq_ofNat]; exact a4.2) rfl rfl hd ?_
  exact hK _ _ _ _ hS H ls locs hM hL (List.forall_mem_cons.mpr ⟨(by show r32 (jn h a : Int); unfold r32; omega), hs⟩) hl hq hx0 hu0
theorem st_iastore (hX : jX D p s m args meth c y)  (hd : decode (mT y).2.1 pc = .ok (.iastore, 1)) (hS : jS cl (.iastore) pc 1 loc stk h K Rt) (hK : ∀ pc loc stk h, K pc loc stk h → jG D p l e R s m args below meth c Q x0 u0 pc loc stk h) : jG D p l e R s m args below meth c Q x0 u0 pc loc stk h := by
  intro H ls locs hM hL hs hl hq hx0 hu0
  obtain ⟨x, r, rfl, hS⟩ := s1I_e hS
  obtain ⟨i, r, rfl, hS⟩ := s1I_e hS
  obtain ⟨a, r, rfl, hA, hS⟩ := s1P_e hS
  obtain ⟨hx, hs⟩ := List.forall_mem_cons.mp hs
  obtain ⟨hi, hs⟩ := List.forall_mem_cons.mp hs
  replace hs := (List.forall_mem_cons.mp hs).2
  obtain ⟨cell, c1, c2, c3, c4, c5, c6, ha, c8, -⟩ := hM.arr hA.A (by omega) hi
  rw [List.map_cons, List.map_cons, List.map_cons, hM.ref ha]
  refine W.iast hX.1 hX.2.1 c1 c2 c3 c4 rfl rfl hd fun H2 e1 e2 e3 => ?_
  rw [c5] at e1 ⊢
  have hM2 := hM.puta (n := 0) (by omega) hA.1 c8 (one_wi hM a i.toNat hx) (by simp [aTy, jfl, ji_wi, jV]) c1 e1 e2 e3
  exact hK _ _ _ _ hS H2 ls _ hM2 hL hs hl (fun q hq2 => by
      rcases List.mem_append.mp hq2 with q1 | q1
      · exact hq q q1
      · rw [List.mem_singleton] at q1
        subst q1
        show D.2.2.2.2 ≤ jA D a
        rw [jA_new (hM.new ha (by have := hA.1; omega)).1]; omega) hx0 hu0
theorem st_lastore (hX : jX D p s m args meth c y)  (hd : decode (mT y).2.1 pc = .ok (.lastore, 1)) (hS : jS cl (.lastore) pc 1 loc stk h K Rt) (hK : ∀ pc loc stk h, K pc loc stk h → jG D p l e R s m args below meth c Q x0 u0 pc loc stk h) : jG D p l e R s m args below meth c Q x0 u0 pc loc stk h := by
  intro H ls locs hM hL hs hl hq hx0 hu0
  obtain ⟨x, r, rfl, hS⟩ := s1L_e hS
  obtain ⟨i, r, rfl, hS⟩ := s1I_e hS
  obtain ⟨a, r, rfl, hA, hS⟩ := s1P_e hS
  obtain ⟨hx, hs⟩ := List.forall_mem_cons.mp hs
  obtain ⟨hi, hs⟩ := List.forall_mem_cons.mp hs
  replace hs := (List.forall_mem_cons.mp hs).2
  obtain ⟨cell, c1, c2, c3, c4, c5, c6, ha, c8, -⟩ := hM.arr hA.A (by omega) hi
  rw [List.map_cons, List.map_cons, List.map_cons, hM.ref ha]
  refine W.last hX.1 hX.2.1 c1 c2 c3 c4 rfl rfl hd fun H2 e1 e2 e3 => ?_
  rw [c5] at e1 ⊢
  have hM2 := hM.puta (n := 1) (by omega) hA.1 c8 (one_wl hM a i.toNat hx) (by simp [aTy, jfl, jl_wl, jV]) c1 e1 e2 e3
  exact hK _ _ _ _ hS H2 ls _ hM2 hL hs hl (fun q hq2 => by
      rcases List.mem_append.mp hq2 with q1 | q1
      · exact hq q q1
      · rw [List.mem_singleton] at q1
        subst q1
        show D.2.2.2.2 ≤ jA D a
        rw [jA_new (hM.new ha (by have := hA.1; omega)).1]; omega) hx0 hu0
theorem st_bastore (hX : jX D p s m args meth c y)  (hd : decode (mT y).2.1 pc = .ok (.bastore, 1)) (hS : jS cl (.bastore) pc 1 loc stk h K Rt) (hK : ∀ pc loc stk h, K pc loc stk h → jG D p l e R s m args below meth c Q x0 u0 pc loc stk h) : jG D p l e R s m args below meth c Q x0 u0 pc loc stk h := by
  intro H ls locs hM hL hs hl hq hx0 hu0
  obtain ⟨x, r, rfl, hS⟩ := s1I_e hS
  obtain ⟨i, r, rfl, hS⟩ := s1I_e hS
  obtain ⟨a, r, rfl, hA, hS⟩ := s1P_e hS
  obtain ⟨hx, hs⟩ := List.forall_mem_cons.mp hs
  obtain ⟨hi, hs⟩ := List.forall_mem_cons.mp hs
  replace hs := (List.forall_mem_cons.mp hs).2
  rcases hA with ⟨hA, hb⟩ | ⟨hA, hb⟩
  · obtain ⟨cell, c1, c2, c3, c4, c5, c6, ha, c8, -⟩ := hM.arr hA.A (by omega) hi
    rw [List.map_cons, List.map_cons, List.map_cons, hM.ref ha]
    refine W.bast hX.1 hX.2.1 c1 c2 c3 c4 rfl rfl hd fun H2 e1 e2 e3 => ?_
    rw [nar_byte hb] at e1
    rw [c5] at e1 ⊢
    have hM2 := hM.puta (n := 2) (by omega) hA.1 c8 (one_wi hM a i.toNat hx) (by simp [aTy, jfl, ji_wi, jV]) c1 e1 e2 e3
    exact hK _ _ _ _ hS H2 ls _ hM2 hL hs hl (fun q hq2 => by
        rcases List.mem_append.mp hq2 with q1 | q1
        · exact hq q q1
        · rw [List.mem_singleton] at q1
          subst q1
          show D.2.2.2.2 ≤ jA D a
          rw [jA_new (hM.new ha (by have := hA.1; omega)).1]; omega) hx0 hu0
  · obtain ⟨cell, c1, c2, c3, c4, c5, c6, ha, c8, -⟩ := hM.arr hA.A (by omega) hi
    rw [List.map_cons, List.map_cons, List.map_cons, hM.ref ha]
    refine W.zast hX.1 hX.2.1 c1 c2 c3 c4 rfl rfl hd fun H2 e1 e2 e3 => ?_
    rw [show narrow .boolean (.int (Int32.ofInt x)) = .int (Int32.ofInt x) by rcases hb with rfl | rfl <;> rfl] at e1
    rw [c5] at e1 ⊢
    have hM2 := hM.puta (n := 3) (by omega) hA.1 c8 (one_wi hM a i.toNat hx) (by simp [aTy, jfl, ji_wi, jV]) c1 e1 e2 e3
    exact hK _ _ _ _ hS H2 ls _ hM2 hL hs hl (fun q hq2 => by
        rcases List.mem_append.mp hq2 with q1 | q1
        · exact hq q q1
        · rw [List.mem_singleton] at q1
          subst q1
          show D.2.2.2.2 ≤ jA D a
          rw [jA_new (hM.new ha (by have := hA.1; omega)).1]; omega) hx0 hu0
theorem st_aastore (hX : jX D p s m args meth c y)  (hd : decode (mT y).2.1 pc = .ok (.aastore, 1)) (hS : jS cl (.aastore) pc 1 loc stk h K Rt) (hK : ∀ pc loc stk h, K pc loc stk h → jG D p l e R s m args below meth c Q x0 u0 pc loc stk h) : jG D p l e R s m args below meth c Q x0 u0 pc loc stk h := by
  intro H ls locs hM hL hs hl hq hx0 hu0
  obtain ⟨b, r, rfl, hS⟩ := s1P_e hS
  obtain ⟨i, r, rfl, hS⟩ := s1I_e hS
  obtain ⟨a, r, rfl, hA, hb, hS⟩ := s1P_e hS
  replace hs := (List.forall_mem_cons.mp hs).2
  obtain ⟨hi, hs⟩ := List.forall_mem_cons.mp hs
  replace hs := (List.forall_mem_cons.mp hs).2
  obtain ⟨cell, c1, c2, c3, c4, c5, c6, ha, c8, c9⟩ := hM.arr hA.A (by omega) hi
  rw [List.map_cons, List.map_cons, List.map_cons, hM.ref ha]
  have hval : jV D (jP b) = jV D (jfl (aTy 5) (wr h a i.toNat b) a i.toNat) := by simp [aTy, jfl, jr_wr]
  have fin : ∀ H2 : Heap, H2[jA D a]? = some (cell.setSlot (Int32.ofInt i).toNatClampNeg (jV D (jP b))) → H2.size = H.size → (∀ q, q ≠ jA D a → H2[q]? = H[q]?) → W p l e R s m args below meth c H2 (locs ++ [⟨jA D a, (Int32.ofInt i).toNatClampNeg⟩]) (jx h - x0) (ju h - u0) Q (F0 m (pc + 1) ls (r.map (jV D))) := fun H2 e1 e2 e3 => by
    rw [c5] at e1 ⊢
    have hM2 := hM.puta (n := 5) (by omega) hA.1 c8 (one_wr hM a i.toNat b) hval c1 e1 e2 e3
    exact hK _ _ _ _ hS H2 ls _ hM2 hL hs hl (fun q hq2 => by
        rcases List.mem_append.mp hq2 with q1 | q1
        · exact hq q q1
        · rw [List.mem_singleton] at q1
          subst q1
          show D.2.2.2.2 ≤ jA D a
          rw [jA_new (hM.new ha (by have := hA.1; omega)).1]; omega) hx0 hu0
  rcases hb with rfl | hb
  · exact va_WaastN (C := "ProblemTexts$Part") hX.1 hX.2.1 c1 c2 c3 c4 rfl rfl hd fin
  · have hbn : ¬ jt h b = 0 := by omega
    obtain ⟨kA, comp, r1, r2, r3, r4⟩ := c9 hA.1
    obtain ⟨cv, b1, b2, b3, b4, b5⟩ := (hM.1 b hbn).1 (by omega)
    have hP := hX.2.2.2.2.2.1.1 5 _ (kC_get (by omega))
    obtain ⟨-, hfc, kc, hkc, hkind⟩ := hP
    have e6 : jt h b - 1 = 5 := by omega
    rw [e6] at b2
    have hcc : comp = cv.cls := by rw [b2]; exact Option.some.inj (r3.symm.trans hfc)
    rw [hM.ref hbn] at fin ⊢
    obtain ⟨kcomp, hkcomp, -⟩ := Vm.findClass_spec r3
    refine W.aast hX.1 hX.2.1 c1 c2.1 c3 r1 r2 rfl hkcomp ⟨fun q => c4 (Or.inl q), Nat.not_le.mp fun q => c4 (Or.inr q)⟩ b1 (by rw [b3]; exact fun q z => by cases z) (kv := kc) (by rw [b2]; exact hkc) (by rw [hcc]; exact va_asg _ _) rfl rfl hd fin
theorem st_new (hX : jX D p s m args meth c y) {ix ci : Nat} (hw : Cond.classLink (oR (mT y).2.2.2.2.1) ix (kC ci).1 ∈ gw) (hKm : ∀ pc loc stk h, K pc loc stk h → jx h - x0 ≤ R.cells ∧ ju h - u0 ≤ R.slots) (hd : decode (mT y).2.1 pc = .ok (.new ix, 3)) (hS : jS cl (.new ci) pc 3 loc stk h K Rt) (hK : ∀ pc loc stk h, K pc loc stk h → jG D p l e R s m args below meth c Q x0 u0 pc loc stk h) : jG D p l e R s m args below meth c Q x0 u0 pc loc stk h := by
  intro H ls locs hM hL hs hl hq hx0 hu0
  obtain ⟨hci, hS⟩ := hS
  obtain ⟨rc, rs⟩ := hKm _ _ _ _ hS
  rw [jx_nw] at rc
  rw [ju_nw] at rs
  have hKn := hX.2.2.2.2.2.1.1 ci _ (kC_get hci)
  refine W.newcK hX.1 hX.2.1 hX.2.2.2.1 (hX.2.2.2.2.1 _ hw) (hX.2.2.2.2.1 _ (kC_inst hci).1) (hX.2.2.2.2.1 _ (kC_inst hci).2) rfl hd (by omega) (by omega) hKn.2.1 rfl fun H2 kc hkc e1 z1 o1 => ?_
  obtain ⟨cell, b1, b2, b3, b4⟩ := u_born (kTy ci) hX.2.2.2.2.1 (kC_in hci) hKn hkc e1 (kC_ty hci)
  have hc : jC D s H2 (nw h (ci + 1) (kC ci).2.2) (jx h) := by
    have e0 : jt (nw h (ci + 1) (kC ci).2.2) (jx h) = ci + 1 := by rw [jt_nw, if_pos rfl]
    refine ⟨fun _ => ?_, fun t => by omega, fun t => by omega⟩
    rw [e0, hM.next, Nat.add_sub_cancel]
    exact ⟨cell, b1, b2, b3, hci, fun k hk => by rw [b4 k hk, jfl_0 h _ _ k (kC_nf hci k hk).1 (kC_nf hci k hk).2]⟩
  have hM2 := hM.cell (by omega) hc z1 o1
  have g := hK _ _ _ _ hS H2 ls locs hM2 hL (List.forall_mem_cons.mpr ⟨trivial, hs⟩) hl hq (by rw [jx_nw]; omega) (by rw [ju_nw]; omega)
  rw [List.map_cons, show jV D (jP (jx h)) = .ref H.size by rw [← hM.next]; exact jVp_2 (by have := hM.2.1.2; omega), jx_nw, ju_nw] at g
  rw [show jx h + 1 - x0 = jx h - x0 + 1 by omega, show ju h + (kC ci).2.2 - u0 = ju h - u0 + (kC ci).2.2 by omega] at g
  exact g
theorem st_newa (hX : jX D p s m args meth c y) {t : Jvm.ClassFile.ArrayType} (hKm : ∀ pc loc stk h, K pc loc stk h → jx h - x0 ≤ R.cells ∧ ju h - u0 ≤ R.slots) (hd : decode (mT y).2.1 pc = .ok (.newarray t, 2)) (hS : jS cl (.newarray t) pc 2 loc stk h K Rt) (hK : ∀ pc loc stk h, K pc loc stk h → jG D p l e R s m args below meth c Q x0 u0 pc loc stk h) : jG D p l e R s m args below meth c Q x0 u0 pc loc stk h := by
  intro H ls locs hM hL hs hl hq hx0 hu0
  obtain ⟨n, r, rfl, n0, n1, ht, hS⟩ := s1I_e hS
  obtain ⟨hn, hs⟩ := List.forall_mem_cons.mp hs
  have hn : r32 n := hn
  obtain ⟨rc, rs⟩ := hKm _ _ _ _ hS
  rw [jx_nw] at rc
  rw [ju_nw] at rs
  obtain ⟨t1, t2, t3⟩ := aTy_aT ht
  have hby := aT_bytes ht
  refine W.newaK (N := n.toNat) hX.1 hX.2.1 (hX.2.2.2.2.1 _ (arr_word ht)) rfl hd rfl (by rw [← I_0, I_lt hn r32_0]; omega) (I_clamp hn n0) ?_ (by omega) (by omega) rfl fun H2 cA e1 z1 o1 hAr => ?_
  · have : n.toNat * componentBytes (newarray.typeOf t) ≤ 1000000 * 8 := Nat.mul_le_mul (by omega) hby
    omega
  · have hc : jC D s H2 (nw h (20 + aT t) n.toNat) (jx h) := by
      have e0 : jt (nw h (20 + aT t) n.toNat) (jx h) = 20 + aT t := by rw [jt_nw, if_pos rfl]
      have e3 : jn (nw h (20 + aT t) n.toNat) (jx h) = n.toNat := by rw [jn_nw, if_pos rfl]
      have e5 : (20 + aT t) % 20 = aT t := by omega
      refine ⟨fun q => by omega, fun _ _ => ?_, fun q => by omega⟩
      rw [e0, e3, hM.next, e5, t1]
      exact ⟨_, e1, hAr _ _, (fun q => by cases q), ⟨Nat.le_of_eq (arrV_size _ _ _).symm, by rw [arrV_size]⟩, by omega, fun k hk => by rw [arrV_read _ _ hk, jfl_0 h _ _ k t2 t3], fun q => by omega⟩
    have hM2 := hM.cell (by omega) hc z1 o1
    have g := hK _ _ _ _ hS H2 ls locs hM2 hL (List.forall_mem_cons.mpr ⟨trivial, hs⟩) hl hq (by rw [jx_nw]; omega) (by rw [ju_nw]; omega)
    rw [List.map_cons, show jV D (jP (jx h)) = .ref H.size by rw [← hM.next]; exact jVp_2 (by have := hM.2.1.2; omega), jx_nw, ju_nw] at g
    rw [show jx h + 1 - x0 = jx h - x0 + 1 by omega, show ju h + n.toNat - u0 = ju h - u0 + n.toNat by omega] at g
    exact g
theorem st_anew (hX : jX D p s m args meth c y) {ix : Nat} (hw : Cond.classLink (oR (mT y).2.2.2.2.1) ix "ProblemTexts$Part" ∈ gw) (hKm : ∀ pc loc stk h, K pc loc stk h → jx h - x0 ≤ R.cells ∧ ju h - u0 ≤ R.slots) (hd : decode (mT y).2.1 pc = .ok (.anewarray ix, 3)) (hS : jS cl (.anewarray 5) pc 3 loc stk h K Rt) (hK : ∀ pc loc stk h, K pc loc stk h → jG D p l e R s m args below meth c Q x0 u0 pc loc stk h) : jG D p l e R s m args below meth c Q x0 u0 pc loc stk h := by
  intro H ls locs hM hL hs hl hq hx0 hu0
  obtain ⟨n, r, rfl, n0, n1, -, hS⟩ := s1I_e hS
  obtain ⟨hn, hs⟩ := List.forall_mem_cons.mp hs
  have hn : r32 n := hn
  obtain ⟨rc, rs⟩ := hKm _ _ _ _ hS
  rw [jx_nw] at rc
  rw [ju_nw] at rs
  have hcl := I_clamp hn n0
  refine W.anew hX.1 hX.2.1 hX.2.2.2.1 (hX.2.2.2.2.1 _ hw) (hX.2.2.2.2.2.2.2.2.2.2.2.2.2.1).use rfl hd rfl (by rw [← I_0, I_lt hn r32_0]; omega) (by rw [hcl]; omega) (by omega) (by rw [hcl]; omega) fun cA kA comp f1 f2 f3 f4 => ?_
  rw [hcl, arrV_new]
  have z1 : (H.push (arrV cA n.toNat (fun _ => .null))).size = H.size + 1 := by simp
  have e1 : (H.push (arrV cA n.toNat (fun _ => .null)))[H.size]? = some (arrV cA n.toNat (fun _ => .null)) := by simp
  have o1 : ∀ q, q < H.size → (H.push (arrV cA n.toNat (fun _ => .null)))[q]? = H[q]? := fun q hq => by rw [Array.getElem?_push, if_neg (Nat.ne_of_lt hq)]
  generalize H.push (arrV cA n.toNat (fun _ => .null)) = H2 at z1 e1 o1 ⊢
  have hc : jC D s H2 (nw h 25 n.toNat) (jx h) := by
    have e0 : jt (nw h 25 n.toNat) (jx h) = 25 := by rw [jt_nw, if_pos rfl]
    have e3 : jn (nw h 25 n.toNat) (jx h) = n.toNat := by rw [jn_nw, if_pos rfl]
    refine ⟨fun q => by omega, fun _ _ => ?_, fun q => by omega⟩
    rw [e0, e3, hM.next]
    exact ⟨_, e1, ⟨fun k q => (by cases q), kA, f2, comp, f3⟩, (fun q => by cases q), ⟨Nat.le_of_eq (arrV_size _ _ _).symm, by rw [arrV_size]⟩, by omega, fun k hk => by rw [arrV_read _ _ hk, jfl_0 h _ _ k (by decide) (by decide)]; rfl, fun _ => ⟨kA, comp, f2, f3, f4, f1⟩⟩
  have hM2 := hM.cell (by omega) hc z1 o1
  have g := hK _ _ _ _ hS H2 ls locs hM2 hL (List.forall_mem_cons.mpr ⟨trivial, hs⟩) hl hq (by rw [jx_nw]; omega) (by rw [ju_nw]; omega)
  rw [List.map_cons, show jV D (jP (jx h)) = .ref H.size by rw [← hM.next]; exact jVp_2 (by have := hM.2.1.2; omega), jx_nw, ju_nw] at g
  rw [show jx h + 1 - x0 = jx h - x0 + 1 by omega, show ju h + n.toNat - u0 = ju h - u0 + n.toNat by omega] at g
  exact g
end ST3
