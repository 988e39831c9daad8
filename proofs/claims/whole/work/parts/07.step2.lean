/-! ONE STEP: switches, fields, statics, arrays, new cells -/
theorem vok_fl {D : jD} {U : State} {H : Heap} {h : AH} (hM : jM D U H h) (ty : FieldType) (a k : Nat) : vok (jfl ty h a k) := by
  obtain ⟨q1, q2⟩ := hM.2.2.2.1 a k
  cases ty <;> first
    | exact q1
    | exact q2
    | trivial
theorem jlook_off (pc d x : Int) : ∀ ps : List (Int × Int), jlook (pc + d) (ps.map (fun q => (q.1, pc + q.2))) x = pc + Op.lookupswitch.offset ps d x
  | [] => rfl
  | (a, o) :: r => by
    rw [Op.lookupswitch.offset_cons, List.map_cons]
    show (if x = a then pc + o else jlook (pc + d) (r.map (fun q => (q.1, pc + q.2))) x) = _
    by_cases e : x = a
    · rw [if_pos e, if_pos e.symm]
    · rw [if_neg e, if_neg (fun q => e q.symm), jlook_off pc d x r]
theorem jlook_ok (pc d x : Int) (hd : 0 ≤ pc + d) : ∀ ps : List (Int × Int), (∀ q ∈ ps, 0 ≤ pc + q.2) → 0 ≤ pc + Op.lookupswitch.offset ps d x
  | [], _ => hd
  | (a, o) :: r, h => by
    rw [Op.lookupswitch.offset_cons]
    split
    · exact h _ List.mem_cons_self
    · exact jlook_ok pc d x hd r (fun q hq => h q (List.mem_cons_of_mem _ hq))
theorem jpf_e {ty : FieldType} {stk : List AV} {h : AH} {k : Nat} {K : Nat → List AV → AH → Prop} (hS : jpf ty stk h k K) : ∃ v a r h', stk = v :: jP a :: r ∧ K a r h' ∧ (∀ (D : jD) (U : State) (H : Heap), jM D U H h → vok v → one h h' a k) ∧
    (∀ D : jD, jV D v = jV D (jfl ty h' a k)) ∧ ∀ D : jD, jfv D → narrow ty (jV D v) = jV D v ∧ fits ty (jV D v) = true := by
  cases ty with
  | long =>
    obtain ⟨x, r, rfl, hS⟩ := s1L_e hS
    obtain ⟨a, r, rfl, hS⟩ := s1P_e hS
    exact ⟨_, a, r, _, rfl, hS, fun D U H hM hv => one_wl hM a k hv, fun D => by simp [jfl, jl_wl], fun D _ => ⟨rfl, rfl⟩⟩
  | int =>
    obtain ⟨x, r, rfl, hS⟩ := s1I_e hS
    obtain ⟨a, r, rfl, hS⟩ := s1P_e hS
    exact ⟨_, a, r, _, rfl, hS, fun D U H hM hv => one_wi hM a k hv, fun D => by simp [jfl, ji_wi], fun D _ => ⟨rfl, rfl⟩⟩
  | boolean =>
    obtain ⟨x, r, rfl, hS⟩ := s1I_e hS
    obtain ⟨a, r, rfl, hb, hS⟩ := s1P_e hS
    refine ⟨_, a, r, _, rfl, hS, fun D U H hM hv => one_wi hM a k hv, fun D => by simp [jfl, ji_wi], fun D _ => ?_⟩
    rcases hb with rfl | rfl <;> exact ⟨rfl, rfl⟩
  | object n =>
    obtain ⟨x, r, rfl, hS⟩ := s1P_e hS
    obtain ⟨a, r, rfl, hS⟩ := s1P_e hS
    refine ⟨_, a, r, _, rfl, hS, fun D U H hM hv => one_wr hM a k x, fun D => by simp [jfl, jr_wr], fun D hf => ?_⟩
    show narrow _ (jVp D x) = jVp D x ∧ fits _ (jVp D x) = true
    rcases jVp_or hf x with e | ⟨q, e⟩ <;> rw [e] <;> exact ⟨rfl, rfl⟩
  | array n =>
    obtain ⟨x, r, rfl, hS⟩ := s1P_e hS
    obtain ⟨a, r, rfl, hS⟩ := s1P_e hS
    refine ⟨_, a, r, _, rfl, hS, fun D U H hM hv => one_wr hM a k x, fun D => by simp [jfl, jr_wr], fun D hf => ?_⟩
    show narrow _ (jVp D x) = jVp D x ∧ fits _ (jVp D x) = true
    rcases jVp_or hf x with e | ⟨q, e⟩ <;> rw [e] <;> exact ⟨rfl, rfl⟩
  | _ => exact hS.elim
section ST2
variable {D : jD} {p : Program} {l : Launch} {e : Env} {R : Room} {s : State} {m : MethodId} {args : Array Value} {below : List Frame} {meth : Method} {c : Code} {Q : State → Prop} {x0 u0 y : Nat}
variable {cl : Nat → List AV → AH → Option AV → AH → Prop} {K : Nat → List AV → List AV → AH → Prop} {Rt : Option AV → AH → Prop} {pc len : Nat} {loc stk : List AV} {h : AH}
theorem st_table (hX : jX D p s m args meth c y) {d lo hi : Int} {ts : Array Int} (ht : 0 ≤ (pc : Int) + d ∧ ∀ t ∈ ts.toList, 0 ≤ (pc : Int) + t) (hd : decode (mT y).2.1 pc = .ok (.tableswitch d lo hi ts, len)) (hS : jS cl (.tableswitch ((pc : Int) + d) lo hi (ts.map (fun t => (pc : Int) + t))) pc len loc stk h K Rt) (hK : ∀ pc loc stk h, K pc loc stk h → jG D p l e R s m args below meth c Q x0 u0 pc loc stk h) : jG D p l e R s m args below meth c Q x0 u0 pc loc stk h := by
  intro H ls locs hM hL hs hl hq hx0 hu0
  obtain ⟨x1, r, rfl, hS1, hS2⟩ := s1I_e hS
  obtain ⟨hx, hs⟩ := List.forall_mem_cons.mp hs
  have hx : r32 x1 := hx
  by_cases q : x1 < lo ∨ hi < x1
  · exact lv_tableOut (tgt := ((pc : Int) + d).toNat) hX.1 hX.2.1 hd (by rw [I_to hx]; exact q) (by omega) (hK _ _ _ _ (hS1 q) H ls locs hM hL hs hl hq hx0 hu0)
  · obtain ⟨t, e1, hS⟩ := hS2 q
    rw [Array.toList_map, List.getElem?_map, Option.map_eq_some_iff] at e1
    obtain ⟨o, e1, rfl⟩ := e1
    refine lv_tableIn (tgt := ((pc : Int) + o).toNat) (off := o) hX.1 hX.2.1 hd (by rw [I_to hx]; omega) (by rw [I_to hx]; omega) (by rw [I_to hx, ← Array.getElem?_toList]; exact e1) ?_ (hK _ _ _ _ hS H ls locs hM hL hs hl hq hx0 hu0)
    have := ht.2 o (List.mem_of_getElem? e1)
    omega
theorem st_look (hX : jX D p s m args meth c y) {d : Int} {ps : Array (Int × Int)} (ht : 0 ≤ (pc : Int) + d ∧ ∀ q ∈ ps.toList, 0 ≤ (pc : Int) + q.2) (hp : (ps.toList.zip (ps.toList.drop 1)).all (fun (a, next) => a.1 < next.1) = true) (hd : decode (mT y).2.1 pc = .ok (.lookupswitch d ps, len)) (hS : jS cl (.lookupswitch ((pc : Int) + d) (ps.map (fun q => (q.1, (pc : Int) + q.2)))) pc len loc stk h K Rt) (hK : ∀ pc loc stk h, K pc loc stk h → jG D p l e R s m args below meth c Q x0 u0 pc loc stk h) : jG D p l e R s m args below meth c Q x0 u0 pc loc stk h := by
  intro H ls locs hM hL hs hl hq hx0 hu0
  obtain ⟨x1, r, rfl, hS9⟩ := s1I_e hS
  obtain ⟨hx, hs⟩ := List.forall_mem_cons.mp hs
  have hx : r32 x1 := hx
  rw [Array.toList_map, jlook_off] at hS9
  have h0 := jlook_ok pc d x1 ht.1 ps.toList ht.2
  exact lv_lookup (tgt := ((pc : Int) + Op.lookupswitch.offset ps.toList d x1).toNat) hX.1 hX.2.1 hd hp (by rw [I_to hx]) (by omega) (hK _ _ _ _ hS9 H ls locs hM hL hs hl hq hx0 hu0)
theorem st_getf (hX : jX D p s m args meth c y) {ix f0 : Nat} (he : f0 / 100 < 12) (hk : f0 % 100 < (kC (f0 / 100)).2.2) (hw : Jvm.Cond.fieldLink (oR (mT y).2.2.2.2.1) ix ((kC (f0 / 100)).2.1 (f0 % 100)).1 ((kC (f0 / 100)).2.1 (f0 % 100)).2.1 ((kC (f0 / 100)).2.1 (f0 % 100)).2.2.1 ∈ gw) (hd : decode (mT y).2.1 pc = .ok (.getfield ix, 3)) (hS : jS cl (.getfield f0) pc 3 loc stk h K Rt) (hK : ∀ pc loc stk h, K pc loc stk h → jG D p l e R s m args below meth c Q x0 u0 pc loc stk h) : jG D p l e R s m args below meth c Q x0 u0 pc loc stk h := by
  intro H ls locs hM hL hs hl hq hx0 hu0
  obtain ⟨a, r, rfl, ht, hS⟩ := s1P_e hS
  rw [tg_lt he] at ht
  replace hs := (List.forall_mem_cons.mp hs).2
  have ha : ¬ jt h a = 0 := by omega
  obtain ⟨cell, a1, a2, a3, a4, a5⟩ := (hM.1 a ha).1 (by omega)
  have e9 : jt h a - 1 = f0 / 100 := by omega
  rw [e9] at a2 a5
  obtain ⟨hSl, hfc, kc, hkc, hkind⟩ := hX.2.2.2.2.2.1.1 (f0 / 100) _ (kC_get he)
  obtain ⟨cf, kf, fi, f, hi, hsl⟩ := hSl _ hk
  rw [List.map_cons, hM.ref ha]
  refine W.getf hX.1 hX.2.1 hX.2.2.2.1 (hX.2.2.2.2.1 _ hw) hi (u_facts hfc hkc (u_lays hX.2.2.2.2.1 (kC_in he) hk) hi).1 a1 (by rw [a3]; exact fun q => by cases q) (v := jV D (jfl (kTy (f0 / 100) (f0 % 100)) h a (f0 % 100))) (by rw [hsl]; exact a5 _ hk) rfl rfl hd ?_
  exact hK _ _ _ _ hS H ls locs hM hL (List.forall_mem_cons.mpr ⟨vok_fl hM _ _ _, hs⟩) hl hq hx0 hu0
theorem st_getS0 (hX : jX D p s m args meth c y) {ix : Nat} (hw : Jvm.Cond.fieldLink (oR (mT y).2.2.2.2.1) ix "java/lang/String" "value" "[B" ∈ gw) (hd : decode (mT y).2.1 pc = .ok (.getfield ix, 3)) (hS : jS cl (.getfield 1200) pc 3 loc stk h K Rt) (hK : ∀ pc loc stk h, K pc loc stk h → jG D p l e R s m args below meth c Q x0 u0 pc loc stk h) : jG D p l e R s m args below meth c Q x0 u0 pc loc stk h := by
  intro H ls locs hM hL hs hl hq hx0 hu0
  obtain ⟨a, r, rfl, ht, hS⟩ := s1P_e hS
  have ht : jt h a = 60 := ht
  replace hs := (List.forall_mem_cons.mp hs).2
  have ha : ¬ jt h a = 0 := by omega
  obtain ⟨-, ⟨cf, kf, fi, f, cell, h1, h2, h3, h4, h5, h6⟩, -⟩ := (hM.1 a ha).2.2 (by omega)
  rw [List.map_cons, hM.ref ha]
  exact W.getf hX.1 hX.2.1 hX.2.2.2.1 (hX.2.2.2.2.1 _ hw) h1 h2 h3 h4 h5 rfl rfl hd (hK _ _ _ _ hS H ls locs hM hL (List.forall_mem_cons.mpr ⟨vok_fl hM _ _ _, hs⟩) hl hq hx0 hu0)
theorem st_getS1 (hX : jX D p s m args meth c y) {ix : Nat} (hw : Jvm.Cond.fieldLink (oR (mT y).2.2.2.2.1) ix "java/lang/String" "coder" "B" ∈ gw) (hd : decode (mT y).2.1 pc = .ok (.getfield ix, 3)) (hS : jS cl (.getfield 1201) pc 3 loc stk h K Rt) (hK : ∀ pc loc stk h, K pc loc stk h → jG D p l e R s m args below meth c Q x0 u0 pc loc stk h) : jG D p l e R s m args below meth c Q x0 u0 pc loc stk h := by
  intro H ls locs hM hL hs hl hq hx0 hu0
  obtain ⟨a, r, rfl, ht, hS⟩ := s1P_e hS
  have ht : jt h a = 60 := ht
  replace hs := (List.forall_mem_cons.mp hs).2
  have ha : ¬ jt h a = 0 := by omega
  obtain ⟨-, -, ⟨cf, kf, fi, f, cell, h1, h2, h3, h4, h5, h6⟩⟩ := (hM.1 a ha).2.2 (by omega)
  rw [List.map_cons, hM.ref ha]
  exact W.getf hX.1 hX.2.1 hX.2.2.2.1 (hX.2.2.2.2.1 _ hw) h1 h2 h3 h4 h5 rfl rfl hd (hK _ _ _ _ hS H ls locs hM hL (List.forall_mem_cons.mpr ⟨vok_fl hM _ _ _, hs⟩) hl hq hx0 hu0)
theorem st_putf (hX : jX D p s m args meth c y) {ix f0 : Nat} (he : f0 / 100 < 12) (hk : f0 % 100 < (kC (f0 / 100)).2.2) (hw : Jvm.Cond.fieldLink (oR (mT y).2.2.2.2.1) ix ((kC (f0 / 100)).2.1 (f0 % 100)).1 ((kC (f0 / 100)).2.1 (f0 % 100)).2.1 ((kC (f0 / 100)).2.1 (f0 % 100)).2.2.1 ∈ gw) (hfin : ((kC (f0 / 100)).2.1 (f0 % 100)).2.2.2 = true → (mT y).2.2.2.2.2.2 = 2 ∧ ((kC (f0 / 100)).2.1 (f0 % 100)).1 = oR (mT y).2.2.2.2.1) (hd : decode (mT y).2.1 pc = .ok (.putfield ix, 3)) (hS : jS cl (.putfield f0) pc 3 loc stk h K Rt) (hK : ∀ pc loc stk h, K pc loc stk h → jG D p l e R s m args below meth c Q x0 u0 pc loc stk h) : jG D p l e R s m args below meth c Q x0 u0 pc loc stk h := by
  intro H ls locs hM hL hs hl hq hx0 hu0
  have hS : jpf (kTy (f0 / 100) (f0 % 100)) stk h (f0 % 100) (fun a r h' => jt h a = tg (f0 / 100) ∧ f0 / 100 < 12 ∧ K (pc + 3) loc r h') := hS
  obtain ⟨v, a, r, h', rfl, ⟨ht, -, hS⟩, ho, hv, hn⟩ := jpf_e hS
  rw [tg_lt he] at ht
  obtain ⟨hvk, hs⟩ := List.forall_mem_cons.mp hs
  replace hs := (List.forall_mem_cons.mp hs).2
  have o := ho D s H hM hvk
  obtain ⟨hn, hf⟩ := hn D hM.fv
  have ha : ¬ jt h a = 0 := by omega
  obtain ⟨n1, n2⟩ := hM.new ha (by omega)
  obtain ⟨cell, a1, a2, a3, a4, a5⟩ := (hM.1 a ha).1 (by omega)
  have e9 : jt h a - 1 = f0 / 100 := by omega
  rw [e9] at a2 a5
  obtain ⟨hSl, hfc, kc, hkc, hkind⟩ := hX.2.2.2.2.2.1.1 (f0 / 100) _ (kC_get he)
  have hap := va_apart (D := (D.2.2.1, D.2.2.2.1)) (own := "") hX.2.2.2.2.1 (kC_in he) (kTy (f0 / 100)) (kC_ty he) (kC_nm he) hX.2.2.2.2.2.1 (kC_get he)
  obtain ⟨cf, kf, fi, f, hi, hsl⟩ := hSl _ hk
  have hst := (u_facts hfc hkc (u_lays hX.2.2.2.2.1 (kC_in he) hk) hi).1
  have hlay := hX.2.2.2.2.1 _ (kC_in he _ (u_in_lay hk))
  unfold u_lay at hlay
  have fin : ∀ H' : Heap, H'[jA D a]? = some (cell.setSlot f.slot (jV D v)) → H'.size = H.size → (∀ q, q ≠ jA D a → H'[q]? = H[q]?) → W p l e R s m args below meth c H' (locs ++ [⟨jA D a, f.slot⟩]) (jx h - x0) (ju h - u0) Q (F0 m (pc + 3) ls (r.map (jV D))) := fun H' e1 e2 e3 => by
    rw [hsl] at e1
    have hM' := hM.putf he ht hk hap o (hv D) a1 e1 e2 e3
    have g := hK _ _ _ _ hS H' ls (locs ++ [⟨jA D a, f.slot⟩]) hM' hL hs hl (fun q hq2 => by
      rcases List.mem_append.mp hq2 with q1 | q1
      · exact hq q q1
      · rw [List.mem_singleton] at q1
        subst q1
        show D.2.2.2.2 ≤ jA D a
        rw [jA_new n1]; omega) (by rw [o.2.1]; exact hx0) (by rw [o.2.2.1]; exact hu0)
    rw [o.2.1, o.2.2.1] at g
    exact g
  rw [List.map_cons, List.map_cons, hM.ref ha]
  cases hfc0 : ((kC (f0 / 100)).2.1 (f0 % 100)).2.2.2 with
  | false =>
    rw [if_neg (by rw [hfc0]; decide)] at hlay
    have h6 := u_store hfc hkc hkind hlay hi (kC_ty he _ hk) hn hf
    exact W.putK hX.1 hX.2.1 (f := f) ⟨hX.2.2.2.1, hX.2.2.2.2.1 _ hw, ⟨_, _, _, hi⟩, hst⟩ (by rw [a2]; exact h6) a1 a3 (by rw [hsl]; exact k2_hasslot (a5 _ hk)) rfl rfl hd fin
  | true =>
    rw [if_pos hfc0] at hlay
    obtain ⟨k2, hdecl⟩ := hfin hfc0
    have hcf : m.cls = cf := by
      obtain ⟨_, _, c', _, _, _, -, -, hf', -, -, -, hown2, -⟩ := Cond.laysFinal_spec hlay
      have e1 : c' = cf := by have := hi.symm.trans hf'; simp at this; exact this.1.symm
      rw [hdecl] at hown2
      rw [← e1]; exact Option.some.inj (hX.2.2.2.1.symm.trans hown2)
    have h6 := u_fits hfc hkc hkind (Or.inr hlay) hi (kC_ty he _ hk) hn hf
    exact W.putFinK hX.1 hX.2.1 hX.2.2.2.1 (hX.2.2.2.2.1 _ hw) hi hst hcf (hX.2.2.2.2.2.2.2.2.1 k2) (by rw [a2]; exact h6) a1 a3 (by rw [hsl]; exact k2_hasslot (a5 _ hk)) rfl rfl hd fin
end ST2
