/-! ONE STEP, WHATEVER THE INSTRUCTION -/
theorem lkF_e {o ix : Nat} {q : Nat × Nat} (h : lk3 (lkF.getD o []) ix = some q) : (q.1 = 1200 ∧ Cond.fieldLink (oR o) ix "java/lang/String" "value" "[B" ∈ gw) ∨ (q.1 = 1201 ∧ Cond.fieldLink (oR o) ix "java/lang/String" "coder" "B" ∈ gw) ∨
    (q.1 / 100 < 12 ∧ q.1 % 100 < (kC (q.1 / 100)).2.2 ∧ Cond.fieldLink (oR o) ix ((kC (q.1 / 100)).2.1 (q.1 % 100)).1 ((kC (q.1 / 100)).2.1 (q.1 % 100)).2.1 ((kC (q.1 / 100)).2.1 (q.1 % 100)).2.2.1 ∈ gw) := by
  have hc := ckAll_e lkF_ck (lk3_in h)
  unfold ckF at hc
  cases h1 : Nat.beq q.1 1200 with
  | true =>
    simp only [h1, cond_true] at hc
    exact Or.inl ⟨Nat.eq_of_beq_eq_true h1, gw_of (at_in hc) rfl⟩
  | false =>
    cases h2 : Nat.beq q.1 1201 with
    | true =>
      simp only [h1, h2, cond_true, cond_false] at hc
      exact Or.inr (Or.inl ⟨Nat.eq_of_beq_eq_true h2, gw_of (at_in hc) rfl⟩)
    | false =>
      simp only [h1, h2, cond_false, Bool.and_eq_true] at hc
      exact Or.inr (Or.inr ⟨Nat.le_of_ble_eq_true hc.1, Nat.le_of_ble_eq_true hc.2.1, gw_of (at_in hc.2.2) rfl⟩)
theorem lkM_e {o ix : Nat} {q : Nat × Nat} (h : lk3 (lkM.getD o []) ix = some q) : (q.1 = 900 ∧ Cond.methodLink (oR o) ix Lib.objectInit ∈ gw) ∨ (q.1 = 901 ∧ Cond.methodLink (oR o) ix Lib.Math.max.name ∈ gw) ∨ (q.1 = 902 ∧ Cond.methodLink (oR o) ix Lib.Math.min.name ∈ gw) ∨ (q.1 = 903 ∧ Cond.methodLink (oR o) ix Lib.MathLoose.min_long.x ∈ gw) ∨ ((q.1 ≠ 900 ∧ q.1 ≠ 901 ∧ q.1 ≠ 902 ∧ q.1 ≠ 903) ∧ Cond.methodLink (oR o) ix (mT q.1).1 ∈ gw) := by
  have hc := ckAll_e lkM_ck (lk3_in h)
  unfold ckM at hc
  dsimp only at hc
  have nb : ∀ {a b : Nat}, Nat.beq a b = false → a ≠ b := fun h e => by rw [e, Nat.beq_refl] at h; cases h
  cases h0 : Nat.beq q.1 900 with
  | true => rw [h0] at hc; exact Or.inl ⟨Nat.eq_of_beq_eq_true h0, gw_of (at_in hc) rfl⟩
  | false =>
    rw [h0] at hc
    cases h1 : Nat.beq q.1 901 with
    | true => rw [h1] at hc; exact Or.inr (Or.inl ⟨Nat.eq_of_beq_eq_true h1, gw_of (at_in hc) rfl⟩)
    | false =>
      rw [h1] at hc
      cases h2 : Nat.beq q.1 902 with
      | true => rw [h2] at hc; exact Or.inr (Or.inr (Or.inl ⟨Nat.eq_of_beq_eq_true h2, gw_of (at_in hc) rfl⟩))
      | false =>
        rw [h2] at hc
        cases h3 : Nat.beq q.1 903 with
        | true => rw [h3] at hc; exact Or.inr (Or.inr (Or.inr (Or.inl ⟨Nat.eq_of_beq_eq_true h3, gw_of (at_in hc) rfl⟩)))
        | false => rw [h3] at hc; exact Or.inr (Or.inr (Or.inr (Or.inr ⟨⟨nb h0, nb h1, nb h2, nb h3⟩, gw_of (at_in hc) rfl⟩)))
section ST5
variable {D : jD} {p : Program} {l : Launch} {e : Env} {R : Room} {s : State} {m : MethodId} {args : Array Value} {below : List Frame} {meth : Method} {c : Code} {Q : State → Prop} {x0 u0 y d : Nat}
variable {cl : Nat → List AV → AH → Option AV → AH → Prop} {K : Nat → List AV → List AV → AH → Prop} {Rt : Option AV → AH → Prop} {pc len : Nat} {loc stk : List AV} {h : AH}
set_option maxHeartbeats 4000000 in
theorem step_ok (hX : jX D p s m args meth c y) (hN : loc.length = (mT y).2.2.1) (hcl : ∀ z, z < 202 → ∀ as h v h', cl z as h v h' → jMt D l d z as h v h') (hR : d + 1 ≤ R.frames ∧ 120 * d + 120 ≤ R.locals) (hKm : ∀ pc loc stk h, K pc loc stk h → jx h - x0 ≤ R.cells ∧ ju h - u0 ≤ R.slots)
    (hK : ∀ pc loc stk h, K pc loc stk h → jG D p l e R s m args below meth c Q x0 u0 pc loc stk h) {raw : Instr} (hd : decode (mT y).2.1 pc = .ok (raw, len)) (hl : len = rln raw len) (hr : rawOK y pc raw = true) (hS : jS cl (trn (mT y).2.2.2.2.1 pc raw) pc len loc stk h K Rt)
    (hE : (raw = .ireturn ∨ raw = .lreturn ∨ raw = .areturn ∨ raw = .return_) → len = 1 → decode (mT y).2.1 pc = .ok (raw, 1) → jS cl raw pc 1 loc stk h K Rt → jG D p l e R s m args below meth c Q x0 u0 pc loc stk h) : jG D p l e R s m args below meth c Q x0 u0 pc loc stk h := by
  cases raw with
  | iadd =>
    have hl : len = 1 := hl
    subst hl
    exact st_iadd hX hd hS hK
  | isub =>
    have hl : len = 1 := hl
    subst hl
    exact st_isub hX hd hS hK
  | imul =>
    have hl : len = 1 := hl
    subst hl
    exact st_imul hX hd hS hK
  | idiv =>
    have hl : len = 1 := hl
    subst hl
    exact st_idiv hX hd hS hK
  | irem =>
    have hl : len = 1 := hl
    subst hl
    exact st_irem hX hd hS hK
  | ineg =>
    have hl : len = 1 := hl
    subst hl
    exact st_ineg hX hd hS hK
  | iand =>
    have hl : len = 1 := hl
    subst hl
    exact st_iand hX hd hS hK
  | ior =>
    have hl : len = 1 := hl
    subst hl
    exact st_ior hX hd hS hK
  | ixor =>
    have hl : len = 1 := hl
    subst hl
    exact st_ixor hX hd hS hK
  | ishl =>
    have hl : len = 1 := hl
    subst hl
    exact st_ishl hX hd hS hK
  | ishr =>
    have hl : len = 1 := hl
    subst hl
    exact st_ishr hX hd hS hK
  | iushr =>
    have hl : len = 1 := hl
    subst hl
    exact st_iushr hX hd hS hK
  | ladd =>
    have hl : len = 1 := hl
    subst hl
    exact st_ladd hX hd hS hK
  | lsub =>
    have hl : len = 1 := hl
    subst hl
    exact st_lsub hX hd hS hK
  | lmul =>
    have hl : len = 1 := hl
    subst hl
    exact st_lmul hX hd hS hK
  | ldiv =>
    have hl : len = 1 := hl
    subst hl
    exact st_ldiv hX hd hS hK
  | lrem =>
    have hl : len = 1 := hl
    subst hl
    exact st_lrem hX hd hS hK
  | lneg =>
    have hl : len = 1 := hl
    subst hl
    exact st_lneg hX hd hS hK
  | land =>
    have hl : len = 1 := hl
    subst hl
    exact st_land hX hd hS hK
  | lor =>
    have hl : len = 1 := hl
    subst hl
    exact st_lor hX hd hS hK
  | lshl =>
    have hl : len = 1 := hl
    subst hl
    exact st_lshl hX hd hS hK
  | lshr =>
    have hl : len = 1 := hl
    subst hl
    exact st_lshr hX hd hS hK
  | lushr =>
    have hl : len = 1 := hl
    subst hl
    exact st_lushr hX hd hS hK
  | i2l =>
    have hl : len = 1 := hl
    subst hl
    exact st_i2l hX hd hS hK
  | l2i =>
    have hl : len = 1 := hl
    subst hl
    exact st_l2i hX hd hS hK
  | i2b =>
    have hl : len = 1 := hl
    subst hl
    exact st_i2b hX hd hS hK
  | i2c =>
    have hl : len = 1 := hl
    subst hl
    exact st_i2c hX hd hS hK
  | lcmp =>
    have hl : len = 1 := hl
    subst hl
    exact st_lcmp hX hd hS hK
  | dup =>
    have hl : len = 1 := hl
    subst hl
    exact st_dup hX hd hS hK
  | pop =>
    have hl : len = 1 := hl
    subst hl
    exact st_pop hX hd hS hK
  | dup2 =>
    have hl : len = 1 := hl
    subst hl
    exact st_dup2 hX hd hS hK
  | iaload =>
    have hl : len = 1 := hl
    subst hl
    exact st_iaload hX hd hS hK
  | laload =>
    have hl : len = 1 := hl
    subst hl
    exact st_laload hX hd hS hK
  | baload =>
    have hl : len = 1 := hl
    subst hl
    exact st_baload hX hd hS hK
  | aaload =>
    have hl : len = 1 := hl
    subst hl
    exact st_aaload hX hd hS hK
  | iastore =>
    have hl : len = 1 := hl
    subst hl
    exact st_iastore hX hd hS hK
  | lastore =>
    have hl : len = 1 := hl
    subst hl
    exact st_lastore hX hd hS hK
  | bastore =>
    have hl : len = 1 := hl
    subst hl
    exact st_bastore hX hd hS hK
  | aastore =>
    have hl : len = 1 := hl
    subst hl
    exact st_aastore hX hd hS hK
  | arraylength =>
    have hl : len = 1 := hl
    subst hl
    exact st_alen hX hd hS hK
  | iconst v =>
    have hl : len = 1 := hl
    subst hl
    exact st_iconst hX hd hS hK
  | bipush v =>
    have hl : len = 2 := hl
    subst hl
    exact st_bipush hX (of_decide_eq_true hr) hd hS hK
  | sipush v =>
    have hl : len = 3 := hl
    subst hl
    exact st_sipush hX (of_decide_eq_true hr) hd hS hK
  | lconst n =>
    have hl : len = 1 := hl
    subst hl
    exact st_lconst hX hd hS hK
  | aconst_null =>
    have hl : len = 1 := hl
    subst hl
    exact st_null hX hd hS hK
  | iload_n n =>
    have hl : len = 1 := hl
    subst hl
    exact st_iload_n hX hd hS hK
  | iload i =>
    have hl : len = 2 := hl
    subst hl
    exact st_iload hX hd hS hK
  | istore_n n =>
    have hl : len = 1 := hl
    subst hl
    exact st_istore_n hX hd hS hK
  | istore i =>
    have hl : len = 2 := hl
    subst hl
    exact st_istore hX hd hS hK
  | lload_n n =>
    have hl : len = 1 := hl
    subst hl
    exact st_lload_n hX hd hS hK
  | lload i =>
    have hl : len = 2 := hl
    subst hl
    exact st_lload hX hd hS hK
  | lstore_n n =>
    have hl : len = 1 := hl
    subst hl
    exact st_lstore_n hX hd hS hK
  | lstore i =>
    have hl : len = 2 := hl
    subst hl
    exact st_lstore hX hd hS hK
  | aload_n n =>
    have hl : len = 1 := hl
    subst hl
    exact st_aload_n hX hd hS hK
  | aload i =>
    have hl : len = 2 := hl
    subst hl
    exact st_aload hX hd hS hK
  | astore_n n =>
    have hl : len = 1 := hl
    subst hl
    exact st_astore_n hX hd hS hK
  | astore i =>
    have hl : len = 2 := hl
    subst hl
    exact st_astore hX hd hS hK
  | iinc i n =>
    have hl : len = 3 := hl
    subst hl
    exact st_iinc hX hd hS hK
  | ldc ix =>
    have hl : len = 2 := hl
    subst hl
    cases h1 : lk3 (lkI.getD (mT y).2.2.2.2.1 []) ix with
    | some q =>
      simp only [trn, h1] at hS
      exact st_ldc hX (gw_of (at_in (ckAll_e lkI_ck (lk3_in h1))) rfl) hd hS hK
    | none =>
      cases h2 : lk3 (lkS.getD (mT y).2.2.2.2.1 []) ix with
      | some q =>
        simp only [trn, h1, h2] at hS
        have hc := ckAll_e lkS_ck (lk3_in h2)
        unfold ckS at hc
        rw [Bool.and_eq_true] at hc
        obtain ⟨r, hr1, hr2⟩ := List.any_eq_true.mp hc.2
        rw [Bool.and_eq_true, Bool.and_eq_true, decide_eq_true_eq] at hr2
        obtain ⟨r1, r2, r3, r4⟩ := r
        have e1 : r1 = oR (mT y).2.2.2.2.1 := hr2.1
        have e2 : r2 = ix := Nat.eq_of_beq_eq_true hr2.2.1
        have e3 : r4 = q.1 := Nat.eq_of_beq_eq_true hr2.2.2
        subst e1 e2 e3
        exact st_ldcS hX (Nat.le_of_ble_eq_true hc.1) ⟨r3, hr1⟩ hd hS hK
      | none => simp only [trn, h1, h2] at hS; exact hS.elim
  | ldc_w ix =>
    have hl : len = 3 := hl
    subst hl
    cases h1 : lk3 (lkI.getD (mT y).2.2.2.2.1 []) ix with
    | some q =>
      simp only [trn, h1] at hS
      exact st_ldcw hX (gw_of (at_in (ckAll_e lkI_ck (lk3_in h1))) rfl) hd hS hK
    | none => simp only [trn, h1] at hS; exact hS.elim
  | ldc2_w ix =>
    have hl : len = 3 := hl
    subst hl
    cases h1 : lk3 (lkL.getD (mT y).2.2.2.2.1 []) ix with
    | some q =>
      simp only [trn, h1] at hS
      exact st_ldc2 hX (gw_of (at_in (ckAll_e lkL_ck (lk3_in h1))) rfl) hd hS hK
    | none => simp only [trn, h1] at hS; exact hS.elim
  | ifCond c1 t =>
    have hl : len = 3 := hl
    subst hl
    have ht := of_decide_eq_true hr
    cases c1
    · exact st_if_eq hX ht hd hS hK
    · exact st_if_ne hX ht hd hS hK
    · exact st_if_lt hX ht hd hS hK
    · exact st_if_ge hX ht hd hS hK
    · exact st_if_gt hX ht hd hS hK
    · exact st_if_le hX ht hd hS hK
  | if_icmp c1 t =>
    have hl : len = 3 := hl
    subst hl
    have ht := of_decide_eq_true hr
    cases c1
    · exact st_icmp_eq hX ht hd hS hK
    · exact st_icmp_ne hX ht hd hS hK
    · exact st_icmp_lt hX ht hd hS hK
    · exact st_icmp_ge hX ht hd hS hK
    · exact st_icmp_gt hX ht hd hS hK
    · exact st_icmp_le hX ht hd hS hK
  | ifnull t =>
    have hl : len = 3 := hl
    subst hl
    exact st_ifnull hX (of_decide_eq_true hr) hd hS hK
  | ifnonnull t =>
    have hl : len = 3 := hl
    subst hl
    exact st_ifnonnull hX (of_decide_eq_true hr) hd hS hK
  | goto t =>
    have hl : len = 3 := hl
    subst hl
    exact st_goto hX (of_decide_eq_true hr) hd hS hK
  | tableswitch d1 lo hi ts =>
    simp only [rawOK, Bool.and_eq_true, decide_eq_true_eq, List.all_eq_true] at hr
    exact st_table hX hr hd hS hK
  | lookupswitch d1 ps =>
    unfold rawOK at hr
    rw [Bool.and_eq_true, Bool.and_eq_true] at hr
    refine st_look hX ⟨of_decide_eq_true hr.1, fun q hq => of_decide_eq_true (List.all_eq_true.mp hr.2.1 q hq)⟩ hr.2.2 hd hS hK
  | getfield ix =>
    have hl : len = 3 := hl
    subst hl
    cases h1 : lk3 (lkF.getD (mT y).2.2.2.2.1 []) ix with
    | some q =>
      simp only [trn, h1] at hS
      rcases lkF_e h1 with ⟨e1, hw⟩ | ⟨e1, hw⟩ | ⟨e1, e2, hw⟩
      · rw [e1] at hS; exact st_getS0 hX hw hd hS hK
      · rw [e1] at hS; exact st_getS1 hX hw hd hS hK
      · exact st_getf hX e1 e2 hw hd hS hK
    | none => simp only [trn, h1] at hS; exact hS.elim
  | putfield ix =>
    have hl : len = 3 := hl
    subst hl
    cases h1 : lk3 (lkF.getD (mT y).2.2.2.2.1 []) ix with
    | some q =>
      simp only [trn, h1] at hS
      simp only [rawOK, h1] at hr
      have hlt : q.1 / 100 < 12 := by
        have hS : jpf (kTy (q.1 / 100) (q.1 % 100)) stk h (q.1 % 100) (fun a r h' => jt h a = tg (q.1 / 100) ∧ q.1 / 100 < 12 ∧ K (pc + 3) loc r h') := hS
        obtain ⟨_, _, _, _, -, z, -⟩ := jpf_e hS
        exact z.2.1
      rcases lkF_e h1 with ⟨e1, hw⟩ | ⟨e1, hw⟩ | ⟨e1, e2, hw⟩
      · omega
      · omega
      · refine st_putf hX e1 e2 hw (fun hf => ?_) hd hS hK
        rw [hf] at hr
        simp only [Bool.not_true, Bool.false_or, Bool.and_eq_true, decide_eq_true_eq] at hr
        exact ⟨Nat.eq_of_beq_eq_true hr.1, hr.2⟩
    | none => simp only [trn, h1] at hS; exact hS.elim
  | getstatic ix =>
    have hl : len = 3 := hl
    subst hl
    cases h1 : lk3 (lkG.getD (mT y).2.2.2.2.1 []) ix with
    | some q =>
      simp only [trn, h1] at hS
      simp only [rawOK, h1] at hr
      have hc := ckAll_e lkG_ck (lk3_in h1)
      unfold ckG at hc
      dsimp only at hc
      cases h2 : Nat.beq q.1 0 with
      | true =>
        simp only [h2, cond_true] at hc hS
        exact st_gs0 hX (gw_of (at_in hc) rfl) hd hS hK
      | false =>
        cases h3 : Nat.beq q.1 1 with
        | true =>
          simp only [h2, h3, cond_true, cond_false] at hc hS
          exact st_gs1 hX (gw_of (at_in hc) rfl) hd hS hK
        | false =>
          simp only [h2, h3, cond_false, Bool.and_eq_true] at hc hS
          have e2 : ix = 66 := Nat.eq_of_beq_eq_true hc.2
          subst e2
          exact st_gs2 hX (by rw [Nat.eq_of_beq_eq_true hc.1]; rfl) hd hS hK
    | none => simp only [trn, h1] at hS; exact hS.elim
  | invokevirtual ix =>
    have hl : len = 3 := hl
    subst hl
    cases h1 : lk3 (lkM.getD (mT y).2.2.2.2.1 []) ix with
    | some q =>
      simp only [trn, h1] at hS
      simp only [rawOK, h1, Bool.and_eq_true] at hr
      have hk := Nat.eq_of_beq_eq_true hr.1
      have hlt : q.1 < 202 := Nat.le_of_ble_eq_true hr.2
      rcases lkM_e h1 with ⟨e1, hw⟩ | ⟨e1, hw⟩ | ⟨e1, hw⟩ | ⟨e1, hw⟩ | ⟨-, hw⟩
      · omega
      · omega
      · omega
      · omega
      · exact st_virt hX (mVi_of hlt hk) hw (hcl _ hlt) hN hR hKm hd hS hK
    | none => simp only [trn, h1] at hS; exact hS.elim
  | invokestatic ix =>
    have hl : len = 3 := hl
    subst hl
    cases h1 : lk3 (lkM.getD (mT y).2.2.2.2.1 []) ix with
    | some q =>
      simp only [trn, h1] at hS
      simp only [rawOK, h1, Bool.and_eq_true, Bool.or_eq_true] at hr
      have bf : ∀ {a b : Nat}, a ≠ b → Nat.beq a b = false := fun h => Bool.eq_false_iff.mpr fun q => h (Nat.eq_of_beq_eq_true q)
      rcases lkM_e h1 with ⟨e1, hw⟩ | ⟨e1, hw⟩ | ⟨e1, hw⟩ | ⟨e1, hw⟩ | ⟨⟨n0, n1, n2, n3⟩, hw⟩
      · rw [e1] at hr
        exact absurd hr (by decide +kernel)
      · rw [e1] at hS; exact st_max hX hw hN ⟨by omega, by omega⟩ hKm hd hS hK
      · rw [e1] at hS; exact st_min hX hw hN ⟨by omega, by omega⟩ hKm hd hS hK
      · rw [e1] at hS; exact st_minL hX hw hN ⟨by omega, by omega⟩ hKm hd hS hK
      · simp only [bf n1, bf n2, bf n3, cond_false] at hS
        rcases hr with hr | hr
        · rw [bf n1, bf n2, bf n3] at hr
          simp at hr
        · exact st_static hX (mSt_of (Nat.le_of_ble_eq_true hr.2) (Nat.eq_of_beq_eq_true hr.1)) hw (hcl _ (Nat.le_of_ble_eq_true hr.2)) hN hR hKm hd hS hK
    | none => simp only [trn, h1] at hS; exact hS.elim
  | invokespecial ix =>
    have hl : len = 3 := hl
    subst hl
    have bf : ∀ {a b : Nat}, a ≠ b → Nat.beq a b = false := fun h => Bool.eq_false_iff.mpr fun q => h (Nat.eq_of_beq_eq_true q)
    cases h1 : lk3 (lkM.getD (mT y).2.2.2.2.1 []) ix with
    | some q =>
      simp only [trn, h1] at hS
      simp only [rawOK, h1, Bool.and_eq_true, Bool.or_eq_true] at hr
      rcases lkM_e h1 with ⟨e1, hw⟩ | ⟨e1, hw⟩ | ⟨e1, hw⟩ | ⟨e1, hw⟩ | ⟨⟨n0, n1, n2, n3⟩, hw⟩
      · rw [e1] at hS; exact st_objI hX hw hN ⟨by omega, by omega⟩ hd hS hK
      · rw [e1] at hr
        exact absurd hr (by decide +kernel)
      · rw [e1] at hr
        exact absurd hr (by decide +kernel)
      · rw [e1] at hr
        exact absurd hr (by decide +kernel)
      · simp only [bf n0, cond_false] at hS
        rcases hr with hr | hr
        · exact absurd (Nat.eq_of_beq_eq_true hr) n0
        · have hlt : q.1 < 202 := Nat.le_of_ble_eq_true hr.2
          exact st_spec hX (mSp_of hlt (Nat.eq_of_beq_eq_true hr.1)) (Or.inl hw) (hcl _ hlt) hN hR hKm hd (Nat.mod_eq_of_lt (by omega)) hS hK
    | none =>
      cases h2 : lk3 (lkN.getD (mT y).2.2.2.2.1 []) ix with
      | some q =>
        simp only [trn, h1, h2] at hS
        simp only [rawOK, h1, h2, Bool.and_eq_true] at hr
        have hlt : q.1 < 202 := Nat.le_of_ble_eq_true hr.2
        refine st_spec hX (mSp_of hlt (Nat.eq_of_beq_eq_true hr.1)) (Or.inr ?_) (hcl _ hlt) hN hR hKm hd (by omega) hS hK
        have hc := ckAll_e lkN_ck (lk3_in h2)
        unfold ckN at hc
        simp only [Bool.and_eq_true, Bool.or_eq_true, decide_eq_true_eq] at hc
        rw [Nat.eq_of_beq_eq_true hc.1]
        rcases hc.2 with ⟨c1, c2⟩ | ⟨c1, c2⟩
        · rw [Nat.eq_of_beq_eq_true c1, c2]
          exact hX.2.2.2.2.2.2.2.2.2.2.1
        · rw [Nat.eq_of_beq_eq_true c1, c2]
          exact hX.2.2.2.2.2.2.2.2.2.2.2.1
      | none => simp only [trn, h1, h2] at hS; exact hS.elim
  | new ix =>
    have hl : len = 3 := hl
    subst hl
    cases h1 : lk3 (lkC.getD (mT y).2.2.2.2.1 []) ix with
    | some q =>
      simp only [trn, h1] at hS
      simp only [rawOK, h1] at hr
      have hlt : q.1 < 12 := Nat.le_of_ble_eq_true hr
      have hc := ckAll_e lkC_ck (lk3_in h1)
      unfold ckC at hc
      rw [Bool.or_eq_true] at hc
      rcases hc with hc | hc
      · have := Nat.eq_of_beq_eq_true hc
        dsimp only at this
        omega
      · exact st_new hX (gw_of (at_in hc) rfl) hKm hd hS hK
    | none => simp only [trn, h1] at hS; exact hS.elim
  | newarray t =>
    have hl : len = 2 := hl
    subst hl
    exact st_newa hX hKm hd hS hK
  | anewarray ix =>
    have hl : len = 3 := hl
    subst hl
    simp only [rawOK, Bool.and_eq_true] at hr
    have e2 : ix = 38 := Nat.eq_of_beq_eq_true hr.2
    subst e2
    exact st_anew hX (by rw [Nat.eq_of_beq_eq_true hr.1]; exact gw_of (by decide +kernel) rfl) hKm hd hS hK
  | multianewarray ix dm =>
    have hl : len = 4 := hl
    subst hl
    simp only [rawOK, Bool.and_eq_true] at hr
    have e2 : ix = 9 := Nat.eq_of_beq_eq_true hr.2.1
    have e3 : dm = 2 := Nat.eq_of_beq_eq_true hr.2.2
    subst e2 e3
    exact st_multi hX (Nat.eq_of_beq_eq_true hr.1) hKm hd hS hK
  | ireturn =>
    have hl : len = 1 := hl
    subst hl
    exact hE (Or.inl rfl) rfl hd hS
  | lreturn =>
    have hl : len = 1 := hl
    subst hl
    exact hE (Or.inr (Or.inl rfl)) rfl hd hS
  | areturn =>
    have hl : len = 1 := hl
    subst hl
    exact hE (Or.inr (Or.inr (Or.inl rfl))) rfl hd hS
  | return_ =>
    have hl : len = 1 := hl
    subst hl
    exact hE (Or.inr (Or.inr (Or.inr rfl))) rfl hd hS
  | _ => exact hS.elim
end ST5
