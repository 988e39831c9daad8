set_option maxRecDepth 100000 in
theorem lkF_ck : ckAll lkF ckF = true := by decide +kernel
set_option maxRecDepth 100000 in
theorem lkM_ck : ckAll lkM ckM = true := by decide +kernel
set_option maxRecDepth 100000 in
theorem lkN_ck : ckAll lkN ckN = true := by decide +kernel
set_option maxRecDepth 100000 in
theorem lkC_ck : ckAll lkC ckC = true := by decide +kernel
set_option maxRecDepth 100000 in
theorem lkI_ck : ckAll lkI ckI = true := by decide +kernel
set_option maxRecDepth 100000 in
theorem lkL_ck : ckAll lkL ckL = true := by decide +kernel
set_option maxRecDepth 100000 in
theorem lkS_ck : ckAll lkS ckS = true := by decide +kernel
set_option maxRecDepth 100000 in
theorem lkG_ck : ckAll lkG ckG = true := by decide +kernel
/-! the methods' words -/
def ckY (y : Nat) : Bool :=
  (at_ (mpL.getD y (0, 0, 0, 0)).2.2.1 (.initialized (mT y).1.cls) && (decide ((mT y).1.cls ≠ "java/lang/invoke/MethodHandle" ∧ (mT y).1.cls ≠ "java/lang/invoke/VarHandle") &&
  (Nat.ble (mT y).2.2.1 90 && (decide ((mT y).1.cls = oR (mT y).2.2.2.2.1) && plainName (mT y).1.cls))))
def ckK (y : Nat) : Bool :=
  bif Nat.beq (mT y).2.2.2.2.2.2 1 then at_ (mpL.getD y (0, 0, 0, 0)).2.1 (.static (mT y).1) && decide ((parseMethodDescriptor (mT y).1.desc).map (fun d => d.parameters.length) = some (mT y).2.2.2.2.2.1)
  else bif Nat.beq (mT y).2.2.2.2.2.2 0 then at_ (mpL.getD y (0, 0, 0, 0)).2.1 (.instanceMethod (mT y).1) && (at_ (mpL.getD y (0, 0, 0, 0)).2.2.2 (.selects (mT y).1.cls (mT y).1 (mT y).1) && (decide ((parseMethodDescriptor (mT y).1.desc).map (fun d => d.parameters.length + 1) = some (mT y).2.2.2.2.2.1) && Nat.ble (mT y).2.2.2.2.1 12))
  else at_ (mpL.getD y (0, 0, 0, 0)).2.1 (.instanceMethod (mT y).1) && (decide ((mT y).1.name = "<init>") && (decide ((mT y).2.2.2.1 = none) && decide ((parseMethodDescriptor (mT y).1.desc).map (fun d => d.parameters.length + 1) = some (mT y).2.2.2.2.2.1)))
set_option maxRecDepth 100000 in
theorem ckY_all : (List.range 202).all ckY = true := by decide +kernel
set_option maxRecDepth 100000 in
theorem ckK_all : (List.range 202).all ckK = true := by decide +kernel
theorem mOK_of {y : Nat} (h : y < 202) : mOK y := by
  have q := List.all_eq_true.mp ckY_all y (List.mem_range.mpr h)
  unfold ckY at q
  simp only [Bool.and_eq_true, decide_eq_true_eq] at q
  exact ⟨gw_of (cw_all h) rfl, gw_of (at_in q.1) rfl, q.2.1, Nat.le_of_ble_eq_true q.2.2.1, q.2.2.2.1, q.2.2.2.2⟩
theorem mSt_of {y : Nat} (h : y < 202) (hk : (mT y).2.2.2.2.2.2 = 1) : mSt y := by
  have q := List.all_eq_true.mp ckK_all y (List.mem_range.mpr h)
  unfold ckK at q
  rw [hk] at q
  simp only [Nat.beq, cond_true, Bool.and_eq_true, decide_eq_true_eq] at q
  exact ⟨mOK_of h, gw_of (at_in q.1) rfl, q.2⟩
theorem mVi_of {y : Nat} (h : y < 202) (hk : (mT y).2.2.2.2.2.2 = 0) : mVi y := by
  have q := List.all_eq_true.mp ckK_all y (List.mem_range.mpr h)
  unfold ckK at q
  rw [hk] at q
  simp only [Nat.beq, cond_true, cond_false, Bool.and_eq_true, decide_eq_true_eq] at q
  exact ⟨mOK_of h, gw_of (at_in q.1) rfl, gw_of (at_in q.2.1) rfl, q.2.2.1, Nat.le_of_ble_eq_true q.2.2.2⟩
theorem mSp_of {y : Nat} (h : y < 202) (hk : (mT y).2.2.2.2.2.2 = 2) : mSp y := by
  have q := List.all_eq_true.mp ckK_all y (List.mem_range.mpr h)
  unfold ckK at q
  rw [hk] at q
  simp only [Nat.beq, cond_true, cond_false, Bool.and_eq_true, decide_eq_true_eq] at q
  exact ⟨mOK_of h, gw_of (at_in q.1) rfl, q.2.1, q.2.2.1, q.2.2.2⟩
