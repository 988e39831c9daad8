/-! THE CLASS: its state, read -/
/-- a model that may be kept -/
def okMd (c : Dc) : Prop := okD c ∧ (dV c).length ≤ 400 ∧ tot (dS c) (dX c) ≤ 40 ∧ tot (dS c) (dR c) ≤ 40 ∧ 0 ≤ dWk c ∧ dWk c ≤ 20000
def Cst (p : Lpar) (T : Txt) (c : Dc) (pt : Nat → Int) (h : AH) : Prop := Ly p h ∧ (okT T ∧ TxC T h) ∧ (pM p = pD p ∧ ¬ pD p = pS p) ∧ NmR h (pD p) (dN c) ∧ DecB (pD p) c h ∧ jl h (pD p) 14 = dWk c ∧ okMd c ∧ MdR h c ∧ PtR h (tot (dS c) (dX c)).toNat pt
def tooL (c : Dc) : Prop := 40 < tot (dS c) (dX c) ∨ 40 < tot (dS c) (dR c) ∨ 20000 < dWk c
abbrev Zcl (a : Nat) : Prop := a = 32 ∨ a = 33 ∨ (37 ≤ a ∧ a ≤ 140)
abbrev pSw (p : Lpar) : Lpar := (p.1, pM p, pS p, pD p, p.2.2.2.2)
section CST
variable {p p' : Lpar} {d : Nat} {h h' h0 h1 h2 g : AH} {c : Dc} {T T' : Txt} {e a1 : Nat} {pt : Nat → Int} {Z : Nat → Prop}
theorem ly_sw (L : Ly p h) : Ly (pSw p) (wr (wr h 32 5 (pS p)) 32 6 (pD p)) := by
  obtain ⟨l1, l2, l3, l4, ⟨m1, m2, m3, m4⟩, ⟨l6, l7, l8, l9⟩, l10⟩ := L
  have rj : ∀ b k, ¬ (b = 32 ∧ (k = 5 ∨ k = 6)) → jr (wr (wr h 32 5 (pS p)) 32 6 (pD p)) b k = jr h b k := fun b k z => by rw [jr_wr, if_neg (by omega), jr_wr, if_neg (by omega)]
  refine ⟨l1, fun e he => ?_, fun k hk => ?_, l4, ⟨m1, m2, m4, m3⟩, ⟨?_, ?_, ?_, ?_⟩, fun b hb => ?_⟩
  · rw [rj _ _ (by have : ∀ e ∈ refL, ¬ (e.1 = 32 ∧ (e.2.1 = 5 ∨ e.2.1 = 6)) := by decide +kernel
                   exact this e he)]
    exact l2 e he
  · rw [rj _ _ (by omega)]; exact l3 k hk
  · rw [rj _ _ (by omega)]; exact l6
  · rw [rj _ _ (by omega)]; exact l7
  · rw [jr_wr, if_neg (by omega), jr_wr, if_pos ⟨rfl, rfl⟩]
  · rw [jr_wr, if_pos ⟨rfl, rfl⟩]
  · obtain ⟨q1, q2, q3⟩ := l10 b hb
    exact ⟨q1, q2, fun k => ⟨(q3 k).1, by rw [rj _ _ (by omega)]; exact (q3 k).2⟩⟩
theorem KB.of (L : Ly p h) {D : Nat} (hD : isD D) (f : Fm Z h h') (hz : ∀ a, Z a → ¬ (D ≤ a ∧ a ≤ D + 25) ∧ a < NF) : KB D h h' := by
  have hD' := hD
  unfold isD at hD'
  have hx := L.nx
  have hN : NF = 197 := rfl
  have nz : ∀ a, ((D ≤ a ∧ a ≤ D + 25) ∨ NF ≤ a) → ¬ Z a := fun a q z => by have := hz a z; omega
  exact ⟨fun a k z1 z2 z3 => ⟨f.ji (by omega) (nz a (by omega)) k, f.jr (by omega) (nz a (by omega)) k⟩, fun a z1 z2 => ⟨(f.2.1 a z2).1, fun k => f.ji z2 (nz a (by omega)) k, fun k => f.jr z2 (nz a (by omega)) k⟩, f.2.2.1⟩
theorem MdR.fm (M : MdR h c) (L : Ly p h) (t40 : tot (dS c) (dR c) ≤ 40) (f : Fm Z h h') (hz : ∀ a, Z a → ¬ (95 ≤ a ∧ a ≤ 139)) : MdR h' c := by
  have hx := L.nx
  have hN : NF = 197 := rfl
  have s : ∀ a k, 95 ≤ a → a ≤ 139 → jl h' a k = jl h a k := fun a k z1 z2 => f.jl (by omega) (fun z => hz a z ⟨z1, z2⟩) k
  refine ⟨fun row hr => ⟨fun j hj => ?_, ?_⟩, fun z => ⟨fun j hj => ?_, ?_⟩⟩
  · rw [s _ _ (by omega) (by omega)]; exact (M.1 row hr).1 j hj
  · rw [s _ _ (by omega) (by omega)]; exact (M.1 row hr).2
  · rw [s _ _ (by omega) (by omega)]; exact (M.2 z).1 j hj
  · rw [s _ _ (by omega) (by omega)]; exact (M.2 z).2
theorem Cst.mv (S : Cst p T c pt h) (L' : Ly p' h') (e1 : pM p' = pD p' ∧ ¬ pD p' = pS p') (eD : pD p' = pD p) (hT : okT T' ∧ TxC T' h') (f : Fm Z h h') (hz : ∀ a, Z a → ¬ (pD p ≤ a ∧ a ≤ pD p + 25) ∧ ¬ (95 ≤ a ∧ a ≤ 139) ∧ a < NF) : Cst p' T' c pt h' := by
  obtain ⟨L, _, _, N, B, W, O, M, P⟩ := S
  have hD := L.iD
  have hD' := hD
  unfold isD at hD'
  have hx := L.nx
  have hN : NF = 197 := rfl
  have nz : ∀ a, ((pD p ≤ a ∧ a ≤ pD p + 25) ∨ (95 ≤ a ∧ a ≤ 139)) → ¬ Z a := fun a q z => by have := hz a z; omega
  refine ⟨L', hT, e1, ?_, ?_, ?_, O, M.fm L O.2.2.2.1 f (fun a z => (hz a z).2.1), fun col hc => ?_⟩
  · rw [eD]; exact N.cg (fun a k z1 z2 => f.ji (by omega) (nz a (by omega)) k)
  · rw [eD]; exact B.kb (KB.of L hD f (fun a z => ⟨(hz a z).1, (hz a z).2.2⟩))
  · rw [eD, f.jl (by omega) (nz _ (by omega))]; exact W
  · rw [f.ji (by omega) (nz 139 (by omega))]; exact P col hc
theorem Fw.fmc (F : Fw ZMd h h') : Fm Zcl h h' := ⟨fun a _ z k => ⟨(F.1 a k (by omega)).1, (F.1 a k (by omega)).2, F.2.1 a k (by omega)⟩, fun a _ => F.2.2.1 a, Nat.le_of_eq F.2.2.2.1.symm, by rw [F.2.2.2.1, F.2.2.2.2]; exact Nat.le_refl _⟩
def RdQ (p : Lpar) (T : Txt) (c : Dc) (pt : Nat → Int) (h : AH) (v : Int) (h' : AH) : Prop := Fm Zcl h h' ∧ jx h' ≤ jx h + 802 ∧ ∃ p' : Lpar, p'.2.2.2.2 = p.2.2.2.2 ∧ Rs (pText T 400 D0 0) (fun q => v = -10 - (q : Int) ∧ Cst p' (0, T.2) c pt h') (fun c' => (tooL c' ∧ v = -100004 ∧ Cst p' (0, T.2) c pt h') ∨ (¬ tooL c' ∧ okMd c' ∧ v = tot (dS c') (dR c') ∧ Cst p' (0, T.2) c' (lowP c') h'))
theorem okT0 (T : Txt) : okT (0, T.2) := ⟨Nat.zero_le _, fun k hk => absurd hk (Nat.not_lt_zero k)⟩
theorem txC0 (e : ji h 33 1 = 0) : TxC (0, T.2) h := ⟨e, fun k hk => absurd hk (Nat.not_lt_zero k)⟩
end CST
