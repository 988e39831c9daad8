/-! THE REFERENCE: a rule is told, without fault -/
def cnR (c : Dc) (t : Nat) : Nat := if t = 3 then (dR c).length + 1 else cnt c t
abbrev ZU (r A : Nat) (a k : Nat) : Prop := (a = 141 ∧ ((2 ≤ k ∧ k ≤ 6) ∨ k = 20 ∨ k = 30 ∨ k = 33 ∨ k = 38 ∨ (47 ≤ k ∧ k ≤ 52))) ∨ (a = 153 ∧ k = r) ∨ (a = 154 ∧ 2 * r ≤ k) ∨ (a = 155 ∧ k = r) ∨ (a = 156 ∧ 3 * r ≤ k) ∨ (a = 157 ∧ k = r) ∨ a = 158 ∨ a = 159 ∨ (160 ≤ a ∧ a ≤ 163 ∧ A ≤ k) ∨ (164 ≤ a ∧ a ≤ 171)
abbrev ZY (r : Nat) (a k : Nat) : Prop := (a = 154 ∧ 2 * r ≤ k) ∨ (a = 155 ∧ k = r) ∨ (a = 156 ∧ 3 * r ≤ k) ∨ (a = 157 ∧ k = r)
def RuS (p : Lpar) (T : Txt) (e : Nat) (c : Dc) (G : NmL) (sl : List Int) (A0 : Nat) (h0 : AH) (i A : Nat) (h : AH) : Prop := RT p T e h ∧ SxM h G (cnR c) sl ∧ RTb h c ∧ RtR T e i h ∧ ji h 141 33 = (A : Int) ∧ Fq (ZU (dR c).length A0) h0 h
abbrev ruC (c : Dc) (nm : List Int) (o : Int × Int) (rel : Int) (a b : Ex) : Dc := (dN c ++ [(nm, 3, ((dR c).length : Int))], dS c, dT c, dV c, dX c, dB c, dR c ++ [o], dL c ++ [(rel, a, b)], c.2.2.2.2.2.2.2.2)
def pR5 (T : Txt) (c : Dc) (nm : List Int) (o : Int × Int) (rel : Int) (a b : Ex) (i : Nat) : Er (Dc × Nat) := xb (pTake T 159 i) fun j => .ok (ruC c nm o rel a b, j)
def pR4 (T : Txt) (c : Dc) (nm : List Int) (G : NmL) (sl : List Int) (rel : Int) (a : Ex) (i : Nat) : Er (Dc × Nat) := xb (pSum T (dC c) 8 G sl i) fun b => pR5 T c nm (sl.getD 0 (-1), sl.getD 1 (-1)) rel a b.1 b.2
def pR3 (T : Txt) (c : Dc) (nm : List Int) (G : NmL) (sl : List Int) (a : Ex) (i : Nat) : Er (Dc × Nat) := xb (pRel T i) fun r => pR4 T c nm G sl r.1 a r.2
def pR2 (T : Txt) (c : Dc) (nm : List Int) (G : NmL) (sl : List Int) (i : Nat) : Er (Dc × Nat) := xb (pSum T (dC c) 8 G sl i) fun a => pR3 T c nm G sl a.1 a.2
def pR1 (T : Txt) (c : Dc) (nm : List Int) (G : NmL) (sl : List Int) (i : Nat) : Er (Dc × Nat) := xb (pTake T 158 i) fun j => pR2 T c nm G sl j
theorem pRule_eq (T : Txt) (c : Dc) (i : Nat) : pRule T c i = xb (pName T (dN c) (dR c).length 10 i) fun q => xb (pFor T (dN c ++ [(q.1, 3, ((dR c).length : Int))]) q.2) fun n => pR1 T c q.1 n.1 n.2.1 n.2.2 := rfl
section RRV
variable {p : Lpar} {d : Nat} {h h' h0 h1 g : AH} {T : Txt} {e i j k A A0 A1 A2 : Nat} {c : Dc} {G : NmL} {sl : List Int} {v1 v3 : Int} {z3 z4 : AV} {nm : List Int} {o : Int × Int} {rel : Int} {a b : Ex}
def QR (p : Lpar) (T : Txt) (e : Nat) (h0 : AH) (R : Er (Dc × Nat)) (w : Option AV) (h' : AH) : Prop := w = none ∧ RdP p T e h0 R h'
theorem hf_bad {R : Er (Dc × Nat)} {q : Nat} (hR : R = .error q) (F : Fq ZP h0 h) (h6 : ji h 141 6 = (q : Int)) : HF p (QR p T e h0 R) h := fun _ L' F' e6 => ⟨rfl, rd_bad hR L' (F.trans F') (e6.trans h6)⟩
theorem uP {r : Nat} (F : Fq (ZU r A0) h0 h) : Fq ZP h0 h := F.mono (fun a k z => by omega)
theorem RuS.y (S : RuS p T e c G sl A0 h0 i A h) (F : Fq (ZY (dR c).length) h g) : RuS p T e c G sl A0 h0 i A g := ⟨S.1.fq F (fun a k z => by omega) (by omega) (fun k => by omega), S.2.1.fq F (fun k z => by omega) (fun a k z => by omega), S.2.2.1.cg (fun a k z => F.i (by omega)), S.2.2.2.1.fq F (fun k _ _ => by omega), (F.i (by omega)).trans S.2.2.2.2.1, S.2.2.2.2.2.trans (F.mono (fun a k z => by omega))⟩
theorem RuS.l (S : RuS p T e c G sl A0 h0 i A h) (F : Fq ZL h g) (K : RtR T e j g) : RuS p T e c G sl A0 h0 j A g := ⟨S.1.fF F.toF, S.2.1.fF F.toF, S.2.2.1.cg (fun a k z => F.i (by omega)), K, (F.i (by omega)).trans S.2.2.2.2.1, S.2.2.2.2.2.trans (F.mono (fun a k z => by omega))⟩
/-- what must hold of the names -/
def NmF (c : Dc) (nm : List Int) (G : NmL) : Prop := (∀ e ∈ dN c ++ [(nm, 3, ((dR c).length : Int))], e ∈ G) ∧ okM (dN c ++ [(nm, 3, ((dR c).length : Int))]) (n4 (cnR c) 0)
theorem ru_nm (N : NmF c nm G) (M : SxM h G (cnR c) sl) : NmM (wi h 141 30 0) (dN c ++ [(nm, 3, ((dR c).length : Int))]) (cnt (ruC c nm o rel a b)) := by
  have e4 : n4 (cnR c) 0 = cnt (ruC c nm o rel a b) := by
    funext t
    unfold n4 cnR cnt
    by_cases z3 : t = 3
    · subst z3; show _ = (dR c ++ [o]).length; rw [List.length_append]; rfl
    · rw [if_neg z3, if_neg z3]
      by_cases z4 : t = 4
      · subst z4; rfl
      · rw [if_neg z4, if_neg z3]
  obtain ⟨⟨⟨m1, m2, m3, m4, m5⟩, ne, _⟩, _⟩ := M
  rw [← e4]
  have s : ∀ a k, ¬ (a = 141 ∧ k = 30) → ji (wi h 141 30 0) a k = ji h a k := fun a k z => by rw [ji_wi, if_neg z]
  refine ⟨⟨(s _ _ (by omega)).trans m1, (s _ _ (by omega)).trans m2, (s _ _ (by omega)).trans m3, (s _ _ (by omega)).trans m4, by rw [ji_wi, if_pos ⟨rfl, rfl⟩]; rfl⟩, fun e he => ?_, N.2⟩
  have := nmA_r e.2.1
  rw [s _ _ (by omega)]
  exact ne e (N.1 e he)
theorem ru_end (Rr : RRl h0 c A0) (N : NmF c nm G) (S : RuS p T e c G sl A0 h0 i A2 h) (hL : (dL c).length = (dR c).length) (w1 : ji h 154 (2 * (dR c).length) = o.1) (w2 : ji h 154 (2 * (dR c).length + 1) = o.2) (w3 : ji h 155 (dR c).length = rel) (w4 : jl h 157 (dR c).length = wke (dS c) a + wke (dS c) b) (w5 : ji h 156 (3 * (dR c).length) = (A0 : Int)) (w6 : ji h 156 (3 * (dR c).length + 1) = (A1 : Int)) (w7 : ji h 156 (3 * (dR c).length + 2) = (A2 : Int)) (x1 : cR h a A0 A1) (x2 : cR h b A1 A2) (hA : A2 ≤ 4 * i) : RDc (wi h 141 30 0) (ruC c nm o rel a b) i := by
  have s : ∀ a k, ¬ (a = 141 ∧ k = 30) → ji (wi h 141 30 0) a k = ji h a k := fun a k z => by rw [ji_wi, if_neg z]
  have sl : ∀ a k, jl (wi h 141 30 0) a k = jl h a k := fun a k => jl_wi _ _ _ _ _ _
  have N' := ru_nm (o := o) (rel := rel) (a := a) (b := b) N S.2.1
  generalize wi h 141 30 0 = g at *
  obtain ⟨s1, s2, s3, s4, s5, F⟩ := S
  have l1 := cR_lt x1
  have l2 := cR_lt x2
  obtain ⟨r1, r2, r3, r4⟩ := Rr
  have f : ∀ a k, ¬ ZU (dR c).length A0 a k → ji g a k = ji h0 a k := fun a k z => (s a k (by omega)).trans (F.i z)
  have fl : ∀ a k, ¬ ZU (dR c).length A0 a k → jl g a k = jl h0 a k := fun a k z => (sl a k).trans (F.l z)
  refine ⟨N', RTb.cg (c := c) s3 (fun a k z => s a k (by omega)), A2, (s _ _ (by omega)).trans s5, hA, fun k hk => ?_, fun k hk => ?_, (f _ _ (by omega)).trans r3, fun z => ?_⟩
  · have hk : k < (dR c ++ [o]).length := hk
    rw [List.length_append] at hk
    have hk : k < (dR c).length + 1 := hk
    show ji g 154 (2 * k) = ((dR c ++ [o]).getD k (-1, -1)).1 ∧ ji g 154 (2 * k + 1) = ((dR c ++ [o]).getD k (-1, -1)).2
    rw [getD_snoc]
    by_cases ck : k < (dR c).length
    · rw [if_pos ck, f _ _ (by omega), f _ _ (by omega)]; exact r1 k ck
    · rw [if_neg ck, if_pos (by omega), show k = (dR c).length by omega, s _ _ (by omega), s _ _ (by omega)]; exact ⟨w1, w2⟩
  · have hk : k < (dL c ++ [(rel, a, b)]).length := hk
    rw [List.length_append] at hk
    have hk : k < (dL c).length + 1 := hk
    show ji g 155 k = ((dL c ++ [(rel, a, b)]).getD k zL).1 ∧ jl g 157 k = wke (dS c) ((dL c ++ [(rel, a, b)]).getD k zL).2.1 + wke (dS c) ((dL c ++ [(rel, a, b)]).getD k zL).2.2 ∧ ∃ a' b' d' : Nat, d' ≤ A2 ∧ ji g 156 (3 * k) = (a' : Int) ∧ ji g 156 (3 * k + 1) = (b' : Int) ∧ ji g 156 (3 * k + 2) = (d' : Int) ∧ cR g ((dL c ++ [(rel, a, b)]).getD k zL).2.1 a' b' ∧ cR g ((dL c ++ [(rel, a, b)]).getD k zL).2.2 b' d'
    rw [getD_snoc]
    by_cases ck : k < (dL c).length
    · rw [if_pos ck]
      obtain ⟨q1, q2, a', b', d', q3, q4, q5, q6, q7, q8⟩ := r2 k ck
      have t1 := cR_lt q7
      have t2 := cR_lt q8
      exact ⟨(f _ _ (by omega)).trans q1, (fl _ _ (by omega)).trans q2, a', b', d', by omega, (f _ _ (by omega)).trans q4, (f _ _ (by omega)).trans q5, (f _ _ (by omega)).trans q6, cR_mono q7 (fun x y z1 z2 z3 z4 => f x y (by omega)), cR_mono q8 (fun x y z1 z2 z3 z4 => f x y (by omega))⟩
    · rw [if_neg ck, if_pos (by omega), show k = (dR c).length by omega]
      exact ⟨(s _ _ (by omega)).trans w3, (sl _ _).trans w4, A0, A1, A2, Nat.le_refl _, (s _ _ (by omega)).trans w5, (s _ _ (by omega)).trans w6, (s _ _ (by omega)).trans w7, cR_mono x1 (fun x y z1 z2 z3 z4 => s x y (by omega)), cR_mono x2 (fun x y z1 z2 z3 z4 => s x y (by omega))⟩
  · obtain ⟨q1, a', b', q2, q3, q4, q5⟩ := r4 z
    exact ⟨(fl _ _ (by omega)).trans q1, a', b', by omega, (f _ _ (by omega)).trans q3, (f _ _ (by omega)).trans q4, cR_mono q5 (fun x y z1 z2 z3 z4 => f x y (by omega))⟩
end RRV
