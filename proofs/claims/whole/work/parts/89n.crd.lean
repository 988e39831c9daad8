/-! THE CLASS: read -/
section CRD
variable {p p' : Lpar} {d : Nat} {h h' h0 h1 h2 g : AH} {c c' : Dc} {T T' : Txt} {e a1 : Nat} {pt : Nat → Int} {Z : Nat → Prop} {Q : Option AV → AH → Prop}
/-- the new model takes the old one's place -/
theorem rd_59 (hd : 47 ≤ d) (L : Ly p h) (hT : pT p = pS p) (hne : ¬ pD p = pS p) (N : NmR h (pS p) (dN c)) (B : DecB (pS p) c h) (W : jl h (pS p) 14 = dWk c) (O : okMd c) (X0 : ji h 33 1 = 0) (K : ∀ h', Fm Zcl h h' → jx h' = jx h → Cst (pMo (pSw p) (pS p)) (0, T.2) c (lowP c) h' → Q (some (jI (tot (dS c) (dR c)))) h') : WF d 83 59 [jP 32, jP (pD p)] [] h Q := by
  have hD := L.iS
  have hD' := hD
  have hD2 := L.iD
  unfold isD at hD' hD2
  have hN : NF = 197 := rfl
  have hx := L.nx
  have r6 : jr h 32 6 = pS p := L.r32_6
  have L2 := ly_sw L
  refine b_83_59 ⟨L.t32, L.t32, ?_⟩
  rw [r6]
  refine b_83_67 ⟨L.t32, ?_⟩
  have F2 : Fm (fun a => a = 32) h (wr (wr h 32 5 (pS p)) 32 6 (pD p)) := (Fm.wr (Z := fun a => a = 32) rfl).trans (Fm.wr (Z := fun a => a = 32) rfl)
  have x2 : jx (wr (wr h 32 5 (pS p)) 32 6 (pD p)) = jx h := rfl
  generalize wr (wr h 32 5 (pS p)) 32 6 (pD p) = g at L2 F2 x2 ⊢
  have B2 : DecB (pS p) c g := B.kb (KB.of L hD F2 (fun a z => by omega))
  have r4 : jr g 32 4 = 95 := L2.r32_4
  have r5 : jr g 32 5 = pS p := L2.r32_5
  obtain ⟨h3, hE, M3, F3, R3, P3⟩ := m_13 (d := d) (a1 := pS p) (by omega) L2 hD B2 O.1 O.2.1 O.2.2.1 O.2.2.2.1
  refine b_83_72 ⟨L2.t32, L2.t32, by rw [r4]; exact L2.t95, h3, by rw [r4, r5]; exact hE, ?_⟩
  have L3 : Ly (pMo (pSw p) (pS p)) h3 := M3.1
  have F4 : Fm Zcl h h3 := ((F2.mono (fun a _ z => Or.inl z)).trans (Fm.wr (by omega))).trans F3.fmc
  have i3 : ∀ a k, ¬ (95 ≤ a ∧ a ≤ 140) → ji h3 a k = ji g a k := fun a k z => (F3.1 a k (by omega)).1
  have l3 : ∀ a k, ¬ (95 ≤ a ∧ a ≤ 140) → jl h3 a k = jl g a k := fun a k z => (F3.1 a k (by omega)).2
  have xx : jx h3 = jx h := (F3.2.2.2.1).trans x2
  have B3 : DecB (pS p) c h3 := M3.2.1
  have t5 : ji h3 (pS p + 22) 5 = tot (dS c) (dR c) := B3.2.2.2.1.2.1
  have r5' : jr h3 32 5 = pS p := L3.r32_5
  have r22 : jr h3 (pS p) 4 = pS p + 22 := L3.dr0_4 hD
  refine b_83_83 ⟨L3.t32, ?_⟩
  rw [r5', r22, t5]
  refine ⟨L3.dt0 hD, L3.dt22 hD, K h3 F4 xx ⟨L3, ⟨okT0 T, txC0 ?_⟩, ⟨rfl, fun z => hne z.symm⟩, N.cg (fun a k z1 z2 => ?_), B3, ?_, O, R3, P3⟩⟩
  · rw [i3 _ _ (by omega), F2.ji (by omega) (by omega)]; exact X0
  · have z1 : pS p + 1 ≤ a := z1
    have z2 : a ≤ pS p + 4 := z2
    rw [i3 _ _ (by omega), F2.ji (by omega) (by omega)]
  · show jl h3 (pS p) 14 = dWk c
    rw [l3 _ _ (by omega), F2.jl (by omega) (by omega)]; exact W
theorem m_83 (hd : 48 ≤ d) (S : Cst p T c pt h) : ∃ v h', jE d 83 [jP 32] h (some (jI v)) h' ∧ RdQ p T c pt h v h' := by
  suffices hh : ∃ w h', jE d 83 [jP 32] h w h' ∧ ∃ v, w = some (jI v) ∧ RdQ p T c pt h v h' by
    obtain ⟨w, h', hE, v, rfl, q⟩ := hh
    exact ⟨v, h', hE, q⟩
  obtain ⟨d, rfl⟩ : ∃ d', d = d' + 1 := ⟨d - 1, by omega⟩
  have S0 := S
  obtain ⟨L, ⟨hT, X⟩, ⟨e1, e2⟩, _⟩ := S0
  obtain ⟨e, he, he4⟩ := stop_ex T
  have he4 : e ≤ 400 := Nat.le_trans he4 hT.1
  have hN : NF = 197 := rfl
  have hx := L.nx
  have hS := L.iS
  have hS' := hS
  have hD' := L.iD
  unfold isD at hS' hD'
  obtain ⟨h1, hE1, L1, X1, F1, K1⟩ := m_65 (d := d) (by omega) L hT X he he4
  have L2 : Ly p (wi h1 33 1 0) := L1.wi (by omega)
  have F2 : Fm (fun a => a = 33 ∨ (37 ≤ a ∧ a ≤ 40)) h (wi h1 33 1 0) := (F1.1.mono (fun a _ z => Or.inr z)).trans (Fm.wi (Or.inl rfl))
  have K2 : TokR T e 0 (wi h1 33 1 0) := K1.cg (fun b k z1 z2 => by rw [ji_wi, if_neg (by omega)])
  have t2 : ji (wi h1 33 1 0) 33 1 = 0 := by rw [ji_wi, if_pos ⟨rfl, rfl⟩]
  have x2 : jx (wi h1 33 1 0) = jx h := F1.2
  refine jE_of (as := [jP 32]) (Nat.le_of_ble_eq_true rfl) (c_83_0 (by omega) L ⟨h1, hE1, L1, c_83_11 (by omega) L1 (fun _ => ?_)⟩)
  generalize wi h1 33 1 0 = g at L2 F2 K2 t2 x2 ⊢
  obtain ⟨u, h3, hE3, v, rfl, L3, D3, x3, R3⟩ := r_32 (d := d) (a1 := pS p) (by omega) (tkG_all T) L2 K2 hS rfl
  have D3 : Fm (ZD (pS p)) g h3 := D3
  have F3 : Fm (fun a => a = 33 ∨ a = 93 ∨ a = 94 ∨ (37 ≤ a ∧ a ≤ 40) ∨ (pS p ≤ a ∧ a ≤ pS p + 25)) h h3 := (F2.mono (fun a _ z => by omega)).trans (D3.mono (fun a _ z => by omega))
  have F4 : Fm Zcl h h3 := F3.mono (fun a _ z => by omega)
  have t3 : ji h3 33 1 = 0 := (D3.ji (by omega) (by omega) 1).trans t2
  have C3 : Cst (pTo p (pS p)) (0, T.2) c pt h3 := Cst.mv S L3 ⟨e1, e2⟩ rfl ⟨okT0 T, txC0 t3⟩ F3 (fun a z => by omega)
  have r3 : jr g 32 3 = 93 := L2.r32_3
  have r6 : jr g 32 6 = pS p := L2.r32_6
  refine b_83_19 ⟨L2.t32, L2.t32, by rw [r3]; exact L2.t93, v, h3, by rw [r3, r6]; exact hE3, fun z => ?_, fun z => ?_⟩
  · cases hR : pText T 400 D0 0 with
    | error q => rw [hR] at R3; exact absurd R3.1 z
    | ok c' =>
      rw [hR] at R3
      obtain ⟨_, O, i', _, K', N', B', W', wr, _, v'⟩ := R3
      have r63 : jr h3 32 6 = pS p := L3.r32_6
      have tX : ji h3 (pS p + 18) 5 = tot (dS c') (dX c') := B'.2.2.1.2.1
      have tR' : ji h3 (pS p + 22) 5 = tot (dS c') (dR c') := B'.2.2.2.1.2.1
      have W' : jl h3 (pS p) 14 = dWk c' := W'
      have E10 := m_10 (d := d) (D := pS p) (by omega) L3 hS
      rw [tX, tR', W'] at E10
      rw [r63]
      refine ⟨L3.t32, L3.dt0 hS, _, h3, E10, fun y => ⟨L3.t32, ?_⟩, fun y => ?_⟩
      · have nt : ¬ tooL c' := fun q => by
          have q : 40 < tot (dS c') (dX c') ∨ 40 < tot (dS c') (dR c') ∨ 20000 < dWk c' := q
          rw [if_pos q] at y; exact absurd y (by decide)
        have r53 : jr h3 32 5 = pD p := L3.r32_5
        rw [r53]
        have hM : okMd c' := ⟨O, by have := K'.2.2.2.1; omega, by unfold tooL at nt; omega, by unfold tooL at nt; omega, wr.1, by unfold tooL at nt; omega⟩
        refine rd_59 (p := pTo p (pS p)) (T := T) (by omega) L3 rfl e2 N' B' W' hM t3 (fun h' F' x' C' => ?_)
        refine ⟨_, rfl, F4.trans F', by omega, pMo (pSw (pTo p (pS p))) (pS p), rfl, ?_⟩
        rw [hR]
        exact Or.inr ⟨nt, hM, rfl, C'⟩
      · have t : tooL c' := by
          by_cases q : 40 < tot (dS c') (dX c') ∨ 40 < tot (dS c') (dR c') ∨ 20000 < dWk c'
          · exact q
          · rw [if_neg q] at y; exact absurd rfl y
        refine ⟨_, rfl, F4, by omega, pTo p (pS p), rfl, ?_⟩
        rw [hR]
        exact Or.inl ⟨t, rfl, C3⟩
  · have r23 : jr h3 32 2 = 37 := L3.r32_2
    rw [r23]
    refine ⟨L3.t32, L3.t37, ?_⟩
    refine ⟨_, rfl, F4, by omega, pTo p (pS p), rfl, ?_⟩
    cases hR : pText T 400 D0 0 with
    | error q => rw [hR] at R3; exact ⟨R3.2, C3⟩
    | ok c' => rw [hR] at R3; exact absurd (R3.1.symm.trans (Classical.not_not.mp z)) (by decide)
end CRD
