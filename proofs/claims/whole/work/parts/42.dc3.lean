-- needs: 20.num 21.lay 22.spec 23.va 24.leaf 25.tbls 26.thg 27.tok 29.fr 30.tree 28.vb1 28.vb2 28.vb3 31.ctx 32.rd1 33.rd2 34.lvl 35.loop 36.inn 37.fac 38.eok 39.dok 40.dcl 41.dc2
/-! THE READER: data and vars -/
def KA (A : Nat → Prop) (D : Nat) (h h' : AH) : Prop := (∀ a k, D ≤ a → a ≤ D + 25 → ¬ A a → ji h' a k = ji h a k ∧ jr h' a k = jr h a k) ∧ (∀ a, NF ≤ a → a < jx h → jt h' a = jt h a ∧ (∀ k, ji h' a k = ji h a k) ∧ (∀ k, jr h' a k = jr h a k)) ∧ jx h ≤ jx h'
section DC3
variable {p : Lpar} {d D : Nat} {h h' h0 h1 h2 : AH} {T : Txt} {e i i0 : Nat} {c : Dc} {S : List (Int × Int)} {Z A : Nat → Prop}
theorem KA.fm (L : Ly p h) (f : Fm Z h h') (hz : ∀ a, Z a → a < NF) : KA Z (pT p) h h' := by
  have hT := L.iT'
  have hx := L.nx
  have hN : NF = 197 := rfl
  exact ⟨fun a k z1 z2 z3 => ⟨f.ji (by omega) z3 k, f.jr (by omega) z3 k⟩, fun a z1 z2 => ⟨(f.2.1 a z2).1, fun k => f.ji z2 (fun q => by have := hz a q; omega) k, fun k => f.jr z2 (fun q => by have := hz a q; omega) k⟩, f.2.2.1⟩
theorem DecB.ka (B : DecB D c h) (f : KA A D h h') : ((∀ a, D + 5 ≤ a → a ≤ D + 7 → ¬ A a) → StR h' D (dS c)) ∧ ((∀ a, D + 14 ≤ a → a ≤ D + 17 → ¬ A a) → ThR h' (D + 14) (dS c) (dT c)) ∧ ((∀ a, D + 18 ≤ a → a ≤ D + 21 → ¬ A a) → ThR h' (D + 18) (dS c) (dX c)) ∧ ((∀ a, D + 22 ≤ a → a ≤ D + 25 → ¬ A a) → ThR h' (D + 22) (dS c) (dR c)) ∧ (¬ A D → ¬ A (D + 8) → (ji h' D 6 = ((dV c).length : Int) ∧ ∀ k, k < (dV c).length → ji h' (D + 8) k = (dV c).getD k 0)) ∧ (¬ A (D + 9) → ¬ A (D + 10) → ∀ k, k < (dB c).length → ji h' (D + 9) k = ((dB c).getD k (0, 0)).1 ∧ ji h' (D + 10) k = ((dB c).getD k (0, 0)).2) ∧ (¬ A (D + 11) → ¬ A (D + 12) → ¬ A (D + 13) → ∀ k, k < (dL c).length → ji h' (D + 11) k = ((dL c).getD k zL).1 ∧ tR h' ((dL c).getD k zL).2.1 3 NF (jx h') (jr h' (D + 12) k) 0 ∧ tR h' ((dL c).getD k zL).2.2 3 NF (jx h') (jr h' (D + 13) k) 0) ∧ (¬ A D → ji h' D 12 = dG c ∧ (dG c = 0 → jr h' D 13 = 0) ∧ (¬ dG c = 0 → tR h' (dE c) 3 NF (jx h') (jr h' D 13) 0)) ∧ (∀ x a, tR h x 3 NF (jx h) a 0 → tR h' x 3 NF (jx h') a 0) := by
  obtain ⟨b1, b2, b3, b4, b5, b6, b7, b8, b9, b10⟩ := B
  obtain ⟨f1, f2, f3⟩ := f
  have fi : ∀ a k, D ≤ a → a ≤ D + 25 → ¬ A a → ji h' a k = ji h a k := fun a k z1 z2 z3 => (f1 a k z1 z2 z3).1
  have fr : ∀ a k, D ≤ a → a ≤ D + 25 → ¬ A a → jr h' a k = jr h a k := fun a k z1 z2 z3 => (f1 a k z1 z2 z3).2
  have ft : ∀ (x : Ex) (a : Nat), tR h x 3 NF (jx h) a 0 → tR h' x 3 NF (jx h') a 0 := fun x a hx => tR_mono hx (Nat.le_refl _) f3 (fun q q1 q2 => f2 q q1 q2)
  refine ⟨fun z => b1.cg (fun a k z1 z2 => fi a k (by omega) (by omega) (z a z1 z2)), fun z => b2.cg (fun a k z1 z2 => fi a k (by omega) (by omega) (z a z1 (by omega))), fun z => b3.cg (fun a k z1 z2 => fi a k (by omega) (by omega) (z a z1 (by omega))), fun z => b4.cg (fun a k z1 z2 => fi a k (by omega) (by omega) (z a z1 (by omega))), fun z1 z2 => ⟨by rw [fi D 6 (by omega) (by omega) z1]; exact b5.1, fun k hk => by rw [fi (D + 8) k (by omega) (by omega) z2]; exact b5.2 k hk⟩, fun z1 z2 k hk => by rw [fi (D + 9) k (by omega) (by omega) z1, fi (D + 10) k (by omega) (by omega) z2]; exact b6 k hk, fun z1 z2 z3 k hk => ?_, fun z => ⟨by rw [fi D 12 (by omega) (by omega) z]; exact b8, fun q => by rw [fr D 13 (by omega) (by omega) z]; exact b9 q, fun q => by rw [fr D 13 (by omega) (by omega) z]; exact ft _ _ (b10 q)⟩, ft⟩
  have z := b7 k hk
  rw [fi (D + 11) k (by omega) (by omega) z1, fr (D + 12) k (by omega) (by omega) z2, fr (D + 13) k (by omega) (by omega) z3]
  exact ⟨z.1, ft _ _ z.2.1, ft _ _ z.2.2⟩
/-- the state within a table's values -/
def TbI (p : Lpar) (T : Txt) (e i0 : Nat) (h0 : AH) (c : Dc) (N : NmL) (a b : Int) (i : Nat) (h : AH) (V : List Int) : Prop := Ly p h ∧ TokR T e i h ∧ NmR h (pT p) N ∧ DecB (pT p) (dN c, dS c, dT c, V, c.2.2.2.2) h ∧ jl h (pT p) 14 = dWk c ∧ ji h 93 6 = 0 ∧ ji h 93 3 = a ∧ ji h 93 4 = b ∧ DT p h0 h ∧ jx h = jx h0 ∧ V.length ≤ i ∧ i0 ≤ i
theorem tb_run (hd : 11 ≤ d) (O : okD c) (hl : (dT c).length < 6) (hw : 0 ≤ dWk c ∧ dWk c ≤ 1000000000 * (i0 : Int)) {N : NmL} {a b P : Int} (hP : P ≤ 64) : ∀ (m i : Nat) (h : AH) (V : List Int), (m : Int) ≤ P → TbI p T e i0 h0 c N a b i h V → WF d 35 73 [jP 93, jI P, jI (P - (m : Int))] [] h (TxP p T e i0 h0 (xb (pVals T m V i) fun l => xb (pTake T 159 l.2) fun j => .ok ((N, dS c, dT c ++ [(a, b)], l.1, c.2.2.2.2), j))) := by
  intro m
  induction m with
  | zero =>
    intro i h V hm J
    obtain ⟨L, K, N1, B, W, A6, A3, A4, Dt, hx0, hV, hi⟩ := J
    have hT := L.iT'
    have hx := L.nx
    have hN : NF = 197 := rfl
    refine c_35_73 (by omega) L K ⟨fun _ => ?_, fun z => by omega⟩
    rw [A3, A4]
    obtain ⟨h3, hE, L3, f3, t3⟩ := m_59 (d := d) (by omega) L L.iT ⟨L.iT, Or.inl ⟨rfl, rfl⟩⟩ B.1 O.1.2.1 B.2.1 O.1.2.2.1 hl (a := a) (b := b)
    have j3 : ∀ x k, x < NF → ¬ (pT p + 14 ≤ x ∧ x ≤ pT p + 14 + 3) → ji h3 x k = ji h x k := fun x k z1 z2 => f3.1.ji (by omega) z2 k
    have K3 : TokR T e i h3 := K.cg (fun x k z1 z2 => j3 x k (by omega) (by omega))
    refine ⟨h3, hE, L3, i, K3, fun c1 L4 K4 => ?_, fun c1 L4 K4 => ?_⟩
    · have Dt4 : DT p h0 (wi h3 37 4 ((i + 1 : Nat) : Int)) := (Dt.trans (DT.fe f3 (fun a z => by omega))).trans DT.w37
      have eR : (xb (pVals T 0 V i) fun l => xb (pTake T 159 l.2) fun j => (.ok ((N, dS c, dT c ++ [(a, b)], l.1, c.2.2.2.2), j) : Er (Dc × Nat))) = .ok ((N, dS c, dT c ++ [(a, b)], V, c.2.2.2.2), i + 1) := by
        show xb (pTake T 159 i) _ = _
        rw [take_y c1]; rfl
      rw [eR]
      have f4 : KA (fun x => x = 37 ∨ (pT p + 14 ≤ x ∧ x ≤ pT p + 17)) (pT p) h (wi h3 37 4 ((i + 1 : Nat) : Int)) := KA.fm L ((f3.1.mono (fun x _ z => Or.inr z)).trans (Fm.wi (Or.inl rfl))) (fun x z => by omega)
      have k := B.ka f4
      refine ⟨1, rfl, L4, Dt4, _, K4, by omega, by show jx h3 ≤ _; rw [f3.2]; omega, rfl, rfl, by show jx h3 ≤ _; rw [f3.2]; omega, L4, K4, ?_, ?_, ?_, ⟨hw.1, by show dWk c ≤ _; omega⟩, ?_, by show V.length ≤ i + 1; omega⟩
      · exact N1.cg (fun x k z1 z2 => by rw [ji_wi, if_neg (by omega), j3 x k (by omega) (by omega)])
      · exact ⟨k.1 (fun x z1 z2 z => by omega), t3.cg (fun x k z1 z2 => by rw [ji_wi, if_neg (by omega)]), k.2.2.1 (fun x z1 z2 z => by omega), k.2.2.2.1 (fun x z1 z2 z => by omega), k.2.2.2.2.1 (fun z => by omega) (fun z => by omega), k.2.2.2.2.2.1 (fun z => by omega) (fun z => by omega), k.2.2.2.2.2.2.1 (fun z => by omega) (fun z => by omega) (fun z => by omega), k.2.2.2.2.2.2.2.1 (fun z => by omega)⟩
      · show jl h3 (pT p) 14 = dWk c
        rw [f3.1.jl (by omega) (by omega) 14]; exact W
      · rw [ji_wi, if_neg (by omega), j3 _ _ (by omega) (by omega)]; exact A6
    · refine tx_bad (q := tkP T i) ?_ L4 K4 ((Dt.trans (DT.fe f3 (fun a z => by omega))).trans DT.w37) hi (by show jx h3 ≤ _; rw [f3.2]; omega) flt_r
      show xb (pTake T 159 i) _ = _
      rw [take_n c1]; rfl
  | succ m ih =>
    intro i h V hm J
    obtain ⟨L, K, N1, B, W, A6, A3, A4, Dt, hx0, hV, hi⟩ := J
    have hT := L.iT'
    have hx := L.nx
    have hN : NF = 197 := rfl
    refine c_35_73 (by omega) L K ⟨fun z => by omega, fun _ => ?_⟩
    obtain ⟨u, h7, hE, v, rfl, L7, f7, k7, l7, i7, K7, hi7, R⟩ := r_42 (d := d) (by omega) L K
    refine ⟨v, h7, hE, L7, i7, K7, ?_⟩
    have eR : (xb (pVals T (m + 1) V i) fun l => xb (pTake T 159 l.2) fun j => (.ok ((N, dS c, dT c ++ [(a, b)], l.1, c.2.2.2.2), j) : Er (Dc × Nat))) = xb (pVal T i) fun q => xb (pVals T m (V ++ [q.1]) q.2) fun l => xb (pTake T 159 l.2) fun j => .ok ((N, dS c, dT c ++ [(a, b)], l.1, c.2.2.2.2), j) := by
      show xb (xb (pVal T i) _) _ = _
      rw [xb_as]
    rw [eR]
    have D7 : DT p h0 h7 := Dt.trans (DT.fe f7 (fun a z => by omega))
    have x7 : jx h7 = jx h0 := f7.2.trans hx0
    cases hB : pVal T i with
    | error q =>
      rw [hB] at R
      exact ⟨fun _ => tx_bad rfl L7 K7 D7 (by omega) (by omega) R.2, fun z => absurd R.1 z⟩
    | ok r =>
      rw [hB] at R
      obtain ⟨r1, r2, r3⟩ := R
      have lt : i < i7 := by
        rw [r2]
        unfold pVal at hB
        split at hB
        · obtain ⟨j, q1, q2⟩ := xb_ok hB
          have := take_ok q1; cases q2; show i < j; omega
        · obtain ⟨j, q1, q2⟩ := xb_ok hB
          have := take_ok q1; cases q2; show i < j; omega
      have B7 : DecB (pT p) (dN c, dS c, dT c, V, c.2.2.2.2) h7 := B.kb (KB.fm L f7.1 (fun a z => by omega))
      have le := K7.2.2.2.1
      have le2 := K7.2.2.1
      have V4 : V.length < 400 := by omega
      obtain ⟨h8, hE8, L8, f8, g8, gl8, g6, gv⟩ := m_8 (d := d) (by omega) L7 L7.iT B7.2.2.2.2.1.1 V4 B7.2.2.2.2.1.2 (x := r.1)
      have x8 : jx h8 = jx h0 := f8.2.trans x7
      have j8 : ∀ x k, x < NF → ¬ (x = pT p ∨ x = pT p + 8) → ji h8 x k = ji h7 x k := fun x k z1 z2 => f8.1.ji (by omega) z2 k
      have K8 : TokR T e i7 h8 := K7.cg (fun x k z1 z2 => j8 x k (by omega) (by omega))
      refine ⟨fun z => by omega, fun _ => ⟨h8, by rw [r3]; exact hE8, L8, i7, K8, ?_⟩⟩
      have f4 : KA (fun x => x = pT p ∨ x = pT p + 8) (pT p) h7 h8 := KA.fm L7 f8.1 (fun x z => by omega)
      have k := B7.ka f4
      have J8 : TbI p T e i0 h0 c N a b i7 h8 (V ++ [r.1]) := by
        refine ⟨L8, K8, ?_, ?_, ?_, ?_, ?_, ?_, D7.trans (DT.fe f8 (fun a z => by omega)), x8, ?_, by omega⟩
        · exact N1.cg (fun x k z1 z2 => by rw [j8 x k (by omega) (by omega), f7.1.ji (by omega) (by omega) k])
        · refine ⟨k.1 (fun x z1 z2 z => by omega), k.2.1 (fun x z1 z2 z => by omega), k.2.2.1 (fun x z1 z2 z => by omega), k.2.2.2.1 (fun x z1 z2 z => by omega), ⟨g6, gv⟩, k.2.2.2.2.2.1 (fun z => by omega) (fun z => by omega), k.2.2.2.2.2.2.1 (fun z => by omega) (fun z => by omega) (fun z => by omega), ?_, fun z => ?_, fun z => ?_⟩
          · rw [g8 12 (by decide)]; exact B7.2.2.2.2.2.2.2.1
          · rw [(gl8 13).2]; exact B7.2.2.2.2.2.2.2.2.1 z
          · rw [(gl8 13).2]; exact k.2.2.2.2.2.2.2.2 _ _ (B7.2.2.2.2.2.2.2.2.2 z)
        · rw [(gl8 14).1, f7.1.jl (by omega) (by omega) 14]; exact W
        · rw [j8 _ _ (by omega) (by omega), k7 6 (by decide)]; exact A6
        · rw [j8 _ _ (by omega) (by omega), k7 3 (by decide)]; exact A3
        · rw [j8 _ _ (by omega) (by omega), k7 4 (by decide)]; exact A4
        · rw [List.length_append]; show V.length + 1 ≤ i7; omega
      have g := ih i7 h8 (V ++ [r.1]) (by omega) J8
      rw [w32_i (by omega) (by omega), show P - ((m + 1 : Nat) : Int) + 1 = P - (m : Int) by omega]
      rw [r2] at g
      exact g
theorem r_35 (hd : 13 ≤ d) (H : TxR p T e i h c) (O : okD c) (g : tkG T) (hk : tkK T i = 11) : ∃ u h', jE d 35 [jP 93] h u h' ∧ TxP p T e i h (pTab T c i) u h' := by
  obtain ⟨d, rfl⟩ : ∃ d', d = d' + 1 := ⟨d - 1, by omega⟩
  obtain ⟨L, K, N, B, W, Wb, A, V⟩ := H
  have hT := L.iT'
  have hx := L.nx
  have hN : NF = 197 := rfl
  have cn := O.cnt
  have gl : (dN c).length ≤ 28 + 0 := O.1.2.2.2.2.2.2.2.2.1
  refine jE_of (as := [jP 93]) (Nat.le_of_ble_eq_true rfl) (c_35_0 (by omega) L K ?_)
  rw [B.2.1.1]
  obtain ⟨v, h1, hE, L1, f1, i1, K1, hi1, R⟩ := r_33 (d := d) (by omega) L K N O.1.1 (by omega) (ns hk (by decide)) (s := 1) (n := (dT c).length) (m := 6)
  refine ⟨v, h1, hE, L1, i1, K1, ?_⟩
  have D1 : DT p h h1 := DT.fe f1 (fun a z => by omega)
  have B1 : DecB (pT p) c h1 := B.kb (KB.fm L f1.1 (fun a z => by omega))
  have x1 := f1.2
  have eP : pTab T c i = xb (pName T (dN c) (dT c).length 6 i) fun q => xb (pOf T (dN c ++ [(q.1, 1, ((dT c).length : Int))]) q.2) fun o => xb (pTake T 161 o.2.2) fun j => xb (pVals T (szO (dS c) o.1 * szO (dS c) o.2.1).toNat (dV c) j) fun l => xb (pTake T 159 l.2) fun j => .ok ((dN c ++ [(q.1, 1, ((dT c).length : Int))], dS c, dT c ++ [(o.1, o.2.1)], l.1, c.2.2.2.2), j) := rfl
  cases hB : pName T (dN c) (dT c).length 6 i with
  | error q =>
    rw [hB] at R eP
    exact ⟨fun _ => tx_bad eP L1 K1 D1 hi1 (by omega) R.2, fun z => absurd R.1 z⟩
  | ok r =>
    have z1 := pName_ok g hB
    rw [hB] at R eP
    obtain ⟨r1, r2, N1⟩ := R
    refine ⟨fun z => by omega, fun _ => ?_⟩
    obtain ⟨u, h7, hE7, v7, rfl, L7, f7, k7, i7, K7, hi7, R⟩ := r_40 (d := d) (by omega) L1 K1 N1 (O.nmG z1.1 z1.2.1 (by decide) (by decide) (by omega))
    refine ⟨v7, h7, hE7, L7, i7, K7, ?_⟩
    have D7 : DT p h h7 := D1.trans (DT.fe f7 (fun a z => by omega))
    have B7 : DecB (pT p) c h7 := B1.kb (KB.fm L1 f7.1 (fun a z => by omega))
    have x7 : jx h7 = jx h := f7.2.trans x1
    have eP : pTab T c i = xb (pOf T (dN c ++ [(r.1, 1, ((dT c).length : Int))]) i1) fun o => xb (pTake T 161 o.2.2) fun j => xb (pVals T (szO (dS c) o.1 * szO (dS c) o.2.1).toNat (dV c) j) fun l => xb (pTake T 159 l.2) fun j => .ok ((dN c ++ [(r.1, 1, ((dT c).length : Int))], dS c, dT c ++ [(o.1, o.2.1)], l.1, c.2.2.2.2), j) := by rw [eP, r2]; rfl
    generalize pOf T (dN c ++ [(r.1, 1, ((dT c).length : Int))]) i1 = Q at R eP
    cases Q with
    | error q => exact ⟨fun _ => tx_bad eP L7 K7 D7 (by omega) (by omega) R.2, fun z => absurd R.1 z⟩
    | ok o =>
      obtain ⟨s1, s2, s3, s4⟩ := R
      refine ⟨fun z => by omega, fun _ => ⟨fun c1 L8 K8 => ?_, fun c1 L8 K8 => ?_⟩⟩
      · have eP : pTab T c i = xb (pVals T (szO (dS c) o.1 * szO (dS c) o.2.1).toNat (dV c) (i7 + 1)) fun l => xb (pTake T 159 l.2) fun j => .ok ((dN c ++ [(r.1, 1, ((dT c).length : Int))], dS c, dT c ++ [(o.1, o.2.1)], l.1, c.2.2.2.2), j) := by
          rw [eP]
          show xb (pTake T 161 o.2.2) _ = _
          rw [← s2, take_y c1]; rfl
        have B8 : DecB (pT p) c (wi h7 37 4 ((i7 + 1 : Nat) : Int)) := B7.kb (KB.w37 L7)
        have a3 : ji (wi h7 37 4 ((i7 + 1 : Nat) : Int)) 93 3 = o.1 := by rw [ji_wi, if_neg (by omega)]; exact s3
        have a4 : ji (wi h7 37 4 ((i7 + 1 : Nat) : Int)) 93 4 = o.2.1 := by rw [ji_wi, if_neg (by omega)]; exact s4
        have m1 := m_53 (d := d) (by omega) L8 L8.iT B8.1 O.1.2.1 (s := o.1)
        have m2 := m_53 (d := d) (by omega) L8 L8.iT B8.1 O.1.2.1 (s := o.2.1)
        rw [s3]
        refine ⟨_, _, m1, L8, _, K8, _, _, by rw [a4]; exact m2, L8, _, K8, ?_⟩
        have sz := sz2_r O.1.2.1 o.1 o.2.1
        have sz1 : 0 ≤ szO (dS c) o.1 * szO (dS c) o.2.1 := sz.1
        have sz2 : szO (dS c) o.1 * szO (dS c) o.2.1 ≤ 64 := sz.2
        rw [w32_i (by omega) (by omega), eP]
        have t := tb_run (p := p) (T := T) (e := e) (i0 := i) (h0 := h) (c := c) (d := d) (N := dN c ++ [(r.1, 1, ((dT c).length : Int))]) (a := o.1) (b := o.2.1) (P := szO (dS c) o.1 * szO (dS c) o.2.1) (by omega) O z1.2.2.1 Wb sz2 (szO (dS c) o.1 * szO (dS c) o.2.1).toNat (i7 + 1) (wi h7 37 4 ((i7 + 1 : Nat) : Int)) (dV c) (by omega) ⟨L8, K8, ?_, B8, ?_, ?_, a3, a4, D7.trans DT.w37, x7, by omega, by omega⟩
        · rw [show szO (dS c) o.1 * szO (dS c) o.2.1 - ((szO (dS c) o.1 * szO (dS c) o.2.1).toNat : Int) = 0 by omega] at t
          exact t
        · exact N1.cg (fun x k z1 z2 => by rw [ji_wi, if_neg (by omega), f7.1.ji (by omega) (by omega) k])
        · show jl h7 (pT p) 14 = dWk c
          rw [f7.1.jl (by omega) (by omega) 14, f1.1.jl (by omega) (by omega) 14]; exact W
        · rw [ji_wi, if_neg (by omega), k7 6 (by decide) (by decide), f1.1.ji (by omega) (by omega) 6]; exact A
      · refine tx_bad (q := tkP T i7) ?_ L8 K8 (D7.trans DT.w37) (by omega) (by show jx h7 ≤ _; omega) flt_r
        rw [eP]
        show xb (pTake T 161 o.2.2) _ = _
        rw [← s2, take_n c1]; rfl
end DC3
