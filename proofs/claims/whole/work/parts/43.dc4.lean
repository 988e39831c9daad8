-- needs: 20.num 21.lay 22.spec 23.va 24.leaf 25.tbls 26.thg 27.tok 29.fr 30.tree 28.vb1 28.vb2 28.vb3 31.ctx 32.rd1 33.rd2 34.lvl 35.loop 36.inn 37.fac 38.eok 39.dok 40.dcl 41.dc2 42.dc3
/-! THE READER: vars, the goal -/
section DC4
variable {p : Lpar} {d D : Nat} {h h' h0 h1 h2 : AH} {T : Txt} {e i i0 : Nat} {c : Dc} {S : List (Int × Int)} {Z A : Nat → Prop}
theorem DecB.var (B : DecB D c h) (f : KA A D h h') (hA : ∀ a, A a → a = 37 ∨ a = 93 ∨ a = D + 9 ∨ a = D + 10 ∨ (D + 18 ≤ a ∧ a ≤ D + 21)) (hD : D = 41 ∨ D = 67) {o x : Int × Int} {N : NmL} (t : ThR h' (D + 18) (dS c) (dX c ++ [o])) (b : ∀ k, k < (dB c ++ [x]).length → ji h' (D + 9) k = ((dB c ++ [x]).getD k (0, 0)).1 ∧ ji h' (D + 10) k = ((dB c ++ [x]).getD k (0, 0)).2) : DecB D (N, dS c, dT c, dV c, dX c ++ [o], dB c ++ [x], c.2.2.2.2.2.2) h' := by
  have k14 := B.ka f
  have nA : ∀ a, ¬ (a = 37 ∨ a = 93 ∨ a = D + 9 ∨ a = D + 10 ∨ (D + 18 ≤ a ∧ a ≤ D + 21)) → ¬ A a := fun a q z => q (hA a z)
  exact ⟨k14.1 (fun x z1 z2 => nA x (by omega)), k14.2.1 (fun x z1 z2 => nA x (by omega)), t, k14.2.2.2.1 (fun x z1 z2 => nA x (by omega)), k14.2.2.2.2.1 (nA _ (by omega)) (nA _ (by omega)), b, k14.2.2.2.2.2.2.1 (nA _ (by omega)) (nA _ (by omega)) (nA _ (by omega)), k14.2.2.2.2.2.2.2.1 (nA _ (by omega))⟩
theorem DecB.bnd (B : DecB D c h) (ob : (dB c).length = (dX c).length) (hD : D = 41 ∨ D = 67) {x y : Int} : DecB D c (wi (wi h (D + 9) (dX c).length x) (D + 10) (dX c).length y) := by
  have e1 : ∀ a k, ¬ (a = D + 9 ∧ k = (dX c).length) → ¬ (a = D + 10 ∧ k = (dX c).length) → ji (wi (wi h (D + 9) (dX c).length x) (D + 10) (dX c).length y) a k = ji h a k := fun a k z1 z2 => by rw [ji_wi, if_neg z2, ji_wi, if_neg z1]
  have hN : NF = 197 := rfl
  have tr : ∀ {x3 : Ex} {a : Nat}, tR h x3 3 NF (jx h) a 0 → tR (wi (wi h (D + 9) (dX c).length x) (D + 10) (dX c).length y) x3 3 NF (jx h) a 0 := fun z => tR_mono z (Nat.le_refl _) (Nat.le_refl _) (fun q q1 q2 => ⟨rfl, fun k => e1 q k (by omega) (by omega), fun k => rfl⟩)
  obtain ⟨b1, b2, b3, b4, b5, b6, b7, b8, b9, b10⟩ := B
  refine ⟨b1.cg (fun a k z1 z2 => e1 a k (by omega) (by omega)), b2.cg (fun a k z1 z2 => e1 a k (by omega) (by omega)), b3.cg (fun a k z1 z2 => e1 a k (by omega) (by omega)), b4.cg (fun a k z1 z2 => e1 a k (by omega) (by omega)), ⟨(e1 _ _ (by omega) (by omega)).trans b5.1, fun k hk => (e1 _ _ (by omega) (by omega)).trans (b5.2 k hk)⟩, fun k hk => ⟨(e1 _ _ (by omega) (by omega)).trans (b6 k hk).1, (e1 _ _ (by omega) (by omega)).trans (b6 k hk).2⟩, fun k hk => ⟨(e1 _ _ (by omega) (by omega)).trans (b7 k hk).1, tr (b7 k hk).2.1, tr (b7 k hk).2.2⟩, (e1 _ _ (by omega) (by omega)).trans b8, b9, fun z => tr (b10 z)⟩
/-- a var, behind its values -/
theorem var_in (hd : 12 ≤ d) (O : okD c) (hl : (dX c).length < 6) (V : (dV c).length ≤ i) (Wb : 0 ≤ dWk c ∧ dWk c ≤ 1000000000 * (i : Int)) {N : NmL} {o : Int × Int × Nat} {a b : Int} {i1 : Nat} {g : AH} (hi : i < i1) (Lg : Ly p g) (Kg : TokR T e i1 g) (Ng : NmR g (pT p) N) (Bg : DecB (pT p) c g) (Wg : jl g (pT p) 14 = dWk c) (Ag : ji g 93 6 = 0) (g3 : ji g 93 3 = o.1) (g4 : ji g 93 4 = o.2.1) (g2 : ji g 93 2 = b) (Dg : DT p h g) (xg : jx g = jx h) (L12 : Ly p (wi (wi g (pT p + 9) (dX c).length a) (pT p + 10) (dX c).length (ji (wi g (pT p + 9) (dX c).length a) 93 2))) (K12 : TokR T e i1 (wi (wi g (pT p + 9) (dX c).length a) (pT p + 10) (dX c).length (ji (wi g (pT p + 9) (dX c).length a) 93 2))) : ∃ h13, jE d 59 [jP (pT p + 18), jI (ji (wi (wi g (pT p + 9) (dX c).length a) (pT p + 10) (dX c).length (ji (wi g (pT p + 9) (dX c).length a) 93 2)) 93 3), jI (ji (wi (wi g (pT p + 9) (dX c).length a) (pT p + 10) (dX c).length (ji (wi g (pT p + 9) (dX c).length a) 93 2)) 93 4)] (wi (wi g (pT p + 9) (dX c).length a) (pT p + 10) (dX c).length (ji (wi g (pT p + 9) (dX c).length a) 93 2)) none h13 ∧ Ly p h13 ∧ ∃ i13, TokR T e i13 h13 ∧ (tkK T i13 = 159 → (Ly p (wi h13 37 4 ((i13 + 1 : Nat) : Int)) → TokR T e (i13 + 1) (wi h13 37 4 ((i13 + 1 : Nat) : Int)) → TxP p T e i h (xb (pTake T 159 i1) fun j => .ok ((N, dS c, dT c, dV c, dX c ++ [(o.1, o.2.1)], dB c ++ [(a, b)], c.2.2.2.2.2.2), j)) (some (jI 1)) (wi h13 37 4 ((i13 + 1 : Nat) : Int)))) ∧ (¬ tkK T i13 = 159 → (Ly p (wi h13 37 5 (-10 - (tkP T i13 : Int))) → TokR T e i13 (wi h13 37 5 (-10 - (tkP T i13 : Int))) → TxP p T e i h (xb (pTake T 159 i1) fun j => .ok ((N, dS c, dT c, dV c, dX c ++ [(o.1, o.2.1)], dB c ++ [(a, b)], c.2.2.2.2.2.2), j)) (some (jI 0)) (wi h13 37 5 (-10 - (tkP T i13 : Int))))) := by
  have hT := Lg.iT'
  have hx := Lg.nx
  have hN : NF = 197 := rfl
  have ob := O.2.2.1
  have e2 : ji (wi g (pT p + 9) (dX c).length a) 93 2 = b := by rw [ji_wi, if_neg (by omega)]; exact g2
  rw [e2] at L12 K12 ⊢
  have B12 : DecB (pT p) c (wi (wi g (pT p + 9) (dX c).length a) (pT p + 10) (dX c).length b) := Bg.bnd ob hT
  have b1 : ji (wi (wi g (pT p + 9) (dX c).length a) (pT p + 10) (dX c).length b) (pT p + 9) (dX c).length = a := by rw [ji_wi, if_neg (by omega), ji_wi, if_pos ⟨rfl, rfl⟩]
  have b2 : ji (wi (wi g (pT p + 9) (dX c).length a) (pT p + 10) (dX c).length b) (pT p + 10) (dX c).length = b := by rw [ji_wi, if_pos ⟨rfl, rfl⟩]
  have e93 : ∀ k, ji (wi (wi g (pT p + 9) (dX c).length a) (pT p + 10) (dX c).length b) 93 k = ji g 93 k := fun k => by rw [ji_wi, if_neg (by omega), ji_wi, if_neg (by omega)]
  have N12 : NmR (wi (wi g (pT p + 9) (dX c).length a) (pT p + 10) (dX c).length b) (pT p) N := Ng.cg (fun x k z1 z2 => by rw [ji_wi, if_neg (by omega), ji_wi, if_neg (by omega)])
  have D12 : DT p h (wi (wi g (pT p + 9) (dX c).length a) (pT p + 10) (dX c).length b) := (Dg.trans (Fm.wi (by omega))).trans (Fm.wi (by omega))
  have x12 : jx (wi (wi g (pT p + 9) (dX c).length a) (pT p + 10) (dX c).length b) = jx h := xg
  have W12 : jl (wi (wi g (pT p + 9) (dX c).length a) (pT p + 10) (dX c).length b) (pT p) 14 = dWk c := Wg
  rw [e93 3, e93 4, g3, g4]
  have A12 := (e93 6).trans Ag
  clear e93 e2 g3 g4 g2 Wg Ag Ng Bg Dg xg
  generalize wi (wi g (pT p + 9) (dX c).length a) (pT p + 10) (dX c).length b = k at *
  have hx2 := L12.nx
  obtain ⟨h13, hE13, L13, f13, t13⟩ := m_59 (d := d) (by omega) L12 L12.iT ⟨L12.iT, Or.inr (Or.inl ⟨rfl, rfl⟩)⟩ B12.1 O.1.2.1 B12.2.2.1 O.1.2.2.2.2.1 hl (a := o.1) (b := o.2.1)
  have j13 : ∀ x k', x < NF → ¬ (pT p + 18 ≤ x ∧ x ≤ pT p + 18 + 3) → ji h13 x k' = ji k x k' := fun x k' z1 z2 => f13.1.ji (by omega) z2 k'
  have K13 : TokR T e i1 h13 := K12.cg (fun x k z1 z2 => j13 x k (by omega) (by omega))
  have D13 : DT p h h13 := D12.trans (DT.fe f13 (fun a z => by omega))
  have x13 : jx h13 = jx h := f13.2.trans x12
  refine ⟨h13, hE13, L13, i1, K13, fun c4 L14 K14 => ?_, fun c4 L14 K14 => ?_⟩
  · rw [take_y c4]
    have F14 : Fm (fun x => x = 37 ∨ x = 93 ∨ x = pT p + 9 ∨ x = pT p + 10 ∨ (pT p + 18 ≤ x ∧ x ≤ pT p + 21)) k (wi h13 37 4 ((i1 + 1 : Nat) : Int)) := (f13.1.mono (fun x _ z => by omega)).trans (Fm.wi (Or.inl rfl))
    have j14 : ∀ x k', x < NF → ¬ x = 37 → ¬ (pT p + 18 ≤ x ∧ x ≤ pT p + 18 + 3) → ji (wi h13 37 4 ((i1 + 1 : Nat) : Int)) x k' = ji k x k' := fun x k' z1 z2 z3 => by rw [ji_wi, if_neg (by omega)]; exact j13 x k' z1 z3
    refine ⟨1, rfl, L14, D13.trans DT.w37, _, K14, by omega, by show jx h13 ≤ _; omega, rfl, rfl, by show jx h13 ≤ _; omega, L14, K14, N12.cg (fun x k z1 z2 => j14 x k (by omega) (by omega) (by omega)), ?_, ?_, ⟨Wb.1, by show dWk c ≤ _; omega⟩, (j14 _ _ (by omega) (by omega) (by omega)).trans A12, by show (dV c).length ≤ i1 + 1; omega⟩
    · refine DecB.var B12 (KA.fm L12 F14 (fun x z => by omega)) (fun x z => z) hT (t13.cg (fun x k z1 z2 => by rw [ji_wi, if_neg (by omega)])) (fun m hm => ?_)
      have hm : m < (dB c ++ [(a, b)]).length := hm
      show ji _ (pT p + 9) m = ((dB c ++ [(a, b)]).getD m (0, 0)).1 ∧ ji _ (pT p + 10) m = ((dB c ++ [(a, b)]).getD m (0, 0)).2
      rw [List.length_append] at hm
      have hm : m < (dB c).length + 1 := hm
      rw [getD_snoc, j14 _ _ (by omega) (by omega) (by omega), j14 _ _ (by omega) (by omega) (by omega)]
      by_cases ck : m < (dB c).length
      · rw [if_pos ck]; exact B12.2.2.2.2.2.1 m ck
      · have em : m = (dX c).length := by omega
        rw [if_neg ck, if_pos (by omega), em]
        exact ⟨b1, b2⟩
    · show jl h13 (pT p) 14 = dWk c
      rw [f13.1.jl (by omega) (by omega) 14]
      exact W12
  · rw [take_n c4]
    exact tx_bad rfl L14 K14 (D13.trans DT.w37) (by omega) (by show jx h13 ≤ _; omega) flt_r
theorem r_36 (hd : 13 ≤ d) (H : TxR p T e i h c) (O : okD c) (g : tkG T) (hk : tkK T i = 12) : ∃ u h', jE d 36 [jP 93] h u h' ∧ TxP p T e i h (pVar T c i) u h' := by
  obtain ⟨d, rfl⟩ : ∃ d', d = d' + 1 := ⟨d - 1, by omega⟩
  obtain ⟨L, K, N, B, W, Wb, A, V⟩ := H
  have hT := L.iT'
  have hx := L.nx
  have hN : NF = 197 := rfl
  have cn := O.cnt
  have gl : (dN c).length ≤ 28 + 0 := O.1.2.2.2.2.2.2.2.2.1
  refine jE_of (as := [jP 93]) (Nat.le_of_ble_eq_true rfl) (c_36_0 (by omega) L K ?_)
  rw [B.2.2.1.1]
  obtain ⟨v, h1, hE, L1, f1, i1, K1, hi1, R⟩ := r_33 (d := d) (by omega) L K N O.1.1 (by omega) (ns hk (by decide)) (s := 2) (n := (dX c).length) (m := 6)
  refine ⟨v, h1, hE, L1, i1, K1, ?_⟩
  have D1 : DT p h h1 := DT.fe f1 (fun a z => by omega)
  have B1 : DecB (pT p) c h1 := B.kb (KB.fm L f1.1 (fun a z => by omega))
  have x1 := f1.2
  have eP : pVar T c i = xb (pName T (dN c) (dX c).length 6 i) fun q => xb (pOf T (dN c ++ [(q.1, 2, ((dX c).length : Int))]) q.2) fun o => xb (pTake T 18 o.2.2) fun j => xb (pVal T j) fun a => xb (pTake T 22 a.2) fun j2 => xb (pVal T j2) fun b => if b.1 < a.1 then .error (tkP T j2) else xb (pTake T 159 b.2) fun j => .ok ((dN c ++ [(q.1, 2, ((dX c).length : Int))], dS c, dT c, dV c, dX c ++ [(o.1, o.2.1)], dB c ++ [(a.1, b.1)], c.2.2.2.2.2.2), j) := rfl
  cases hB : pName T (dN c) (dX c).length 6 i with
  | error q =>
    rw [hB] at R eP
    exact ⟨fun _ => tx_bad eP L1 K1 D1 hi1 (by omega) R.2, fun z => absurd R.1 z⟩
  | ok r =>
    have z1 := pName_ok g hB
    rw [hB] at R eP
    obtain ⟨r1, r2, N1⟩ := R
    refine ⟨fun z => by omega, fun _ => ?_⟩
    obtain ⟨u, h7, hE7, v7, rfl, L7, f7, k7, i7, K7, hi7, R⟩ := r_40 (d := d) (by omega) L1 K1 N1 (O.nmG z1.1 z1.2.1 (by decide) (by decide) (by omega))
    refine ⟨v7, h7, hE7, L7, i7, K7, ?_⟩
    have D7 : DT p h h7 := D1.trans (DT.fe f7 (fun a z => by omega))
    have B7 : DecB (pT p) c h7 := B1.kb (KB.fm L1 f7.1 (fun a z => by omega))
    have x7 : jx h7 = jx h := f7.2.trans x1
    have N7 : NmR h7 (pT p) (dN c ++ [(r.1, 2, ((dX c).length : Int))]) := N1.cg (fun x k z1 z2 => f7.1.ji (by omega) (by omega) k)
    have W7 : jl h7 (pT p) 14 = dWk c := by rw [f7.1.jl (by omega) (by omega) 14, f1.1.jl (by omega) (by omega) 14]; exact W
    have A7 : ji h7 93 6 = 0 := by rw [k7 6 (by decide) (by decide), f1.1.ji (by omega) (by omega) 6]; exact A
    have eP : pVar T c i = xb (pOf T (dN c ++ [(r.1, 2, ((dX c).length : Int))]) i1) fun o => xb (pTake T 18 o.2.2) fun j => xb (pVal T j) fun a => xb (pTake T 22 a.2) fun j2 => xb (pVal T j2) fun b => if b.1 < a.1 then .error (tkP T j2) else xb (pTake T 159 b.2) fun j => .ok ((dN c ++ [(r.1, 2, ((dX c).length : Int))], dS c, dT c, dV c, dX c ++ [(o.1, o.2.1)], dB c ++ [(a.1, b.1)], c.2.2.2.2.2.2), j) := by rw [eP, r2]; rfl
    generalize pOf T (dN c ++ [(r.1, 2, ((dX c).length : Int))]) i1 = Q at R eP
    cases Q with
    | error q => exact ⟨fun _ => tx_bad eP L7 K7 D7 (by omega) (by omega) R.2, fun z => absurd R.1 z⟩
    | ok o =>
      obtain ⟨s1, s2, s3, s4⟩ := R
      have eP : pVar T c i = xb (pTake T 18 i7) fun j => xb (pVal T j) fun a => xb (pTake T 22 a.2) fun j2 => xb (pVal T j2) fun b => if b.1 < a.1 then .error (tkP T j2) else xb (pTake T 159 b.2) fun j => .ok ((dN c ++ [(r.1, 2, ((dX c).length : Int))], dS c, dT c, dV c, dX c ++ [(o.1, o.2.1)], dB c ++ [(a.1, b.1)], c.2.2.2.2.2.2), j) := by rw [eP, s2]; rfl
      refine ⟨fun z => by omega, fun _ => ⟨fun c1 L8 K8 => ?_, fun c1 L8 K8 => ?_⟩⟩
      · rw [take_y c1] at eP
        have eP : pVar T c i = xb (pVal T (i7 + 1)) fun a => xb (pTake T 22 a.2) fun j2 => xb (pVal T j2) fun b => if b.1 < a.1 then .error (tkP T j2) else xb (pTake T 159 b.2) fun j => .ok ((dN c ++ [(r.1, 2, ((dX c).length : Int))], dS c, dT c, dV c, dX c ++ [(o.1, o.2.1)], dB c ++ [(a.1, b.1)], c.2.2.2.2.2.2), j) := eP
        obtain ⟨u, h9, hE9, v9, rfl, L9, f9, k9, l9, i9, K9, hi9, R⟩ := r_42 (d := d) (by omega) L8 K8
        refine ⟨v9, h9, hE9, L9, i9, K9, ?_⟩
        have F9 : Fe ZO h7 h9 := (Fe.wi (Or.inl rfl)).trans f9
        have D9 : DT p h h9 := D7.trans (DT.fe F9 (fun a z => by omega))
        have B9 : DecB (pT p) c h9 := B7.kb (KB.fm L7 F9.1 (fun a z => by omega))
        have x9 : jx h9 = jx h := F9.2.trans x7
        have q9 : ∀ k, ¬ k = 2 → ji h9 93 k = ji h7 93 k := fun k z => by rw [k9 k z, ji_wi, if_neg (by omega)]
        generalize pVal T (i7 + 1) = Q at R eP
        cases Q with
        | error q => exact ⟨fun _ => tx_bad eP L9 K9 D9 (by omega) (by omega) R.2, fun z => absurd R.1 z⟩
        | ok a =>
          obtain ⟨t1, t2, t3⟩ := R
          have eP : pVar T c i = xb (pTake T 22 i9) fun j2 => xb (pVal T j2) fun b => if b.1 < a.1 then .error (tkP T j2) else xb (pTake T 159 b.2) fun j => .ok ((dN c ++ [(r.1, 2, ((dX c).length : Int))], dS c, dT c, dV c, dX c ++ [(o.1, o.2.1)], dB c ++ [(a.1, b.1)], c.2.2.2.2.2.2), j) := by rw [eP, t2]; rfl
          refine ⟨fun z => by omega, fun _ => ⟨fun c2 L10 K10 => ?_, fun c2 L10 K10 => ?_⟩⟩
          · rw [take_y c2] at eP
            have eP : pVar T c i = xb (pVal T (i9 + 1)) fun b => if b.1 < a.1 then .error (tkP T (i9 + 1)) else xb (pTake T 159 b.2) fun j => .ok ((dN c ++ [(r.1, 2, ((dX c).length : Int))], dS c, dT c, dV c, dX c ++ [(o.1, o.2.1)], dB c ++ [(a.1, b.1)], c.2.2.2.2.2.2), j) := eP
            obtain ⟨u, h11, hE11, v11, rfl, L11, f11, k11, l11, i11, K11, hi11, R⟩ := r_42 (d := d) (by omega) L10 K10
            refine ⟨v11, h11, hE11, L11, i11, K11, ?_⟩
            have F11 : Fe ZO h9 h11 := (Fe.wi (Or.inl rfl)).trans f11
            have D11 : DT p h h11 := D9.trans (DT.fe F11 (fun a z => by omega))
            have B11 : DecB (pT p) c h11 := B9.kb (KB.fm L9 F11.1 (fun a z => by omega))
            have x11 : jx h11 = jx h := F11.2.trans x9
            generalize pVal T (i9 + 1) = Q at R eP
            cases Q with
            | error q => exact ⟨fun _ => tx_bad eP L11 K11 D11 (by omega) (by omega) R.2, fun z => absurd R.1 z⟩
            | ok b =>
              obtain ⟨w1, w2, w3⟩ := R
              have eP : pVar T c i = if b.1 < a.1 then .error (tkP T (i9 + 1)) else xb (pTake T 159 i11) fun j => .ok ((dN c ++ [(r.1, 2, ((dX c).length : Int))], dS c, dT c, dV c, dX c ++ [(o.1, o.2.1)], dB c ++ [(a.1, b.1)], c.2.2.2.2.2.2), j) := by rw [eP, w2]; rfl
              refine ⟨fun z => by omega, fun _ => ?_⟩
              rw [t3, w3]
              refine ⟨fun c3 => ?_, fun c3 => ⟨⟨by omega, by have := (K10.ok).2.1; omega⟩, fun L12 K12 => ?_⟩⟩
              · rw [if_neg (by omega)] at eP
                rw [eP]
                refine ⟨by omega, by omega, by omega, by omega, fun L12 K12 => ?_⟩
                rw [Int.toNat_natCast] at L12 K12 ⊢
                have q11 : ∀ k, ¬ k = 2 → ji h11 93 k = ji h7 93 k := fun k z => by rw [k11 k z, ji_wi, if_neg (by omega), q9 k z]
                have N11 : NmR h11 (pT p) (dN c ++ [(r.1, 2, ((dX c).length : Int))]) := N7.cg (fun x k z1 z2 => by rw [F11.1.ji (by omega) (by omega) k, F9.1.ji (by omega) (by omega) k])
                have W11 : jl h11 (pT p) 14 = dWk c := by rw [F11.1.jl (by omega) (by omega) 14, F9.1.jl (by omega) (by omega) 14]; exact W7
                exact var_in (by omega) O z1.2.2.1 V Wb (by omega) L11 K11 N11 B11 W11 ((q11 6 (by decide)).trans A7) ((q11 3 (by decide)).trans s3) ((q11 4 (by decide)).trans s4) w3 D11 x11 L12 K12
              · rw [if_pos (by omega)] at eP
                exact tx_bad eP L12 K12 (D11.trans DT.w37) (by omega) (by show jx h11 ≤ _; omega) flt_r
          · rw [take_n c2] at eP
            exact tx_bad eP L10 K10 (D9.trans DT.w37) (by omega) (by show jx h9 ≤ _; omega) flt_r
      · rw [take_n c1] at eP
        exact tx_bad eP L8 K8 (D7.trans DT.w37) (by omega) (by show jx h7 ≤ _; omega) flt_r
end DC4
