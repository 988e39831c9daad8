-- needs: 20.num 21.lay 22.spec 23.va 24.leaf 25.tbls 26.thg 27.tok 29.fr 30.tree 28.vb1 28.vb2 28.vb3 31.ctx 32.rd1 33.rd2 34.lvl 35.loop 36.inn 37.fac 38.eok 39.dok 40.dcl 41.dc2 42.dc3
/-! THE READER: vars, the goal -/
section DC4
variable {p : Lpar} {d D : Nat} {h h' h0 h1 h2 : AH} {T : Txt} {e i i0 : Nat} {c : Dc} {S : List (Int × Int)} {Z A : Nat → Prop}
theorem DecB.var (B : DecB D c h) (f : KA A D h h') (hA : ∀ a, A a → a = 37 ∨ a = 93 ∨ a = D + 9 ∨ a = D + 10 ∨ (D + 18 ≤ a ∧ a ≤ D + 21)) (hD : D = 41 ∨ D = 67) {o x : Int × Int} {N : NmL} (t : ThR h' (D + 18) (dS c) (dX c ++ [o])) (b : ∀ k, k < (dB c ++ [x]).length → ji h' (D + 9) k = ((dB c ++ [x]).getD k (0, 0)).1 ∧ ji h' (D + 10) k = ((dB c ++ [x]).getD k (0, 0)).2) : DecB D (N, dS c, dT c, dV c, dX c ++ [o], dB c ++ [x], c.2.2.2.2.2.2) h' := by
  have k14 := B.ka f
  have nA : ∀ a, ¬ (a = 37 ∨ a = 93 ∨ a = D + 9 ∨ a = D + 10 ∨ (D + 18 ≤ a ∧ a ≤ D + 21)) → ¬ A a := fun a q z => q (hA a z)
  exact ⟨k14.1 (fun x z1 z2 => nA x (by omega)), k14.2.1 (fun x z1 z2 => nA x (by omega)), t, k14.2.2.2.1 (fun x z1 z2 => nA x (by omega)), k14.2.2.2.2.1 (nA _ (by omega)) (nA _ (by omega)), b, k14.2.2.2.2.2.2.1 (nA _ (by omega)) (nA _ (by omega)) (nA _ (by omega)), k14.2.2.2.2.2.2.2.1 (nA _ (by omega))⟩
theorem r_36 (hd : 13 ≤ d) (H : TxR p T e i h c) (O : okD c) (g : tkG T) (hk : tkK T i = 12) : ∃ u h', jE d 36 [jP 93] h u h' ∧ TxP p T e i h (pVar T c i) u h' := by
  obtain ⟨d, rfl⟩ : ∃ d', d = d' + 1 := ⟨d - 1, by omega⟩
  obtain ⟨L, K, N, B, W, Wb, A, V⟩ := H
  have hT := L.iT'
  have hx := L.nx
  have hN : NF = 197 := rfl
  have cn := O.cnt
  have gl : (dN c).length ≤ 28 + 0 := O.1.2.2.2.2.2.2.2.2.1
  refine jE_of (as := [jP 93]) (Nat.le_of_ble_eq_true rfl) (c_36_0 (by omega) L K ?_)
  rw [B.2.2.1.1]
  obtain ⟨v, h1, hE, L1, f1, i1, K1, hi1, R⟩ := r_33 (d := d) (by omega) L K N O.1.1 (by omega) (ns hk (by decide)) (s := 2) (n := (dX c).length) (m := 6)
  refine ⟨v, h1, hE, L1, i1, K1, ?_⟩
  have D1 : DT p h h1 := DT.fe f1 (fun a z => by omega)
  have B1 : DecB (pT p) c h1 := B.kb (KB.fm L f1.1 (fun a z => by omega))
  have x1 := f1.2
  have eP : pVar T c i = xb (pName T (dN c) (dX c).length 6 i) fun q => xb (pOf T (dN c ++ [(q.1, 2, ((dX c).length : Int))]) q.2) fun o => xb (pTake T 18 o.2.2) fun j => xb (pVal T j) fun a => xb (pTake T 22 a.2) fun j2 => xb (pVal T j2) fun b => if b.1 < a.1 then .error (tkP T j2) else xb (pTake T 159 b.2) fun j => .ok ((dN c ++ [(q.1, 2, ((dX c).length : Int))], dS c, dT c, dV c, dX c ++ [(o.1, o.2.1)], dB c ++ [(a.1, b.1)], c.2.2.2.2.2.2), j) := rfl
  cases hB : pName T (dN c) (dX c).length 6 i with
  | error q =>
    rw [hB] at R eP
    exact ⟨fun _ => tx_bad eP L1 K1 D1 hi1 (by omega) R.2, fun z => absurd R.1 z⟩
  | ok r =>
    have z1 := pName_ok g hB
    rw [hB] at R eP
    obtain ⟨r1, r2, N1⟩ := R
    refine ⟨fun z => by omega, fun _ => ?_⟩
    obtain ⟨u, h7, hE7, v7, rfl, L7, f7, k7, i7, K7, hi7, R⟩ := r_40 (d := d) (by omega) L1 K1 N1 (O.nmG z1.1 z1.2.1 (by decide) (by decide) (by omega))
    refine ⟨v7, h7, hE7, L7, i7, K7, ?_⟩
    have D7 : DT p h h7 := D1.trans (DT.fe f7 (fun a z => by omega))
    have B7 : DecB (pT p) c h7 := B1.kb (KB.fm L1 f7.1 (fun a z => by omega))
    have x7 : jx h7 = jx h := f7.2.trans x1
    have N7 : NmR h7 (pT p) (dN c ++ [(r.1, 2, ((dX c).length : Int))]) := N1.cg (fun x k z1 z2 => f7.1.ji (by omega) (by omega) k)
    have W7 : jl h7 (pT p) 14 = dWk c := by rw [f7.1.jl (by omega) (by omega) 14, f1.1.jl (by omega) (by omega) 14]; exact W
    have A7 : ji h7 93 6 = 0 := by rw [k7 6 (by decide) (by decide), f1.1.ji (by omega) (by omega) 6]; exact A
    have eP : pVar T c i = xb (pOf T (dN c ++ [(r.1, 2, ((dX c).length : Int))]) i1) fun o => xb (pTake T 18 o.2.2) fun j => xb (pVal T j) fun a => xb (pTake T 22 a.2) fun j2 => xb (pVal T j2) fun b => if b.1 < a.1 then .error (tkP T j2) else xb (pTake T 159 b.2) fun j => .ok ((dN c ++ [(r.1, 2, ((dX c).length : Int))], dS c, dT c, dV c, dX c ++ [(o.1, o.2.1)], dB c ++ [(a.1, b.1)], c.2.2.2.2.2.2), j) := by rw [eP, r2]; rfl
    generalize pOf T (dN c ++ [(r.1, 2, ((dX c).length : Int))]) i1 = Q at R eP
    cases Q with
    | error q => exact ⟨fun _ => tx_bad eP L7 K7 D7 (by omega) (by omega) R.2, fun z => absurd R.1 z⟩
    | ok o =>
      obtain ⟨s1, s2, s3, s4⟩ := R
      have eP : pVar T c i = xb (pTake T 18 i7) fun j => xb (pVal T j) fun a => xb (pTake T 22 a.2) fun j2 => xb (pVal T j2) fun b => if b.1 < a.1 then .error (tkP T j2) else xb (pTake T 159 b.2) fun j => .ok ((dN c ++ [(r.1, 2, ((dX c).length : Int))], dS c, dT c, dV c, dX c ++ [(o.1, o.2.1)], dB c ++ [(a.1, b.1)], c.2.2.2.2.2.2), j) := by rw [eP, s2]; rfl
      refine ⟨fun z => by omega, fun _ => ⟨fun c1 L8 K8 => ?_, fun c1 L8 K8 => ?_⟩⟩
      · rw [take_y c1] at eP
        have eP : pVar T c i = xb (pVal T (i7 + 1)) fun a => xb (pTake T 22 a.2) fun j2 => xb (pVal T j2) fun b => if b.1 < a.1 then .error (tkP T j2) else xb (pTake T 159 b.2) fun j => .ok ((dN c ++ [(r.1, 2, ((dX c).length : Int))], dS c, dT c, dV c, dX c ++ [(o.1, o.2.1)], dB c ++ [(a.1, b.1)], c.2.2.2.2.2.2), j) := eP
        obtain ⟨u, h9, hE9, v9, rfl, L9, f9, k9, l9, i9, K9, hi9, R⟩ := r_42 (d := d) (by omega) L8 K8
        refine ⟨v9, h9, hE9, L9, i9, K9, ?_⟩
        have F9 : Fe ZO h7 h9 := (Fe.wi (Or.inl rfl)).trans f9
        have D9 : DT p h h9 := D7.trans (DT.fe F9 (fun a z => by omega))
        have B9 : DecB (pT p) c h9 := B7.kb (KB.fm L7 F9.1 (fun a z => by omega))
        have x9 : jx h9 = jx h := F9.2.trans x7
        have q9 : ∀ k, ¬ k = 2 → ji h9 93 k = ji h7 93 k := fun k z => by rw [k9 k z, ji_wi, if_neg (by omega)]
        generalize pVal T (i7 + 1) = Q at R eP
        cases Q with
        | error q => exact ⟨fun _ => tx_bad eP L9 K9 D9 (by omega) (by omega) R.2, fun z => absurd R.1 z⟩
        | ok a =>
          obtain ⟨t1, t2, t3⟩ := R
          have eP : pVar T c i = xb (pTake T 22 i9) fun j2 => xb (pVal T j2) fun b => if b.1 < a.1 then .error (tkP T j2) else xb (pTake T 159 b.2) fun j => .ok ((dN c ++ [(r.1, 2, ((dX c).length : Int))], dS c, dT c, dV c, dX c ++ [(o.1, o.2.1)], dB c ++ [(a.1, b.1)], c.2.2.2.2.2.2), j) := by rw [eP, t2]; rfl
          refine ⟨fun z => by omega, fun _ => ⟨fun c2 L10 K10 => ?_, fun c2 L10 K10 => ?_⟩⟩
          · rw [take_y c2] at eP
            have eP : pVar T c i = xb (pVal T (i9 + 1)) fun b => if b.1 < a.1 then .error (tkP T (i9 + 1)) else xb (pTake T 159 b.2) fun j => .ok ((dN c ++ [(r.1, 2, ((dX c).length : Int))], dS c, dT c, dV c, dX c ++ [(o.1, o.2.1)], dB c ++ [(a.1, b.1)], c.2.2.2.2.2.2), j) := eP
            obtain ⟨u, h11, hE11, v11, rfl, L11, f11, k11, l11, i11, K11, hi11, R⟩ := r_42 (d := d) (by omega) L10 K10
            refine ⟨v11, h11, hE11, L11, i11, K11, ?_⟩
            have F11 : Fe ZO h9 h11 := (Fe.wi (Or.inl rfl)).trans f11
            have D11 : DT p h h11 := D9.trans (DT.fe F11 (fun a z => by omega))
            have B11 : DecB (pT p) c h11 := B9.kb (KB.fm L9 F11.1 (fun a z => by omega))
            have x11 : jx h11 = jx h := F11.2.trans x9
            have q11 : ∀ k, ¬ k = 2 → ji h11 93 k = ji h7 93 k := fun k z => by rw [k11 k z, ji_wi, if_neg (by omega), q9 k z]
            generalize pVal T (i9 + 1) = Q at R eP
            cases Q with
            | error q => exact ⟨fun _ => tx_bad eP L11 K11 D11 (by omega) (by omega) R.2, fun z => absurd R.1 z⟩
            | ok b =>
              obtain ⟨w1, w2, w3⟩ := R
              have eP : pVar T c i = if b.1 < a.1 then .error (tkP T (i9 + 1)) else xb (pTake T 159 i11) fun j => .ok ((dN c ++ [(r.1, 2, ((dX c).length : Int))], dS c, dT c, dV c, dX c ++ [(o.1, o.2.1)], dB c ++ [(a.1, b.1)], c.2.2.2.2.2.2), j) := by rw [eP, w2]; rfl
              refine ⟨fun z => by omega, fun _ => ?_⟩
              rw [t3, w3]
              refine ⟨fun c3 => ?_, fun c3 => ⟨⟨by omega, by have := (K10.ok).2.1; omega⟩, fun L12 K12 => ?_⟩⟩
              · rw [if_neg (by omega)] at eP
                refine ⟨by omega, by omega, by omega, by omega, fun L12 K12 => ?_⟩
                rw [Int.toNat_natCast] at L12 K12 ⊢
                have e93 : ∀ k, ji (wi (wi h11 (pT p + 9) (dX c).length a.1) (pT p + 10) (dX c).length (ji (wi h11 (pT p + 9) (dX c).length a.1) 93 2)) 93 k = ji h11 93 k := fun k => by rw [ji_wi, if_neg (by omega), ji_wi, if_neg (by omega)]
                have e93b : ji (wi h11 (pT p + 9) (dX c).length a.1) 93 2 = b.1 := by rw [ji_wi, if_neg (by omega)]; exact w3
                rw [e93 3, e93 4, q11 3 (by decide), q11 4 (by decide), s3, s4]
                rw [e93b] at L12 K12 ⊢
                have F12 : Fm (fun x => x = 37 ∨ x = 93 ∨ x = pT p + 9 ∨ x = pT p + 10) h11 (wi (wi h11 (pT p + 9) (dX c).length a.1) (pT p + 10) (dX c).length b.1) := (Fm.wi (by omega)).trans (Fm.wi (by omega))
                have k12 := B11.ka (KA.fm L11 F12 (fun x z => by omega))
                have x12 : jx (wi (wi h11 (pT p + 9) (dX c).length a.1) (pT p + 10) (dX c).length b.1) = jx h := x11
                have S12 := k12.1 (fun x z1 z2 z => by omega)
                have T12 := k12.2.2.1 (fun x z1 z2 z => by omega)
                obtain ⟨h13, hE13, L13, f13, t13⟩ := m_59 (d := d) (by omega) L12 L12.iT ⟨L12.iT, Or.inr (Or.inl ⟨rfl, rfl⟩)⟩ S12 O.1.2.1 T12 O.1.2.2.2.2.1 z1.2.2.1 (a := o.1) (b := o.2.1)
                have j13 : ∀ x k, x < NF → ¬ (pT p + 18 ≤ x ∧ x ≤ pT p + 18 + 3) → ji h13 x k = ji (wi (wi h11 (pT p + 9) (dX c).length a.1) (pT p + 10) (dX c).length b.1) x k := fun x k z1 z2 => f13.1.ji (by show x < jx h11; omega) z2 k
                have K13 : TokR T e i11 h13 := K12.cg (fun x k z1 z2 => j13 x k (by omega) (by omega))
                have D13 : DT p h h13 := (D11.trans (F12.mono (fun a _ z => by omega))).trans (DT.fe f13 (fun a z => by omega))
                have x13 : jx h13 = jx h := f13.2.trans x12
                refine ⟨h13, hE13, L13, i11, K13, fun c4 L14 K14 => ?_, fun c4 L14 K14 => ?_⟩
                · rw [take_y c4] at eP
                  rw [eP]
                  have F14 : Fm (fun x => x = 37 ∨ x = 93 ∨ x = pT p + 9 ∨ x = pT p + 10 ∨ (pT p + 18 ≤ x ∧ x ≤ pT p + 21)) h11 (wi h13 37 4 ((i11 + 1 : Nat) : Int)) := ((F12.mono (fun x _ z => by omega)).trans (f13.1.mono (fun x _ z => by omega))).trans (Fm.wi (Or.inl rfl))
                  have j14 : ∀ x k, x < NF → ¬ x = 37 → ¬ (pT p + 18 ≤ x ∧ x ≤ pT p + 18 + 3) → ji (wi h13 37 4 ((i11 + 1 : Nat) : Int)) x k = ji (wi (wi h11 (pT p + 9) (dX c).length a.1) (pT p + 10) (dX c).length b.1) x k := fun x k z1 z2 z3 => by rw [ji_wi, if_neg (by omega)]; exact j13 x k z1 z3
                  refine ⟨1, rfl, L14, D13.trans DT.w37, _, K14, by omega, by show jx h13 ≤ _; omega, rfl, rfl, by show jx h13 ≤ _; omega, L14, K14, ?_, ?_, ?_, ⟨Wb.1, by show dWk c ≤ _; omega⟩, ?_, by show (dV c).length ≤ i11 + 1; omega⟩
                  · exact N7.cg (fun x k z1 z2 => by rw [j14 x k (by omega) (by omega) (by omega), ji_wi, if_neg (by omega), ji_wi, if_neg (by omega), F11.1.ji (by omega) (by omega) k, F9.1.ji (by omega) (by omega) k])
                  · refine DecB.var B11 (KA.fm L11 F14 (fun x z => by omega)) (fun x z => z) hT (t13.cg (fun x k z1 z2 => by rw [ji_wi, if_neg (by omega)])) (fun k hk => ?_)
                    have hk : k < (dB c ++ [(a.1, b.1)]).length := hk
                    show ji _ (pT p + 9) k = ((dB c ++ [(a.1, b.1)]).getD k (0, 0)).1 ∧ ji _ (pT p + 10) k = ((dB c ++ [(a.1, b.1)]).getD k (0, 0)).2
                    rw [List.length_append] at hk
                    have hk : k < (dB c).length + 1 := hk
                    have ob := O.2.2.1
                    rw [getD_snoc, j14 _ _ (by omega) (by omega) (by omega), j14 _ _ (by omega) (by omega) (by omega), ji_wi, ji_wi, ji_wi, ji_wi]
                    by_cases ck : k < (dB c).length
                    · rw [if_neg (by omega), if_neg (by omega), if_neg (by omega), if_neg (by omega), if_pos ck]
                      exact B11.2.2.2.2.2.1 k ck
                    · rw [if_neg (by omega), if_pos (by omega), if_pos (by omega), if_neg ck, if_pos (by omega)]
                      exact ⟨rfl, rfl⟩
                  · show jl h13 (pT p) 14 = dWk c
                    rw [f13.1.jl (by omega) (by omega) 14]
                    show jl h11 (pT p) 14 = dWk c
                    rw [F11.1.jl (by omega) (by omega) 14, F9.1.jl (by omega) (by omega) 14]; exact W7
                  · rw [j14 _ _ (by omega) (by omega) (by omega), ji_wi, if_neg (by omega), ji_wi, if_neg (by omega), q11 6 (by decide)]; exact A7
                · rw [take_n c4] at eP
                  exact tx_bad eP L14 K14 (D13.trans DT.w37) (by omega) (by show jx h13 ≤ _; omega) flt_r
              · rw [if_pos (by omega)] at eP
                exact tx_bad eP L12 K12 (D11.trans DT.w37) (by omega) (by show jx h11 ≤ _; omega) flt_r
          · rw [take_n c2] at eP
            exact tx_bad eP L10 K10 (D9.trans DT.w37) (by omega) (by show jx h9 ≤ _; omega) flt_r
      · rw [take_n c1] at eP
        exact tx_bad eP L8 K8 (D7.trans DT.w37) (by omega) (by show jx h7 ≤ _; omega) flt_r
/-- the goal, behind min or max -/
theorem goal_in (hd : 41 ≤ d) (H : TxR p T e i h c) (O : okD c) (hG : dG c = 0) {gg : Int} (hgg : gg = 1 ∨ gg = 2) (hi : i + 2 ≤ e) (K2 : TokR T e (i + 2) (wl (wi (wi (wi h 37 4 ((i + 1 : Nat) : Int)) (pT p) 12 gg) 37 4 ((i + 2 : Nat) : Int)) 93 7 1)) (eP : pGoal T c i = xb (pSum T (dC c) 8 (dN c) [] (i + 2)) fun a => xb (pTake T 159 a.2) fun j => .ok ((dN c, dS c, dT c, dV c, dX c, dB c, dR c, dL c, gg, a.1), j)) : ∃ p9 h4, jE d 46 [jP 93, jI 0] (wl (wi (wi (wi h 37 4 ((i + 1 : Nat) : Int)) (pT p) 12 gg) 37 4 ((i + 2 : Nat) : Int)) 93 7 1) (some (jP p9)) h4 ∧ Ly p h4 ∧ ∃ i7, TokR T e i7 h4 ∧ ¬ (jr (wr h4 (pT p) 13 p9) (pT p) 13) = 1 ∧ ((jr (wr h4 (pT p) 13 p9) (pT p) 13) = 0 → (Ly p (wr h4 (pT p) 13 p9) → TokR T e i7 (wr h4 (pT p) 13 p9) → TxP p T e i h (pGoal T c i) (some (jI 0)) (wr h4 (pT p) 13 p9))) ∧ (¬ (jr (wr h4 (pT p) 13 p9) (pT p) 13) = 0 → (tkK T i7 = 159 → (Ly p (wi (wr h4 (pT p) 13 p9) 37 4 ((i7 + 1 : Nat) : Int)) → TokR T e (i7 + 1) (wi (wr h4 (pT p) 13 p9) 37 4 ((i7 + 1 : Nat) : Int)) → TxP p T e i h (pGoal T c i) (some (jI 1)) (wi (wr h4 (pT p) 13 p9) 37 4 ((i7 + 1 : Nat) : Int)))) ∧ (¬ tkK T i7 = 159 → (Ly p (wi (wr h4 (pT p) 13 p9) 37 5 (-10 - (tkP T i7 : Int))) → TokR T e i7 (wi (wr h4 (pT p) 13 p9) 37 5 (-10 - (tkP T i7 : Int))) → TxP p T e i h (pGoal T c i) (some (jI 0)) (wi (wr h4 (pT p) 13 p9) 37 5 (-10 - (tkP T i7 : Int)))))) := by
  have X := H.smx
  obtain ⟨L, K, N, B, W, Wb, A, V⟩ := H
  have hT := L.iT'
  have hx := L.nx
  have hN : NF = 197 := rfl
  generalize hh : wl (wi (wi (wi h 37 4 ((i + 1 : Nat) : Int)) (pT p) 12 gg) 37 4 ((i + 2 : Nat) : Int)) 93 7 1 = h2 at K2
  have L2 : Ly p h2 := by rw [← hh]; exact (((L.wi (by decide)).wi (by omega)).wi (by decide)).wl
  have i2 : ∀ a k, ¬ a = 37 → ¬ (a = pT p ∧ k = 12) → ji h2 a k = ji h a k := fun a k z1 z2 => by rw [← hh]; show ji (wi (wi (wi h 37 4 ((i + 1 : Nat) : Int)) (pT p) 12 gg) 37 4 ((i + 2 : Nat) : Int)) a k = _; rw [ji_wi, if_neg (by omega), ji_wi, if_neg z2, ji_wi, if_neg (by omega)]
  have g2 : ji h2 (pT p) 12 = gg := by rw [← hh]; show ji (wi (wi (wi h 37 4 ((i + 1 : Nat) : Int)) (pT p) 12 gg) 37 4 ((i + 2 : Nat) : Int)) (pT p) 12 = _; rw [ji_wi, if_neg (by omega), ji_wi, if_pos ⟨rfl, rfl⟩]
  have l2 : ∀ a k, ¬ (a = 93 ∧ k = 7) → jl h2 a k = jl h a k := fun a k z => by rw [← hh, jl_wl, if_neg z]; rfl
  have t2 : jl h2 93 7 = 1 := by rw [← hh, jl_wl, if_pos ⟨rfl, rfl⟩]
  have r2 : ∀ a k, jr h2 a k = jr h a k := fun a k => by rw [← hh]; rfl
  have x2 : jx h2 = jx h := by rw [← hh]; rfl
  have D2 : DT p h h2 := by rw [← hh]; exact ((DT.w37.trans (Fm.wi (by omega))).trans DT.w37).trans (Fm.wl (by omega))
  have H2 : SmH p (dC c) (dN c) [] T e (i + 2) h2 1 (dWk c) := ⟨L2, K2, X.cg (fun a k z => i2 a k (by omega) (by omega)), t2, by rw [l2 _ _ (by omega)]; exact W, by decide, by decide, Wb.1, by omega⟩
  obtain ⟨u, h4, hE, v, rfl, L4, D4, i4, K4, hi4, hb4, R⟩ := (levels (p := p) (T := T) (e := e) (C := dC c) 8 (by decide)).2 d (dN c) [] (i + 2) h2 1 (dWk c) (by omega) H2 O.1 (by decide)
  have D24 : DT p h h4 := D2.trans (DT.ds D4)
  have D5 : DT p h (wr h4 (pT p) 13 v) := D24.trans (Fm.wr (by omega))
  refine ⟨v, h4, hE, L4, i4, K4, ?_⟩
  rw [jr_wr, if_pos ⟨rfl, rfl⟩]
  cases hB : pSum T (dC c) 8 (dN c) [] (i + 2) with
  | error q =>
    rw [hB] at R eP
    obtain ⟨r1, rf⟩ := R
    subst r1
    exact ⟨by decide, fun _ L5 K5 => tx_bad eP L5 K5 D5 (by omega) (by show jx h4 ≤ _; omega) rf, fun z => absurd rfl z⟩
  | ok r =>
    rw [hB] at R eP
    obtain ⟨r1, r3, r4, r5, r6, r7⟩ := R
    refine ⟨by omega, fun z => by omega, fun _ => ⟨fun c1 L5 K5 => ?_, fun c1 L5 K5 => ?_⟩⟩
    · have eP : pGoal T c i = .ok ((dN c, dS c, dT c, dV c, dX c, dB c, dR c, dL c, gg, r.1), i4 + 1) := by
        rw [eP]
        show xb (pTake T 159 r.2) _ = _
        rw [← r1, take_y c1]; rfl
      rw [eP]
      have hg0 : ¬ gg = 0 := by omega
      have d4i : ∀ k, ji h4 (pT p) k = ji h2 (pT p) k := fun k => (D4.2 k).1
      have F5 : KA (fun x => x = 37 ∨ x = 93 ∨ x = 94 ∨ x = pT p ∨ (pT p + 1 ≤ x ∧ x ≤ pT p + 4)) (pT p) h (wi (wr h4 (pT p) 13 v) 37 4 ((i4 + 1 : Nat) : Int)) := by
        have q : Fm (fun x => x = 37 ∨ x = 93 ∨ x = 94 ∨ x = pT p ∨ (pT p + 1 ≤ x ∧ x ≤ pT p + 4)) h (wi (wr h4 (pT p) 13 v) 37 4 ((i4 + 1 : Nat) : Int)) := by
          refine Fm.trans (Fm.trans (Fm.trans ?_ (D4.1.mono (fun x _ z => by omega))) (Fm.wr (by omega))) (Fm.wi (Or.inl rfl))
          rw [← hh]
          exact (((Fm.wi (Or.inl rfl)).trans (Fm.wi (by omega))).trans (Fm.wi (Or.inl rfl))).trans (Fm.wl (by omega))
        exact KA.fm L q (fun x z => by omega)
      have k5 := B.ka F5
      have ew : dWk (dN c, dS c, dT c, dV c, dX c, dB c, dR c, dL c, gg, r.1) = dWk c + wkc (dS c) r.1 1 := by
        show rWk (dS c) (dR c) (dL c) + (if gg = 0 then 0 else wkc (dS c) r.1 1) = (rWk (dS c) (dR c) (dL c) + (if dG c = 0 then 0 else wkc (dS c) (dE c) 1)) + _
        rw [if_neg hg0, if_pos hG]; omega
      refine ⟨1, rfl, L5, D5.trans DT.w37, i4 + 1, K5, by omega, by show jx h4 ≤ _; omega, rfl, rfl, by show jx h4 ≤ _; omega, L5, K5, ?_, ?_, ?_, ?_, ?_, by show (dV c).length ≤ i4 + 1; omega⟩
      · exact r7.2.2.1.1.cg (fun x k z1 z2 => by rw [ji_wi, if_neg (by omega)]; rfl)
      · refine ⟨k5.1 (fun x z1 z2 z => by omega), k5.2.1 (fun x z1 z2 z => by omega), k5.2.2.1 (fun x z1 z2 z => by omega), k5.2.2.2.1 (fun x z1 z2 z => by omega), ⟨?_, fun k hk => ?_⟩, k5.2.2.2.2.2.1 (fun z => by omega) (fun z => by omega), k5.2.2.2.2.2.2.1 (fun z => by omega) (fun z => by omega) (fun z => by omega), ?_, fun z => absurd z hg0, fun _ => ?_⟩
        · rw [ji_wi, if_neg (by omega)]
          show ji h4 (pT p) 6 = _
          rw [d4i, i2 _ _ (by omega) (by omega)]; exact B.2.2.2.2.1.1
        · rw [(F5.1 (pT p + 8) k (by omega) (by omega) (by omega)).1]; exact B.2.2.2.2.1.2 k hk
        · rw [ji_wi, if_neg (by omega)]
          show ji h4 (pT p) 12 = _
          rw [d4i, g2]
        · rw [jr_wi, jr_wr, if_pos ⟨rfl, rfl⟩]
          exact tR_mono r6 (by omega) (Nat.le_refl _) (fun q q1 q2 => ⟨rfl, fun k => by rw [ji_wi, if_neg (by omega)]; rfl, fun k => by rw [jr_wi, jr_wr, if_neg (by omega)]⟩)
      · rw [ew]; exact r7.2.2.2.2.1
      · rw [ew]
        have y1 := r7.2.2.2.2.2.2.2.1
        have y2 := r7.2.2.2.2.2.2.2.2
        have e1 : (dC c).1 = dS c := rfl
        rw [e1] at y1 y2
        omega
      · rw [ji_wi, if_neg (by omega)]
        exact r7.2.2.1.2.2.2.2.1
    · refine tx_bad (q := tkP T i4) ?_ L5 K5 (D5.trans DT.w37) (by omega) (by show jx h4 ≤ _; omega) flt_r
      rw [eP]
      show xb (pTake T 159 r.2) _ = _
      rw [← r1, take_n c1]; rfl
theorem r_39 (hd : 42 ≤ d) (H : TxR p T e i h c) (O : okD c) (hk : tkK T i = 14) : ∃ u h', jE d 39 [jP 93] h u h' ∧ TxP p T e i h (pGoal T c i) u h' := by
  obtain ⟨d, rfl⟩ : ∃ d', d = d' + 1 := ⟨d - 1, by omega⟩
  have H0 := H
  obtain ⟨L, K, N, B, W, Wb, A, V⟩ := H
  have eg : ji h (pT p) 12 = dG c := B.2.2.2.2.2.2.2.1
  refine jE_of (as := [jP 93]) (Nat.le_of_ble_eq_true rfl) (c_39_0 (by omega) L K ?_)
  rw [eg]
  refine ⟨fun c1 => ⟨ns hk (by decide), fun c2 L2 K2 => ?_, fun c2 => ⟨fun c3 L2 K2 => ?_, fun c3 L2 K2 => ?_⟩⟩, fun c1 L2 K2 => ?_⟩
  · refine goal_in (by omega) H0 O c1 (Or.inl rfl) K2.2.2.2.1 K2 ?_
    unfold pGoal
    rw [if_neg (fun z => z c1), if_pos (Or.inl c2), if_pos c2]
  · refine goal_in (by omega) H0 O c1 (Or.inr rfl) K2.2.2.2.1 K2 ?_
    unfold pGoal
    rw [if_neg (fun z => z c1), if_pos (Or.inr c3), if_neg c2]
  · refine tx_bad (q := tkP T (i + 1)) ?_ L2 K2 (DT.w37.trans DT.w37) (by omega) (by show jx h ≤ _; omega) flt_r
    unfold pGoal
    rw [if_neg (fun z => z c1), if_neg (by omega)]
  · refine tx_bad (q := tkP T i) ?_ L2 K2 DT.w37 (by omega) (by show jx h ≤ _; omega) flt_r
    unfold pGoal
    rw [if_pos c1]
end DC4
