/-! THE READER: rules -/
section RUL
variable {p : Lpar} {d D : Nat} {h h' h0 h1 h2 : AH} {T : Txt} {e i i0 : Nat} {c : Dc} {S : List (Int × Int)}
theorem tR_p6 {h : AH} : ∀ {x : Ex} {lo hi a b : Nat}, tR h x 3 lo hi a b → a = b ∨ jt h a = 6 := by
  intro x
  induction x with
  | leaf => intro lo hi a b hx; exact absurd hx.1 (by omega)
  | inner t k u l r ihl ihr =>
    intro lo hi a b hx
    unfold tR at hx
    split at hx
    · exact absurd hx.1 (by omega)
    split at hx
    · exact absurd hx.1 (by omega)
    split at hx
    · rcases hx with hx | hx
      · exact absurd hx.1 (by omega)
      · exact absurd hx.1 (by omega)
    split at hx
    · exact Or.inl hx.2
    · obtain ⟨-, q, h1, -, -, h4, -⟩ := hx
      rcases ihl h1 with z | z
      · exact Or.inr (by rw [z]; exact h4)
      · exact Or.inr z
def P38 (p : Lpar) (T : Txt) (e i k : Nat) (h : AH) (w : Option AV) (h' : AH) : Prop := ∃ v, w = some (jI v) ∧ Ly p h' ∧ Fe (fun a => a = 37 ∨ a = pT p + 11) h h' ∧ (∀ j, ¬ j = k → ji h' (pT p + 11) j = ji h (pT p + 11) j) ∧ ∃ i', TokR T e i' h' ∧ i ≤ i' ∧ Rs (pRel T i) (fun q => v = 0 ∧ ji h' 37 5 = -10 - (q : Int)) (fun r => v = 1 ∧ i' = r.2 ∧ ji h' (pT p + 11) k = r.1)
theorem r_38 (hd : 10 ≤ d) (L : Ly p h) (K : TokR T e i h) {k : Nat} (hk : k < 10) : ∃ w h', jE d 38 [jP 93, jI (k : Int)] h w h' ∧ P38 p T e i k h w h' := by
  obtain ⟨d, rfl⟩ : ∃ d', d = d' + 1 := ⟨d - 1, by omega⟩
  have hT := L.iT'
  have ky : ∀ (x : Int), pRel T i = .ok (x, i + 1) → Ly p (wi (wi h (pT p + 11) k x) 37 4 ((i + 1 : Nat) : Int)) → TokR T e (i + 1) (wi (wi h (pT p + 11) k x) 37 4 ((i + 1 : Nat) : Int)) → P38 p T e i k h (some (jI 1)) (wi (wi h (pT p + 11) k x) 37 4 ((i + 1 : Nat) : Int)) := fun x hR L1 K1 => by
    refine ⟨1, rfl, L1, (Fe.wi (Or.inr rfl)).trans (Fe.wi (Or.inl rfl)), fun j hj => by rw [ji_wi, if_neg (by omega), ji_wi, if_neg (by omega)], i + 1, K1, by omega, ?_⟩
    rw [hR]
    exact ⟨rfl, rfl, by rw [ji_wi, if_neg (by omega), ji_wi, if_pos ⟨rfl, rfl⟩]⟩
  refine jE_of (as := [jP 93, jI (k : Int)]) (Nat.le_of_ble_eq_true rfl) (c_38_0 (by omega) L K ?_)
  rw [Int.toNat_natCast]
  refine ⟨fun c1 => ⟨by omega, by omega, ky _ ?_⟩, fun c1 => ⟨fun c2 => ⟨by omega, by omega, ky _ ?_⟩, fun c2 => ⟨fun c3 => ⟨by omega, by omega, ky _ ?_⟩, fun c3 L1 K1 => ?_⟩⟩⟩
  · unfold pRel; rw [if_pos c1]
  · unfold pRel; rw [if_neg c1, if_neg (by omega), if_pos c2]
  · unfold pRel; rw [if_neg c1, if_pos c3]
  · refine ⟨0, rfl, L1, Fe.wi (Or.inl rfl), fun j hj => by rw [ji_wi, if_neg (by omega)], i, K1, Nat.le_refl _, ?_⟩
    unfold pRel
    rw [if_neg c1, if_neg c3, if_neg c2]
    exact ⟨rfl, flt_r⟩
/-- the indices around go, whatever they are -/
theorem m_45f (hd : 10 ≤ d) (L : Ly p h) (K : TokR T e i h) {x : Int} : ∃ h', jE d 45 [jP 93, jI x] h none h' ∧ Ly p h' ∧ E43 p h h' ∧ TokR T e i h' ∧ ji h' 37 5 = ji h 37 5 := by
  obtain ⟨d, rfl⟩ : ∃ d', d = d' + 1 := ⟨d - 1, by omega⟩
  have hT := L.iT'
  obtain ⟨v, h', hE, rfl, r⟩ := jE_of (d := d) (y := 45) (h := h) (as := [jP 93, jI x]) (P := fun v h' => v = none ∧ Ly p h' ∧ E43 p h h' ∧ TokR T e i h' ∧ ji h' 37 5 = ji h 37 5) (Nat.le_of_ble_eq_true rfl) (c_45_0 (by omega) L K (fun L1 K1 => ⟨rfl, L1, (E43.swi (by omega)).trans (E43.swi (by omega)), K1, by rw [ji_wi, if_neg (by omega), ji_wi, if_neg (by omega)]⟩))
  exact ⟨h', hE, r⟩
theorem slO_0 (sl : List Int) : slO sl 0 = sl.getD 0 (-1) ∧ slO sl 1 = sl.getD 1 (-1) := by
  unfold slO
  refine ⟨?_, ?_⟩
  · by_cases z : sl.length = 0
    · rw [if_pos (by omega), getD_len _ _ (by omega)]
    · rw [if_neg (by omega)]; rfl
  · by_cases z : sl.length ≤ 1
    · rw [if_pos (by omega), getD_len _ _ (by omega)]
    · rw [if_neg (by omega)]; rfl
abbrev ZR (D a : Nat) : Prop := a = 37 ∨ a = 93 ∨ a = 94 ∨ a = D ∨ (D + 1 ≤ a ∧ a ≤ D + 4) ∨ (D + 11 ≤ a ∧ a ≤ D + 13) ∨ (D + 22 ≤ a ∧ a ≤ D + 25)
abbrev ZQ (D a : Nat) : Prop := a = 37 ∨ a = 93 ∨ a = 94 ∨ (D + 1 ≤ a ∧ a ≤ D + 4) ∨ (D + 22 ≤ a ∧ a ≤ D + 25)
/-- a rule, behind its colon -/
theorem rule_in (hd : 41 ≤ d) (H : TxR p T e i h c) (O : okD c) (hr : (dR c).length < 10) {nm : List Int} {gg : NmL} {sl : List Int} {i5 : Nat} {h5 : AH} (hi : i + 2 ≤ i5) (L5 : Ly p h5) (K5 : TokR T e i5 h5) (X5 : SmX (pT p) (dC c) ((dN c ++ [(nm, 3, ((dR c).length : Int))]) ++ gg) sl h5) (O5 : okX (dC c) ((dN c ++ [(nm, 3, ((dR c).length : Int))]) ++ gg) sl) (hg : gg.length = sl.length) (hsl : sl.length ≤ 2) (F5 : Fm (ZQ (pT p)) h h5) (x5 : jx h5 = jx h) (R5 : ThR h5 (pT p + 22) (dS c) (dR c ++ [(sl.getD 0 (-1), sl.getD 1 (-1))])) (eP : pRule T c i = xb (pSum T (dC c) 8 ((dN c ++ [(nm, 3, ((dR c).length : Int))]) ++ gg) sl i5) fun a => xb (pRel T a.2) fun r => xb (pSum T (dC c) 8 ((dN c ++ [(nm, 3, ((dR c).length : Int))]) ++ gg) sl r.2) fun b => xb (pTake T 159 b.2) fun j => .ok ((dN c ++ [(nm, 3, ((dR c).length : Int))], dS c, dT c, dV c, dX c, dB c, dR c ++ [(sl.getD 0 (-1), sl.getD 1 (-1))], dL c ++ [(r.1, a.1, b.1)], c.2.2.2.2.2.2.2.2), j)) : WF d 37 86 [jP 93, jI ((dR c).length : Int)] [] h5 (TxP p T e i h (pRule T c i)) := by
  obtain ⟨L, K, N, B, W, Wb, A, V⟩ := H
  have hT := L.iT'
  have hx := L.nx
  have hN : NF = 197 := rfl
  have hS := O.1.2.1
  generalize hNN : (dN c ++ [(nm, 3, ((dR c).length : Int))]) ++ gg = NN at X5 O5 eP
  generalize ht : szO (dS c) (sl.getD 0 (-1)) * szO (dS c) (sl.getD 1 (-1)) = t
  have tb : 0 ≤ t ∧ t ≤ 64 := by rw [← ht]; exact sz2_r hS _ _
  refine c_37_86 (by omega) L5 K5 ⟨_, _, m_44 (by omega) L5 K5 X5.2.2.2.2 (by omega), L5, i5, K5, _, _, m_53 (by omega) L5 L5.iT X5.2.1 hS, L5, i5, K5, _, _, m_44 (by omega) L5 K5 X5.2.2.2.2 (by omega), L5, i5, K5, _, _, m_53 (by omega) L5 L5.iT X5.2.1 hS, L5, i5, K5, ?_⟩
  rw [(slO_0 sl).1, (slO_0 sl).2, show szO (dC c).1 (sl.getD 0 (-1)) * szO (dC c).1 (sl.getD 1 (-1)) = t from ht, w32_i (by omega) (by omega), Int.toNat_natCast]
  intro L6 K6
  have W5 : jl h5 (pT p) 14 = dWk c := by rw [F5.jl (by omega) (by omega) 14]; exact W
  have H6 : SmH p (dC c) NN sl T e i5 (wl h5 93 7 t) t (dWk c) := ⟨L6, K6, X5.cg (fun a k _ => rfl), by rw [jl_wl, if_pos ⟨rfl, rfl⟩], by rw [jl_wl, if_neg (by omega)]; exact W5, tb.1, by omega, Wb.1, by omega⟩
  obtain ⟨u, h7, hE7, v7, rfl, L7, D7, i7, K7, hi7, hb7, R⟩ := (levels (p := p) (T := T) (e := e) (C := dC c) 8 (by decide)).2 d NN sl i5 (wl h5 93 7 t) t (dWk c) (by omega) H6 O5 (by omega)
  have x6 : jx (wl h5 93 7 t) = jx h := x5
  have F7 : Fm (ZR (pT p)) h h7 := ((F5.mono (fun a _ z => by omega)).trans (Fm.wl (by omega))).trans (D7.1.mono (fun a _ z => by omega))
  have F8 : Fm (ZR (pT p)) h (wr h7 (pT p + 12) (dR c).length v7) := F7.trans (Fm.wr (by omega))
  have toD : ∀ {g}, Fm (ZR (pT p)) h g → DT p h g := fun f => f.mono (fun a _ z => by omega)
  have x7 := L7.nx
  refine ⟨v7, h7, hE7, L7, i7, K7, by omega, by omega, ?_⟩
  rw [jr_wr, if_pos ⟨rfl, rfl⟩]
  cases hB : pSum T (dC c) 8 NN sl i5 with
  | error q =>
    rw [hB] at R eP
    obtain ⟨r1, rf⟩ := R
    subst r1
    exact ⟨Or.inl rfl, by omega, by omega, by decide, fun _ L8 K8 => tx_bad eP L8 K8 (toD F8) (by omega) (by show jx h7 ≤ _; omega) rf, fun z => absurd rfl z⟩
  | ok a =>
    rw [hB] at R eP
    obtain ⟨r1, r3, r4, r5, r6, r7⟩ := R
    have eP : pRule T c i = xb (pRel T i7) fun r => xb (pSum T (dC c) 8 NN sl r.2) fun b => xb (pTake T 159 b.2) fun j => .ok ((dN c ++ [(nm, 3, ((dR c).length : Int))], dS c, dT c, dV c, dX c, dB c, dR c ++ [(sl.getD 0 (-1), sl.getD 1 (-1))], dL c ++ [(r.1, a.1, b.1)], c.2.2.2.2.2.2.2.2), j) := by rw [eP, r1]; rfl
    have q6 : jt h7 v7 = 6 := (tR_p6 r6).resolve_left (by omega)
    refine ⟨Or.inr q6, by omega, by omega, by omega, fun z => by omega, fun _ L8 K8 => ?_⟩
    obtain ⟨u, h9, hE9, v9, rfl, L9, f9, k9, i9, K9, hi9, R⟩ := r_38 (d := d) (by omega) L8 K8 hr
    have x8 : jx (wr h7 (pT p + 12) (dR c).length v7) = jx h7 := rfl
    have x9 : jx h9 = jx h7 := f9.2
    have F9 : Fm (ZR (pT p)) h h9 := F8.trans (f9.1.mono (fun a _ z => by omega))
    refine ⟨v9, h9, hE9, L9, i9, K9, ?_⟩
    cases hB2 : pRel T i7 with
    | error q =>
      rw [hB2] at R eP
      exact ⟨fun _ => tx_bad eP L9 K9 (toD F9) (by omega) (by omega) R.2, fun z => absurd R.1 z⟩
    | ok rl =>
      rw [hB2] at R eP
      obtain ⟨s1, s2, s3⟩ := R
      have eP : pRule T c i = xb (pSum T (dC c) 8 NN sl i9) fun b => xb (pTake T 159 b.2) fun j => .ok ((dN c ++ [(nm, 3, ((dR c).length : Int))], dS c, dT c, dV c, dX c, dB c, dR c ++ [(sl.getD 0 (-1), sl.getD 1 (-1))], dL c ++ [(rl.1, a.1, b.1)], c.2.2.2.2.2.2.2.2), j) := by rw [eP, s2]; rfl
      have j9 : ∀ x k, x < NF → ¬ x = 37 → ¬ x = pT p + 11 → ji h9 x k = ji h7 x k := fun x k z1 z2 z3 => by rw [f9.1.ji (by show x < jx h7; omega) (by omega) k]; rfl
      have l9 : ∀ x k, x < NF → ¬ x = 37 → ¬ x = pT p + 11 → jl h9 x k = jl h7 x k := fun x k z1 z2 z3 => by rw [f9.1.jl (by show x < jx h7; omega) (by omega) k]; rfl
      have H9 : SmH p (dC c) NN sl T e i9 h9 t (dWk c + wkc (dC c).1 a.1 t) := ⟨L9, K9, r7.2.2.1.cg (fun x k z => j9 x k (by omega) (by omega) (by omega)), by rw [l9 _ _ (by omega) (by omega) (by omega)]; exact r7.2.2.2.1, by rw [l9 _ _ (by omega) (by omega) (by omega)]; exact r7.2.2.2.2.1, r7.2.2.2.2.2.1, r7.2.2.2.2.2.2.1, r7.2.2.2.2.2.2.2.1, by have := r7.2.2.2.2.2.2.2.2; omega⟩
      obtain ⟨u, h10, hE10, v10, rfl, L10, D10, i10, K10, hi10, hb10, R⟩ := (levels (p := p) (T := T) (e := e) (C := dC c) 8 (by decide)).2 d NN sl i9 h9 t (dWk c + wkc (dC c).1 a.1 t) (by omega) H9 O5 (by omega)
      have F10 : Fm (ZR (pT p)) h h10 := F9.trans (D10.1.mono (fun a _ z => by omega))
      have F11 : Fm (ZR (pT p)) h (wr h10 (pT p + 13) (dR c).length v10) := F10.trans (Fm.wr (by omega))
      have x10 := L10.nx
      refine ⟨fun z => by omega, fun _ => ⟨v10, h10, hE10, L10, i10, K10, by omega, by omega, ?_⟩⟩
      cases hB3 : pSum T (dC c) 8 NN sl i9 with
      | error q =>
        rw [hB3] at R eP
        obtain ⟨t1, rf⟩ := R
        subst t1
        refine ⟨Or.inl rfl, fun L11 K11 => ?_⟩
        obtain ⟨h12, hE12, L12, f12, K12, q12⟩ := m_45f (d := d) (by omega) L11 K11 (x := 0)
        have e12 : jr h12 (pT p + 13) (dR c).length = 0 := by rw [f12.1.jr (by show _ < jx h10; omega) (by omega), jr_wr, if_pos ⟨rfl, rfl⟩]
        refine ⟨h12, hE12, L12, i10, K12, by omega, by omega, ?_⟩
        rw [e12]
        have x12 : jx h12 = jx h10 := f12.2.1
        exact ⟨by decide, fun _ => tx_bad eP L12 K12 (toD (F11.trans (f12.1.mono (fun a _ z => by omega)))) (by omega) (by omega) (q12.trans rf), fun z => absurd rfl z⟩
      | ok b =>
        rw [hB3] at R eP
        obtain ⟨t1, t3, t4, t5, t6, t7⟩ := R
        have eZ : pRule T c i = xb (pTake T 159 i10) fun j => .ok ((dN c ++ [(nm, 3, ((dR c).length : Int))], dS c, dT c, dV c, dX c, dB c, dR c ++ [(sl.getD 0 (-1), sl.getD 1 (-1))], dL c ++ [(rl.1, a.1, b.1)], c.2.2.2.2.2.2.2.2), j) := by rw [eP, t1]; rfl
        have q10 : jt h10 v10 = 6 := (tR_p6 t6).resolve_left (by omega)
        refine ⟨Or.inr q10, fun L11 K11 => ?_⟩
        subst hNN
        have X11 : SmX (pT p) (dC c) ((dN c ++ [(nm, 3, ((dR c).length : Int))]) ++ gg) ([] ++ sl) (wr h10 (pT p + 13) (dR c).length v10) := t7.2.2.1.cg (fun x k z => rfl)
        obtain ⟨h12, hE12, L12, f12, K12, X12⟩ := m_45 (d := d) (by omega) L11 K11 X11 O5 hg
        have x12 : jx h12 = jx h10 := f12.2.1
        have i12 : ∀ x k, x < NF → ¬ ZI (pT p) x → ji h12 x k = ji h10 x k := fun x k z1 z2 => f12.1.ji (by show x < jx h10; omega) z2 k
        have r12 : ∀ x k, x < NF → ¬ ZI (pT p) x → jr h12 x k = jr (wr h10 (pT p + 13) (dR c).length v10) x k := fun x k z1 z2 => f12.1.jr (by show x < jx h10; omega) z2 k
        have e12 : jr h12 (pT p + 13) (dR c).length = v10 := by rw [r12 _ _ (by omega) (by omega), jr_wr, if_pos ⟨rfl, rfl⟩]
        refine ⟨h12, hE12, L12, i10, K12, by omega, by omega, ?_⟩
        rw [e12]
        have F12 : Fm (ZR (pT p)) h h12 := F11.trans (f12.1.mono (fun a _ z => by omega))
        refine ⟨by omega, fun z => by omega, fun _ => ⟨fun c1 L13 K13 => ?_, fun c1 L13 K13 => ?_⟩⟩
        · rw [take_y c1] at eZ
          rw [eZ]
          have F13 : Fm (ZR (pT p)) h (wi h12 37 4 ((i10 + 1 : Nat) : Int)) := F12.trans (Fm.wi (Or.inl rfl))
          have KF := KA.fm L F13 (fun x z => by omega)
          have kk := B.ka KF
          have x13 : jx (wi h12 37 4 ((i10 + 1 : Nat) : Int)) = jx h10 := x12
          have ft : ∀ x a, tR h x 3 NF (jx h) a 0 → tR (wi h12 37 4 ((i10 + 1 : Nat) : Int)) x 3 NF (jx (wi h12 37 4 ((i10 + 1 : Nat) : Int))) a 0 := fun x a z => tR_mono z (Nat.le_refl _) KF.2.2 (fun c z1 z2 => KF.2.1 c z1 z2)
          have e93 : ∀ x k, x < NF → ¬ x = 37 → ji (wi h12 37 4 ((i10 + 1 : Nat) : Int)) x k = ji h12 x k := fun x k z1 z2 => by rw [ji_wi, if_neg (by omega)]
          have D67i : ∀ k, ji h7 (pT p) k = ji h (pT p) k := fun k => by rw [(D7.2 k).1]; show ji h5 (pT p) k = _; exact F5.ji (by omega) (by omega) k
          have D67r : ∀ k, jr h7 (pT p) k = jr h (pT p) k := fun k => by rw [(D7.2 k).2]; show jr h5 (pT p) k = _; exact F5.jr (by omega) (by omega) k
          have eDi : ∀ k, ji h12 (pT p) k = ji h (pT p) k := fun k => by rw [i12 _ _ (by omega) (by omega), (D10.2 k).1, j9 _ _ (by omega) (by omega) (by omega), D67i]
          have eDr : ∀ k, jr h12 (pT p) k = jr h (pT p) k := fun k => by
            rw [r12 _ _ (by omega) (by omega), jr_wr, if_neg (by omega), (D10.2 k).2, f9.1.jr (by show _ < jx h7; omega) (by omega), jr_wr, if_neg (by omega), D67r]
          have ew : dWk (dN c ++ [(nm, 3, ((dR c).length : Int))], dS c, dT c, dV c, dX c, dB c, dR c ++ [(sl.getD 0 (-1), sl.getD 1 (-1))], dL c ++ [(rl.1, a.1, b.1)], c.2.2.2.2.2.2.2.2) = dWk c + wkc (dS c) a.1 t + wkc (dS c) b.1 t := by
            show rWk (dS c) (dR c ++ [(sl.getD 0 (-1), sl.getD 1 (-1))]) (dL c ++ [(rl.1, a.1, b.1)]) + (if dG c = 0 then 0 else wkc (dS c) (dE c) 1) = (rWk (dS c) (dR c) (dL c) + (if dG c = 0 then 0 else wkc (dS c) (dE c) 1)) + _ + _
            rw [rWk_snoc _ _ _ _ _ O.2.2.2.1]
            show rWk (dS c) (dR c) (dL c) + (wkc (dS c) a.1 (szO (dS c) (sl.getD 0 (-1)) * szO (dS c) (sl.getD 1 (-1))) + wkc (dS c) b.1 (szO (dS c) (sl.getD 0 (-1)) * szO (dS c) (sl.getD 1 (-1)))) + _ = _
            rw [ht]; omega
          refine ⟨1, rfl, L13, toD F13, i10 + 1, K13, by omega, by omega, rfl, rfl, by omega, L13, K13, ?_, ?_, ?_, ?_, ?_, by show (dV c).length ≤ i10 + 1; omega⟩
          · exact X12.1.cg (fun x k z1 z2 => e93 x k (by omega) (by omega))
          · refine ⟨kk.1 (fun x z1 z2 z => by omega), kk.2.1 (fun x z1 z2 z => by omega), kk.2.2.1 (fun x z1 z2 z => by omega), ?_, ⟨?_, fun k hk => ?_⟩, kk.2.2.2.2.2.1 (fun z => by omega) (fun z => by omega), fun k hk => ?_, ?_, fun z => ?_, fun z => ?_⟩
            · have g22 : ∀ x k, pT p + 22 ≤ x → x ≤ pT p + 25 → ji h9 x k = ji h5 x k := fun x k z1 z2 => by rw [j9 x k (by omega) (by omega) (by omega), D7.1.ji (by omega) (by omega) k]; rfl
              exact R5.cg (fun x k z1 z2 => by rw [e93 x k (by omega) (by omega), i12 x k (by omega) (by omega), D10.1.ji (by omega) (by omega) k, g22 x k (by omega) (by omega)])
            · rw [e93 _ _ (by omega) (by omega), eDi]; exact B.2.2.2.2.1.1
            · rw [(KF.1 (pT p + 8) k (by omega) (by omega) (by omega)).1]; exact B.2.2.2.2.1.2 k hk
            · have hk : k < (dL c ++ [(rl.1, a.1, b.1)]).length := hk
              rw [List.length_append] at hk
              have hk : k < (dL c).length + 1 := hk
              have ol := O.2.2.2.1
              show ji _ (pT p + 11) k = ((dL c ++ [(rl.1, a.1, b.1)]).getD k zL).1 ∧ tR _ ((dL c ++ [(rl.1, a.1, b.1)]).getD k zL).2.1 3 NF _ (jr _ (pT p + 12) k) 0 ∧ tR _ ((dL c ++ [(rl.1, a.1, b.1)]).getD k zL).2.2 3 NF _ (jr _ (pT p + 13) k) 0
              rw [getD_snoc, e93 _ _ (by omega) (by omega), i12 _ _ (by omega) (by omega), D10.1.ji (by omega) (by omega) k, jr_wi, jr_wi, r12 _ _ (by omega) (by omega), r12 _ _ (by omega) (by omega), jr_wr, jr_wr, if_neg (by omega), D10.1.jr (by omega) (by omega) k, f9.1.jr (by show _ < jx h7; omega) (by omega), jr_wr]
              by_cases ck : k < (dL c).length
              · rw [if_pos ck, if_neg (by omega), if_neg (by omega), k9 k (by omega), D10.1.jr (by omega) (by omega) k, f9.1.jr (by show _ < jx h7; omega) (by omega), jr_wr, if_neg (by omega)]
                have c11 : ji (wr h7 (pT p + 12) (dR c).length v7) (pT p + 11) k = ji h (pT p + 11) k := by
                  show ji h7 (pT p + 11) k = _
                  rw [D7.1.ji (by omega) (by omega) k]
                  show ji h5 (pT p + 11) k = _
                  exact F5.ji (by omega) (by omega) k
                have c12 : ∀ y, y = pT p + 12 ∨ y = pT p + 13 → jr h7 y k = jr h y k := fun y z => by
                  rw [D7.1.jr (by omega) (by omega) k]
                  show jr h5 y k = _
                  exact F5.jr (by omega) (by omega) k
                rw [c11, c12 _ (Or.inl rfl), c12 _ (Or.inr rfl)]
                have z := B.2.2.2.2.2.2.1 k ck
                exact ⟨z.1, ft _ _ z.2.1, ft _ _ z.2.2⟩
              · have ek : k = (dR c).length := by omega
                rw [if_neg ck, if_pos (by omega), ek, if_pos ⟨rfl, rfl⟩, if_pos ⟨rfl, rfl⟩]
                refine ⟨s3, ?_, ?_⟩
                · have u1 : tR h10 a.1 3 NF (jx h10) v7 0 := D10.tree L9 (x := a.1) (tR_mono r6 (by omega) (Nat.le_refl _) (fun y y1 y2 => ?_) : tR h9 a.1 3 NF (jx h9) v7 0) (Nat.le_refl _) (Nat.le_refl _) |> fun z => tR_mono z (Nat.le_refl _) (by have := D10.1.2.2.1; omega) (fun y _ _ => ⟨rfl, fun _ => rfl, fun _ => rfl⟩)
                  · refine tR_mono u1 (Nat.le_refl _) (by omega) (fun y y1 y2 => ?_)
                    have m1 := f12.1.2.1 y (by show y < jx h10; omega)
                    refine ⟨m1.1, fun k => ?_, fun k => ?_⟩
                    · rw [ji_wi, if_neg (by omega), f12.1.ji (by show y < jx h10; omega) (by omega)]; rfl
                    · rw [jr_wi, f12.1.jr (by show y < jx h10; omega) (by omega), jr_wr, if_neg (by omega)]
                  · have m1 := f9.1.2.1 y (by show y < jx h7; omega)
                    refine ⟨m1.1, fun k => ?_, fun k => ?_⟩
                    · rw [f9.1.ji (by show y < jx h7; omega) (by omega)]; rfl
                    · rw [f9.1.jr (by show y < jx h7; omega) (by omega), jr_wr, if_neg (by omega)]
                · refine tR_mono t6 (by omega) (by omega) (fun y y1 y2 => ?_)
                  have m1 := f12.1.2.1 y (by show y < jx h10; omega)
                  refine ⟨m1.1, fun k => ?_, fun k => ?_⟩
                  · rw [ji_wi, if_neg (by omega), f12.1.ji (by show y < jx h10; omega) (by omega)]; rfl
                  · rw [jr_wi, f12.1.jr (by show y < jx h10; omega) (by omega), jr_wr, if_neg (by omega)]
            · rw [e93 _ _ (by omega) (by omega), eDi]; exact B.2.2.2.2.2.2.2.1
            · rw [jr_wi, eDr]; exact B.2.2.2.2.2.2.2.2.1 z
            · rw [jr_wi, eDr]; exact ft _ _ (B.2.2.2.2.2.2.2.2.2 z)
          · rw [ew]
            show jl h12 (pT p) 14 = _
            rw [f12.1.jl (by show _ < jx h10; omega) (by omega)]
            exact t7.2.2.2.2.1
          · rw [ew]
            have y1 := t7.2.2.2.2.2.2.2.1
            have y2 := t7.2.2.2.2.2.2.2.2
            have e1 : (dC c).1 = dS c := rfl
            rw [e1] at y1 y2
            omega
          · rw [e93 _ _ (by omega) (by omega)]; exact X12.2.2.2.2.1
        · rw [take_n c1] at eZ
          exact tx_bad eZ L13 K13 (toD (F12.trans (Fm.wi (Or.inl rfl)))) (by omega) (by show jx h12 ≤ _; omega) flt_r
end RUL
