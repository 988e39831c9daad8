/-! THE READER: a rule's head -/
section RU2
variable {p : Lpar} {d D : Nat} {h h' h0 h1 h2 : AH} {T : Txt} {e i i0 : Nat} {c : Dc} {S : List (Int × Int)}
theorem rule_c (hd : 41 ≤ d) (H : TxR p T e i h c) (O : okD c) (hr : (dR c).length < 10) {nm : List Int} {gg : NmL} {sl : List Int} {i5 : Nat} {h4 : AH} (hi : i + 2 ≤ i5) (L4 : Ly p h4) (K4 : TokR T e i5 h4) (X4 : SmX (pT p) (dC c) ((dN c ++ [(nm, 3, ((dR c).length : Int))]) ++ gg) sl h4) (O4 : okX (dC c) ((dN c ++ [(nm, 3, ((dR c).length : Int))]) ++ gg) sl) (hg : gg.length = sl.length) (hsl : sl.length ≤ 2) (F4 : Fm (ZI (pT p)) h h4) (x4 : jx h4 = jx h) (eP : pRule T c i = xb (pSum T (dC c) 8 ((dN c ++ [(nm, 3, ((dR c).length : Int))]) ++ gg) sl i5) fun a => xb (pRel T a.2) fun r => xb (pSum T (dC c) 8 ((dN c ++ [(nm, 3, ((dR c).length : Int))]) ++ gg) sl r.2) fun b => xb (pTake T 159 b.2) fun j => .ok ((dN c ++ [(nm, 3, ((dR c).length : Int))], dS c, dT c, dV c, dX c, dB c, dR c ++ [(sl.getD 0 (-1), sl.getD 1 (-1))], dL c ++ [(r.1, a.1, b.1)], c.2.2.2.2.2.2.2.2), j)) : ∃ x20 h15, jE d 44 [jP 93, jI 0] h4 (some (jI x20)) h15 ∧ Ly p h15 ∧ ∃ i18, TokR T e i18 h15 ∧ ∃ x26 h21, jE d 44 [jP 93, jI 1] h15 (some (jI x26)) h21 ∧ Ly p h21 ∧ ∃ i24, TokR T e i24 h21 ∧ ∃ h27, jE d 59 [jP (pT p + 22), jI x20, jI x26] h21 none h27 ∧ Ly p h27 ∧ ∃ i30, TokR T e i30 h27 ∧ WF d 37 86 [jP 93, jI ((dR c).length : Int)] [] h27 (TxP p T e i h (pRule T c i)) := by
  have H0 := H
  obtain ⟨L, K, N, B, W, Wb, A, V⟩ := H
  have hT := L.iT'
  have hx := L.nx
  have hN : NF = 197 := rfl
  refine ⟨_, _, m_44 (by omega) L4 K4 X4.2.2.2.2 (by omega), L4, i5, K4, _, _, m_44 (by omega) L4 K4 X4.2.2.2.2 (by omega), L4, i5, K4, ?_⟩
  rw [(slO_0 sl).1, (slO_0 sl).2]
  have R4 : ThR h4 (pT p + 22) (dS c) (dR c) := B.2.2.2.1.cg (fun a k z1 z2 => F4.ji (by omega) (by omega) k)
  obtain ⟨h5, hE5, L5, f5, R5⟩ := m_59 (d := d) (by omega) L4 L4.iT ⟨L4.iT, Or.inr (Or.inr ⟨rfl, rfl⟩)⟩ X4.2.1 O.1.2.1 R4 O.2.1 hr (a := sl.getD 0 (-1)) (b := sl.getD 1 (-1))
  have g5 : ∀ a k, a < NF → ¬ (pT p + 22 ≤ a ∧ a ≤ pT p + 22 + 3) → ji h5 a k = ji h4 a k := fun a k z1 z2 => f5.1.ji (by omega) z2 k
  have K5 : TokR T e i5 h5 := K4.cg (fun a k z1 z2 => g5 a k (by omega) (by omega))
  refine ⟨h5, hE5, L5, i5, K5, ?_⟩
  exact rule_in hd H0 O hr hi L5 K5 (X4.cg (fun a k z => g5 a k (by omega) (by omega))) O4 hg hsl ((F4.mono (fun a _ z => by omega)).trans (f5.1.mono (fun a _ z => by omega))) (f5.2.trans x4) R5 eP
theorem r_37 (hd : 42 ≤ d) (H : TxR p T e i h c) (O : okD c) (g : tkG T) (hk : tkK T i = 13) : ∃ u h', jE d 37 [jP 93] h u h' ∧ TxP p T e i h (pRule T c i) u h' := by
  obtain ⟨d, rfl⟩ : ∃ d', d = d' + 1 := ⟨d - 1, by omega⟩
  have H0 := H
  have X0 := H.smx
  obtain ⟨L, K, N, B, W, Wb, A, V⟩ := H
  have hT := L.iT'
  have hx := L.nx
  have hN : NF = 197 := rfl
  have cn := O.cnt
  have gl : (dN c).length ≤ 28 + 0 := O.1.2.2.2.2.2.2.2.2.1
  refine jE_of (as := [jP 93]) (Nat.le_of_ble_eq_true rfl) (c_37_0 (by omega) L K ?_)
  rw [B.2.2.2.1.1]
  obtain ⟨v, h1, hE, L1, f1, i1, K1, hi1, R⟩ := r_33 (d := d) (by omega) L K N O.1.1 (by omega) (ns hk (by decide)) (s := 3) (n := (dR c).length) (m := 10)
  refine ⟨v, h1, hE, L1, i1, K1, ?_⟩
  have D1 : DT p h h1 := DT.fe f1 (fun a z => by omega)
  have x1 := f1.2
  have eP : pRule T c i = xb (pName T (dN c) (dR c).length 10 i) fun q => xb (pFor T (dN c ++ [(q.1, 3, ((dR c).length : Int))]) q.2) fun n => xb (pTake T 158 n.2.2) fun j => xb (pSum T (dC c) 8 n.1 n.2.1 j) fun a => xb (pRel T a.2) fun r => xb (pSum T (dC c) 8 n.1 n.2.1 r.2) fun b => xb (pTake T 159 b.2) fun j => .ok ((dN c ++ [(q.1, 3, ((dR c).length : Int))], dS c, dT c, dV c, dX c, dB c, dR c ++ [(n.2.1.getD 0 (-1), n.2.1.getD 1 (-1))], dL c ++ [(r.1, a.1, b.1)], c.2.2.2.2.2.2.2.2), j) := rfl
  cases hB : pName T (dN c) (dR c).length 10 i with
  | error q =>
    rw [hB] at R eP
    exact ⟨fun _ => tx_bad eP L1 K1 D1 hi1 (by omega) R.2, fun z => absurd R.1 z⟩
  | ok r =>
    have z1 := pName_ok g hB
    rw [hB] at R eP
    obtain ⟨r1, r2, N1⟩ := R
    have j1 : ∀ a k, a < NF → ¬ ZN (pT p) a → ji h1 a k = ji h a k := fun a k z1 z2 => f1.1.ji (by omega) z2 k
    have X1 : SmX (pT p) (dC c) (dN c ++ [(r.1, 3, ((dR c).length : Int))]) [] h1 := ⟨N1, X0.2.1.cg (fun a k z1 z2 => j1 a k (by omega) (by omega)), X0.2.2.1.cg (fun a k z1 z2 => j1 a k (by omega) (by omega)), X0.2.2.2.1.cg (fun a k z1 z2 => j1 a k (by omega) (by omega)), by rw [j1 _ _ (by omega) (by omega)]; exact A, fun k hk => absurd hk (by simp)⟩
    have O1 := O.rule z1.1 z1.2.1 z1.2.2.1
    have hi2 := z1.2.2.2.1
    have eP : pRule T c i = xb (pFor T (dN c ++ [(r.1, 3, ((dR c).length : Int))]) i1) fun n => xb (pTake T 158 n.2.2) fun j => xb (pSum T (dC c) 8 n.1 n.2.1 j) fun a => xb (pRel T a.2) fun r => xb (pSum T (dC c) 8 n.1 n.2.1 r.2) fun b => xb (pTake T 159 b.2) fun j => .ok ((dN c ++ [(tkN T (i + 1), 3, ((dR c).length : Int))], dS c, dT c, dV c, dX c, dB c, dR c ++ [(n.2.1.getD 0 (-1), n.2.1.getD 1 (-1))], dL c ++ [(r.1, a.1, b.1)], c.2.2.2.2.2.2.2.2), j) := by rw [eP, r2, ← z1.2.2.2.2.2]; rfl
    rw [← z1.2.2.2.2.2] at eP
    refine ⟨fun z => by omega, fun _ => ⟨fun c1 L2 K2 => ?_, fun c1 => ⟨fun c2 L2 K2 => ?_, fun c2 L2 K2 => ?_⟩⟩⟩
    · have eF : pFor T (dN c ++ [(r.1, 3, ((dR c).length : Int))]) i1 = pInd T (dN c ++ [(r.1, 3, ((dR c).length : Int))]) [] (i1 + 1) := by unfold pFor; rw [if_pos c1]
      obtain ⟨u, h8, hE8, v8, rfl, L8, f8, i8, K8, hi8, R⟩ := r_43 (d := d) (by omega) L2 K2 (X1.tok L1.iT) O1 (by decide)
      refine ⟨v8, h8, hE8, L8, i8, K8, ?_⟩
      have x8 : jx h8 = jx h := f8.2.1.trans x1
      have F8 : Fm (ZI (pT p)) h h8 := ((f1.1.mono (fun a _ z => by omega)).trans (Fm.wi (Or.inl rfl))).trans f8.1
      rw [eF] at eP
      cases hB2 : pInd T (dN c ++ [(r.1, 3, ((dR c).length : Int))]) [] (i1 + 1) with
      | error q =>
        rw [hB2] at R eP
        exact ⟨fun _ => tx_bad eP L8 K8 (F8.mono (fun a _ z => by omega)) (by omega) (by omega) R.2, fun z => absurd R.1 z⟩
      | ok n =>
        rw [hB2] at R eP
        obtain ⟨nG, ns, ni⟩ := n
        obtain ⟨s1, s2, s3, X8, O8, gg, ss, q1, q2, q3, q4, q5⟩ := R
        have q2 : ns = ss := q2
        have q1 : nG = dN c ++ [(r.1, 3, ((dR c).length : Int))] ++ gg := q1
        have s2 : i8 = ni := s2
        subst q2 q1 s2
        refine ⟨fun z => by omega, fun _ => ⟨fun c2 L9 K9 => ?_, fun c2 L9 K9 => ?_⟩⟩
        · exact rule_c (nm := r.1) (by omega) H0 O z1.2.2.1 (by omega) L9 K9 (X8.tok L8.iT) O8 q3 q5 (F8.trans (Fm.wi (Or.inl rfl))) x8 (by
            rw [eP]
            show xb (pTake T 158 i8) _ = _
            rw [take_y c2]; rfl)
        · refine tx_bad (q := tkP T i8) ?_ L9 K9 ((F8.mono (fun a _ z => by omega)).trans DT.w37) (by omega) (by show jx h8 ≤ _; omega) flt_r
          rw [eP]
          show xb (pTake T 158 i8) _ = _
          rw [take_n c2]; rfl
    · have eF : pFor T (dN c ++ [(r.1, 3, ((dR c).length : Int))]) i1 = .ok (dN c ++ [(r.1, 3, ((dR c).length : Int))], [], i1) := by unfold pFor; rw [if_neg c1]
      rw [eF] at eP
      have O1' : okX (dC c) ((dN c ++ [(r.1, 3, ((dR c).length : Int))]) ++ []) [] := by rw [List.append_nil]; exact O1
      have X1' : SmX (pT p) (dC c) ((dN c ++ [(r.1, 3, ((dR c).length : Int))]) ++ []) [] (wi h1 37 4 ((i1 + 1 : Nat) : Int)) := by rw [List.append_nil]; exact X1.tok L1.iT
      exact rule_c (nm := r.1) (gg := []) (sl := []) (by omega) H0 O z1.2.2.1 (by omega) L2 K2 X1' O1' rfl (by decide) ((f1.1.mono (fun a _ z => by omega)).trans (Fm.wi (Or.inl rfl))) x1 (by
        rw [eP, List.append_nil]
        show xb (pTake T 158 i1) _ = _
        rw [take_y c2]; rfl)
    · have eF : pFor T (dN c ++ [(r.1, 3, ((dR c).length : Int))]) i1 = .ok (dN c ++ [(r.1, 3, ((dR c).length : Int))], [], i1) := by unfold pFor; rw [if_neg c1]
      rw [eF] at eP
      refine tx_bad (q := tkP T i1) ?_ L2 K2 (D1.trans DT.w37) (by omega) (by show jx h1 ≤ _; omega) flt_r
      rw [eP]
      show xb (pTake T 158 i1) _ = _
      rw [take_n c2]; rfl
end RU2
