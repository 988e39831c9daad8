/-! THE REFERENCE: a rule is told, the whole -/
section RRX
variable {p : Lpar} {d : Nat} {h h' h0 h1 g : AH} {T : Txt} {e i j k A A0 A1 A2 : Nat} {c : Dc} {v1 : Int} {z3 z4 : AV} {nm : List Int}
/-- the name stands -/
theorem ru_start (D : RDc h c i) (O : okD c) (F : Fq ZF h h1) (R : RT p T e h1) (K : RtR T e j h1) (a33 : ji h 141 33 = (A0 : Int)) (hn : okN nm) (hf : (lkNm (dN c) nm).1 = -1) (hr : (dR c).length < 10) (hE : g = wi (wi (wi (wi (wi h1 153 (dR c).length (c27 nm)) 141 20 (((dR c).length : Int) + 1)) 141 30 0) 154 (2 * (dR c).length) (-1)) 154 (2 * (dR c).length + 1) (-1)) : RuS p T e c (dN c ++ [(nm, 3, ((dR c).length : Int))]) [] A0 h j A0 g ∧ NmF c nm (dN c ++ [(nm, 3, ((dR c).length : Int))]) ∧ (∀ k, k < 2 → ji g 154 (2 * (dR c).length + k) = -1) := by
  have cn := O.cnt
  have s : ∀ a k, ¬ (a = 153 ∧ k = (dR c).length) → ¬ (a = 141 ∧ k = 20) → ¬ (a = 141 ∧ k = 30) → ¬ a = 154 → ji g a k = ji h1 a k := fun a k z1 z2 z3 z4 => by rw [hE, ji_wi, if_neg (by omega), ji_wi, if_neg (by omega), ji_wi, if_neg z3, ji_wi, if_neg z2, ji_wi, if_neg z1]
  have e3 : ji g 153 (dR c).length = c27 nm := by rw [hE, ji_wi, if_neg (by omega), ji_wi, if_neg (by omega), ji_wi, if_neg (by omega), ji_wi, if_neg (by omega), ji_wi, if_pos ⟨rfl, rfl⟩]
  have e20 : ji g 141 20 = (((dR c).length : Int) + 1) := by rw [hE, ji_wi, if_neg (by omega), ji_wi, if_neg (by omega), ji_wi, if_neg (by omega), ji_wi, if_pos ⟨rfl, rfl⟩]
  have e30 : ji g 141 30 = 0 := by rw [hE, ji_wi, if_neg (by omega), ji_wi, if_neg (by omega), ji_wi, if_pos ⟨rfl, rfl⟩]
  have e4 : ∀ k, k < 2 → ji g 154 (2 * (dR c).length + k) = -1 := fun k hk => by
    rw [hE, ji_wi]
    by_cases z : k = 1
    · rw [if_pos ⟨rfl, by omega⟩]
    · rw [if_neg (by omega), ji_wi, if_pos ⟨rfl, by omega⟩]
  have FW : Fq (fun a k => (a = 153 ∧ k = (dR c).length) ∨ (a = 141 ∧ (k = 20 ∨ k = 30)) ∨ (a = 154 ∧ 2 * (dR c).length ≤ k)) h1 g := by
    rw [hE]; exact ((((Fq.wi (by omega)).trans (Fq.wi (by omega))).trans (Fq.wi (by omega))).trans (Fq.wi (by omega))).trans (Fq.wi (by omega))
  clear hE
  have M1 : NmM h1 (dN c) (cnt c) := (D.fF F).1
  have M2 : NmM g (dN c ++ [(nm, ((3 : Nat) : Int), ((cnt c 3 : Nat) : Int))]) (n4 (cnR c) 0) := by
    have m0 := M1.1
    refine NmM.add (s := 3) (n := cnt c) M1 hn hf (by decide) rfl (fun t ht => ?_) ⟨cn.1, cn.2.1, cn.2.2.1, by show (dR c).length + 1 ≤ 10; omega, by show 0 ≤ 18; decide⟩ ⟨(s _ _ (by omega) (by omega) (by omega) (by omega)).trans m0.1, (s _ _ (by omega) (by omega) (by omega) (by omega)).trans m0.2.1, (s _ _ (by omega) (by omega) (by omega) (by omega)).trans m0.2.2.1, e20, e30⟩ (fun a k z1 z2 => s _ _ (fun y => z2 ⟨y.1, y.2⟩) (by omega) (by omega) (by omega)) e3
    unfold n4 cnR
    by_cases z4 : t = 4
    · subst z4; rfl
    · rw [if_neg z4, if_neg ht]
  have M2 : NmM g (dN c ++ [(nm, 3, ((dR c).length : Int))]) (n4 (cnR c) 0) := M2
  have B := (D.fF F).2.1
  exact ⟨⟨R.fq FW (fun a k z => by omega) (by omega) (fun k => by omega), ⟨M2, fun k hk => absurd hk (Nat.not_lt_zero k)⟩, B.cg (fun a k z => FW.i (by omega)), K.fq FW (fun k _ _ => by omega), by rw [FW.i (by omega), F.i (by omega)]; exact a33, (F.mono (fun a k z => by omega)).trans (FW.mono (fun a k z => by omega))⟩, ⟨fun e he => he, M2.2.2⟩, e4⟩
theorem ru_81 (hd : 24 ≤ d) (Rr : RRl h0 c A0) (O : okD c) (N : NmF c nm (dN c ++ [(nm, 3, ((dR c).length : Int))])) (hr : (dR c).length < 10) (O1 : okX (dC c) (dN c ++ [(nm, 3, ((dR c).length : Int))]) []) (S : RuS p T e c (dN c ++ [(nm, 3, ((dR c).length : Int))]) [] A0 h0 i A0 h) (w : ∀ k, k < 2 → ji h 154 (2 * (dR c).length + k) = -1) (hA : A0 ≤ 4 * i) : WF d 133 81 [jP 141, jI v1, jI ((dR c).length : Int), z3, z4] [] h (QR p T e h0 (xb (pFor T (dN c ++ [(nm, 3, ((dR c).length : Int))]) i) fun n => pR1 T c nm n.1 n.2.1 n.2.2)) := by
  have L := S.1.1
  have K := S.2.2.2.1
  have hL := O.2.2.2.1
  refine c_133_81 (by omega) L ?_
  rw [K.2.1]
  by_cases c1 : ¬ tkK T i = 19
  · have eF : pFor T (dN c ++ [(nm, 3, ((dR c).length : Int))]) i = .ok (dN c ++ [(nm, 3, ((dR c).length : Int))], [], i) := by unfold pFor; rw [if_neg c1]
    rw [eF, xb_pure]
    exact ⟨fun z => absurd z c1, fun _ => ru_sg hd Rr N hL hr O1 (show ([] : List Int).length ≤ 2 from Nat.zero_le 2) S ⟨w 0 (by omega), w 1 (by omega)⟩ hA⟩
  have c1 := Decidable.not_not.mp c1
  have eF : pFor T (dN c ++ [(nm, 3, ((dR c).length : Int))]) i = pInd T (dN c ++ [(nm, 3, ((dR c).length : Int))]) [] (i + 1) := by unfold pFor; rw [if_pos c1]
  rw [eF]
  obtain ⟨h2, hE2, L2, G2, K2⟩ := t_118 (d := d) (by omega) S.1 K (by rw [c1]; decide)
  have S2 := S.l G2 K2
  obtain ⟨u, h3, hE3, n, rfl, hn, L3, F3, R3⟩ := t_132 (d := d) (by omega) S2.1 K2 S2.2.1 (by decide)
  refine ⟨fun _ => ⟨h2, hE2, L2, c_133_94 (by omega) L2 ⟨n, h3, hE3, L3, c_133_99 (by omega) L3 ?_⟩⟩, fun z => absurd c1 z⟩
  have F03 : Fq (ZU (dR c).length A0) h0 h3 := S2.2.2.2.2.2.trans (F3.mono (fun a k z => by omega))
  cases hS : pInd T (dN c ++ [(nm, 3, ((dR c).length : Int))]) [] (i + 1) with
  | error x =>
    rw [hS] at R3
    exact f133_102 (by omega) hr (by omega) n h3 0 (by omega) L3 (nq R3) (hf_bad rfl (uP F03) R3)
  | ok r =>
    rw [hS] at R3
    obtain ⟨r1, K3, M3⟩ := R3
    have r1 : n + 0 = r.2.1.length := r1
    have pi := pInd_i hS
    obtain ⟨ok, ⟨gg, ss, g1, _⟩, _⟩ := pInd_ok (tkG_all T) O1 (by decide) hS
    rw [xb_pure]
    have S3 : RuS p T e c r.1 r.2.1 A0 h0 r.2.2 A0 h3 := ⟨S2.1.fX F3, M3, S2.2.2.1.cg (fun a k z => F3.i (by omega)), K3, (F3.i (by omega)).trans S2.2.2.2.2.1, F03⟩
    have N3 : NmF c nm r.1 := ⟨fun e he => by rw [g1]; exact List.mem_append.mpr (Or.inl he), N.2⟩
    have q := ru_102 (v1 := v1) hd Rr N3 hL hr ok (by omega) (by omega) n h3 0 (by omega) S3 (fun k hk => by rw [if_neg (by omega), F3.i (by omega), G2.i (by omega)]; exact w k hk)
    rw [← r1] at q
    exact q
theorem q_133 (hd : 25 ≤ d) (R : RT p T e h) (K : RtR T e i h) (hk : tkK T i = 13) (D : RDc h c i) (O : okD c) : ∃ w h', jE d 133 [jP 141] h w h' ∧ (w = none ∧ RdP p T e h (pRule T c i) h') := by
  obtain ⟨d, rfl⟩ : ∃ d', d = d' + 1 := ⟨d - 1, by omega⟩
  have cn := O.cnt
  obtain ⟨h1, hE1, L1, F1, K1⟩ := t_118 (d := d) (by omega) R K (by rw [hk]; decide)
  have F1 : Fq ZF h h1 := F1.toF
  refine jE_of (as := [jP 141]) (Nat.le_of_ble_eq_true rfl) (c_133_0 (by omega) R.1 ⟨h1, hE1, L1, ?_⟩)
  have e20 : ji h1 141 20 = ((dR c).length : Int) := (D.fF F1).1.1.2.2.2.1
  have eP := pRule_eq T c i
  rw [pName_eq cn.2.2.2] at eP
  by_cases c6 : (dR c).length = 10
  · rw [if_pos c6] at eP
    refine c_133_4 (by omega) L1 ⟨fun _ => ⟨fun _ L2 => ?_, fun z => absurd K1.2.2.2.2.2.2 z⟩, fun z => by omega⟩
    have h6 : ji (wi h1 141 6 (ji h1 141 3)) 141 6 = (tkP T (i + 1) : Int) := w6_r.trans K1.2.2.1
    exact c_133_21 (by omega) L2 ⟨-1, _, e_124 (by omega) L2 (nq h6), L2, c_133_26 (by omega) L2 ⟨fun z => absurd z (nq h6), fun _ => ⟨rfl, rd_bad eP L2 (F1.trans f6).toP h6⟩⟩⟩
  rw [if_neg c6, xb_pure] at eP
  refine c_133_4 (by omega) L1 ⟨fun z => by omega, fun _ => ?_⟩
  obtain ⟨v1, h3, hE3, L3, G3, S3⟩ := t_124 (d := d) (s := .ok (i + 1)) (by omega) (R.fF F1) K1 (D.fF F1).1
  have F3 := F1.trans G3
  refine c_133_21 (by omega) L1 ⟨v1, h3, hE3, L3, ?_⟩
  rcases S3.cs with ⟨q, hr, h6⟩ | ⟨a, hr, va, K3⟩
  · have hr : pNew T (dN c) (i + 1) = .error q := hr
    rw [hr] at eP
    exact c_133_26 (by omega) L3 ⟨fun z => absurd z (nq h6), fun _ => ⟨rfl, rd_bad eP L3 F3.toP h6⟩⟩
  have hr : pNew T (dN c) (i + 1) = .ok a := hr
  rw [hr, xb_pure] at eP
  obtain ⟨n1, n2, n3⟩ := pNew_ok hr
  have D0 := D
  obtain ⟨M, B, A, a33, hA, Rr⟩ := D
  have g20 : ji h3 141 20 = ((dR c).length : Int) := (G3.i (by omega)).trans e20
  refine c_133_26 (by omega) L3 ⟨fun _ => ?_, fun z => absurd K3.2.2.2.2.2.2 z⟩
  rw [g20]
  refine c_133_39 (by omega) L3 ⟨by omega, by omega, fun L4 => c_133_46 (by omega) L4 ?_⟩
  rw [Int.toNat_natCast, ji_wi, if_neg (by omega), g20, w32_i (x := ((dR c).length : Int) + 1) (by omega) (by omega)]
  refine fun L5 => c_133_56 (by omega) L5 (fun L6 => c_133_61 (by omega) L6 ?_)
  rw [i2z (by omega), Int.toNat_natCast]
  refine ⟨by omega, by omega, fun L7 => c_133_70 (by omega) L7 ?_⟩
  rw [i2a (by omega), Int.toNat_natCast]
  refine ⟨by omega, by omega, fun L8 => ?_⟩
  rw [va]
  obtain ⟨S8, N8, w8⟩ := ru_start D0 O F3 (R.fF F3) K3 a33 n1 n2 (by omega) rfl
  have q := ru_81 (v1 := c27 a.1) (z3 := jU) (z4 := jU) (d := d) (by omega) Rr O N8 (by omega) (O.rule n1 n2 (by omega)) S8 w8 (by show A ≤ 4 * a.2; omega)
  rw [eP]
  exact q
end RRX
