/-! THE LAW: calls that change something -/
section LWD
variable {L i d : Nat} {xs : Nat → Int} {h : AH} {Q : Option AV → AH → Prop}
theorem lw_c0 (hd : 100 ≤ d) (hx : ∀ k, r32 (xs k)) {v3 : Int} (v0 : 0 ≤ v3) (vL : v3 + 4 ≤ (L : Int)) (l2 : L ≤ 2048) (I : LIn L xs i h) (K : ∀ h', LIn L xs (i + 1) h' → WF d 202 723 (lv v3) [] h' Q) : WF d 202 128 (lv v3) [] h Q := by
  obtain ⟨p, T, c, pt, W, e, SC, SR, P1, P2, H2, x1, x2⟩ := I
  have sr := sc_r hx SC.1 e
  have A : ∀ k : Int, 1 ≤ k → k ≤ 3 → inA h 2 0 (w32 (v3 + k)) := fun k k1 k2 => by
    rw [w32_i (by omega) (by omega)]; exact sc_in SC.1 e (by omega) (by omega)
  obtain ⟨h1, E1, C1, F1⟩ := m_81 (d := d) (n := ji h 2 (Int.toNat (w32 (v3 + 1)))) (w := jorL (jshlL (ji h 2 (Int.toNat (w32 (v3 + 2)))) 32) (jandL (ji h 2 (Int.toNat (w32 (v3 + 3)))) 4294967295)) (by omega) SC
  have A2 : ∀ k : Int, 1 ≤ k → k ≤ 3 → inA h1 2 0 (w32 (v3 + k)) := fun k k1 k2 => by
    rw [w32_i (by omega) (by omega)]; exact sc_in C1.1 e (by omega) (by omega)
  have se : ∀ k, ji h1 2 k = ji h 2 k := scr_eq SC.1 e C1.1 e
  have hN : NF = 197 := rfl
  have nx := SC.1.nx
  have R1 : Rst p T c pt h1 := SR.fm F1.1 (fun a z => by omega) C1.1
  obtain ⟨h2, E2, R2, F2⟩ := m_108 (d := d) (n := ji h 2 (Int.toNat (w32 (v3 + 1)))) (w := jorL (jshlL (ji h 2 (Int.toNat (w32 (v3 + 2)))) 32) (jandL (ji h 2 (Int.toNat (w32 (v3 + 3)))) 4294967295)) (by omega) R1 SC.2.1.1 (r64_L _)
  refine b_202_128 ⟨A 1 (by omega) (by omega), A 2 (by omega) (by omega), A 3 (by omega) (by omega), SC.1.t32, _, h1, E1, A2 1 (by omega) (by omega), A2 2 (by omega) (by omega), A2 3 (by omega) (by omega), C1.1.t141, _, h2, by rw [se, se, se]; exact E2, fun _ => K h2 ⟨p, _, c, pt, W, e, C1.fq F2 (fun a k z => by omega) R2.1, R2, ?_, ?_, H2, ?_, ?_⟩, fun z => absurd rfl z⟩
  · exact (P1.cg (fun a k z => F1.1.ji (by omega) (by omega) k)).cg (fun a k z => F2.i (by omega))
  · exact (P2.cg (fun a k z => F1.1.ji (by omega) (by omega) k)).cg (fun a k z => F2.i (by omega))
  · rw [F2.2.2.2.1, F1.2]; omega
  · have := F1.1.2.2.2
    rw [F2.2.2.2.1, F2.2.2.2.2]; omega
theorem lw_c1 (hd : 100 ≤ d) (hx : ∀ k, r32 (xs k)) {v3 : Int} (v0 : 0 ≤ v3) (vL : v3 + 4 ≤ (L : Int)) (l2 : L ≤ 2048) (I : LIn L xs i h) (K : ∀ h', LIn L xs (i + 1) h' → WF d 202 723 (lv v3) [] h' Q) : WF d 202 191 (lv v3) [] h Q := by
  obtain ⟨p, T, c, pt, W, e, SC, SR, P1, P2, H2, x1, x2⟩ := I
  have sr := sc_r hx SC.1 e
  have A : ∀ k : Int, 1 ≤ k → k ≤ 3 → inA h 2 0 (w32 (v3 + k)) := fun k k1 k2 => by
    rw [w32_i (by omega) (by omega)]; exact sc_in SC.1 e (by omega) (by omega)
  obtain ⟨h1, E1, C1, F1⟩ := m_82 (d := d) (i := ji h 2 (Int.toNat (w32 (v3 + 1)))) (by omega) SC
  have A2 : ∀ k : Int, 1 ≤ k → k ≤ 3 → inA h1 2 0 (w32 (v3 + k)) := fun k k1 k2 => by
    rw [w32_i (by omega) (by omega)]; exact sc_in C1.1 e (by omega) (by omega)
  have se : ∀ k, ji h1 2 k = ji h 2 k := scr_eq SC.1 e C1.1 e
  have hN : NF = 197 := rfl
  have nx := SC.1.nx
  have R1 : Rst p T c pt h1 := SR.fm F1.1 (fun a z => by omega) C1.1
  obtain ⟨h2, E2, R2, F2⟩ := m_109 (d := d) (i := ji h 2 (Int.toNat (w32 (v3 + 1)))) (by omega) R1 SC.2.1.1
  refine b_202_191 ⟨A 1 (by omega) (by omega), SC.1.t32, _, h1, E1, A2 1 (by omega) (by omega), C1.1.t141, _, h2, by rw [se]; exact E2, fun _ => K h2 ⟨p, _, c, pt, W, e, C1.fq F2 (fun a k z => by omega) R2.1, R2, ?_, ?_, H2, ?_, ?_⟩, fun z => absurd rfl z⟩
  · exact (P1.cg (fun a k z => F1.1.ji (by omega) (by omega) k)).cg (fun a k z => F2.i (by omega))
  · exact (P2.cg (fun a k z => F1.1.ji (by omega) (by omega) k)).cg (fun a k z => F2.i (by omega))
  · rw [F2.2.2.2.1, F1.2]; omega
  · have := F1.1.2.2.2
    rw [F2.2.2.2.1, F2.2.2.2.2]; omega
theorem lw_c13 (hd : 100 ≤ d) (hx : ∀ k, r32 (xs k)) {v3 : Int} (v0 : 0 ≤ v3) (vL : v3 + 4 ≤ (L : Int)) (l2 : L ≤ 2048) (I : LIn L xs i h) (K : ∀ h', LIn L xs (i + 1) h' → WF d 202 723 (lv v3) [] h' Q) : WF d 202 560 (lv v3) [] h Q := by
  obtain ⟨p, T, c, pt, W, e, SC, SR, P1, P2, H2, x1, x2⟩ := I
  have sr := sc_r hx SC.1 e
  have A : ∀ k : Int, 1 ≤ k → k ≤ 3 → inA h 2 0 (w32 (v3 + k)) := fun k k1 k2 => by
    rw [w32_i (by omega) (by omega)]; exact sc_in SC.1 e (by omega) (by omega)
  obtain ⟨h1, E1, C1, F1⟩ := m_94 (d := d) (x := ji h 2 (Int.toNat (w32 (v3 + 1)))) (v := ji h 2 (Int.toNat (w32 (v3 + 2)))) (by omega) SC
  have A2 : ∀ k : Int, 1 ≤ k → k ≤ 3 → inA h1 2 0 (w32 (v3 + k)) := fun k k1 k2 => by
    rw [w32_i (by omega) (by omega)]; exact sc_in C1.1 e (by omega) (by omega)
  have se : ∀ k, ji h1 2 k = ji h 2 k := scr_eq SC.1 e C1.1 e
  have hN : NF = 197 := rfl
  have nx := SC.1.nx
  have R1 : Rst p T c pt h1 := SR.fm F1.1 (fun a z => by omega) C1.1
  obtain ⟨h2, E2, R2, F2⟩ := m_175 (d := d) (x := ji h 2 (Int.toNat (w32 (v3 + 1)))) (v := ji h 2 (Int.toNat (w32 (v3 + 2)))) (by omega) R1
  refine b_202_560 ⟨A 1 (by omega) (by omega), A 2 (by omega) (by omega), SC.1.t32, _, h1, E1, A2 1 (by omega) (by omega), A2 2 (by omega) (by omega), C1.1.t141, _, h2, by rw [se, se]; exact E2, fun _ => K h2 ⟨p, T, c, _, W, e, C1.fq F2 (fun a k z => by omega) R2.1, R2, ?_, ?_, H2, ?_, ?_⟩, fun z => absurd rfl z⟩
  · exact (P1.cg (fun a k z => F1.1.ji (by omega) (by omega) k)).cg (fun a k z => F2.i (by omega))
  · exact (P2.cg (fun a k z => F1.1.ji (by omega) (by omega) k)).cg (fun a k z => F2.i (by omega))
  · rw [F2.2.2.2.1, F1.2]; omega
  · have := F1.1.2.2.2
    rw [F2.2.2.2.1, F2.2.2.2.2]; omega
theorem lw_c18 (hd : 100 ≤ d) (hx : ∀ k, r32 (xs k)) {v3 : Int} (v0 : 0 ≤ v3) (vL : v3 + 4 ≤ (L : Int)) (l2 : L ≤ 2048) (I : LIn L xs i h) (K : ∀ h', LIn L xs (i + 1) h' → WF d 202 723 (lv v3) [] h' Q) : WF d 202 677 (lv v3) [] h Q := by
  obtain ⟨p, T, c, pt, W, e, SC, SR, P1, P2, H2, x1, x2⟩ := I
  have sr := sc_r hx SC.1 e
  have A : ∀ k : Int, 1 ≤ k → k ≤ 3 → inA h 2 0 (w32 (v3 + k)) := fun k k1 k2 => by
    rw [w32_i (by omega) (by omega)]; exact sc_in SC.1 e (by omega) (by omega)
  obtain ⟨h1, E1, G1⟩ := m_99 (d := d) (r := ji h 2 (Int.toNat (w32 (v3 + 1)))) (by omega) SC H2 P1
  have C1 := SC.pa G1
  have F1 := G1.2.2
  have A2 : ∀ k : Int, 1 ≤ k → k ≤ 3 → inA h1 2 0 (w32 (v3 + k)) := fun k k1 k2 => by
    rw [w32_i (by omega) (by omega)]; exact sc_in C1.1 e (by omega) (by omega)
  have se : ∀ k, ji h1 2 k = ji h 2 k := scr_eq SC.1 e C1.1 e
  have hN : NF = 197 := rfl
  have nx := SC.1.nx
  have R1 : Rst p T c pt h1 := SR.fm F1.1 (fun a z => by omega) C1.1
  have P3 : PapM W h1 := P2.cg (fun a k z => F1.1.ji (by omega) (by omega) k)
  obtain ⟨h2, E2, G2⟩ := m_186 (d := d) (r := ji h 2 (Int.toNat (w32 (v3 + 1)))) (by omega) R1 H2 P3
  have F2 := G2.2.2
  refine b_202_677 ⟨A 1 (by omega) (by omega), SC.1.t32, _, h1, E1, A2 1 (by omega) (by omega), C1.1.t141, _, h2, by rw [se]; exact E2, fun _ => K h2 ⟨p, T, c, pt, _, e, C1.fq F2 (fun a k z => by omega) G2.1, R1.pm G2, ?_, G2.2.1, H2, ?_, ?_⟩, fun z => absurd rfl z⟩
  · exact G1.2.1.cg (fun a k z => F2.i (by omega))
  · rw [F2.2.2.2.1, F1.2]; omega
  · have := F1.1.2.2.2
    rw [F2.2.2.2.1, F2.2.2.2.2]; omega
theorem lw_c2 (hd : 100 ≤ d) (hx : ∀ k, r32 (xs k)) {v3 : Int} (v0 : 0 ≤ v3) (vL : v3 + 4 ≤ (L : Int)) (l2 : L ≤ 2048) (I : LIn L xs i h) (K : ∀ h', LIn L xs (i + 1) h' → WF d 202 723 (lv v3) [] h' Q) : WF d 202 214 (lv v3) [] h Q := by
  obtain ⟨p, T, c, pt, W, e, SC, SR, P1, P2, H2, x1, x2⟩ := I
  have sr := sc_r hx SC.1 e
  have A : ∀ k : Int, 1 ≤ k → k ≤ 3 → inA h 2 0 (w32 (v3 + k)) := fun k k1 k2 => by
    rw [w32_i (by omega) (by omega)]; exact sc_in SC.1 e (by omega) (by omega)
  obtain ⟨v, h1, E1, F1, xx, p', ep, D1⟩ := m_83 (d := d) (by omega) SC
  have hN : NF = 197 := rfl
  have nx := SC.1.nx
  have e' : p'.2.2.2.2 = (L, xs) := ep.trans e
  have hT := SC.2.1.1
  have L1 : Ly p' h1 := by
    cases hR : pText T 400 D0 0 with
    | error q => rw [hR] at D1; exact D1.2.1
    | ok c' =>
      rw [hR] at D1
      rcases D1 with y | y
      · exact y.2.2.1
      · exact y.2.2.2.1
  have R1 : Rst p' T c pt h1 := SR.fm F1 (fun a z => by omega) L1
  obtain ⟨u, h2, E2, F2, D2⟩ := m_156 (d := d) (by omega) R1 hT
  have fin : ∀ (c' : Dc) (pt' : Nat → Int), v = u → okS2 (dS c') → Cst p' (0, T.2) c' pt' h1 → Rst p' (0, T.2) c' pt' h2 → WF d 202 214 (lv v3) [] h Q := fun c' pt' euv S2 C' R' => by
    refine b_202_214 ⟨SC.1.t32, _, h1, E1, L1.t141, _, h2, E2, fun _ => K h2 ⟨p', _, c', pt', W, e', C'.fq F2 (fun a k z => by omega) R'.1, R', ?_, ?_, S2, ?_, ?_⟩, fun z => absurd euv z⟩
    · exact (P1.cg (fun a k z => F1.ji (by omega) (by omega) k)).cg (fun a k z => F2.i (by omega))
    · exact (P2.cg (fun a k z => F1.ji (by omega) (by omega) k)).cg (fun a k z => F2.i (by omega))
    · rw [F2.2.2.2.1]; exact Nat.le_trans xx (by rw [show 197 + 802 * (i + 1) = 197 + 802 * i + 802 by rw [Nat.mul_add, Nat.add_assoc]]; exact Nat.add_le_add_right x1 802)
    · have q := F1.2.2.2
      rw [F2.2.2.2.1, F2.2.2.2.2]
      clear D1 D2 xx x1
      omega
  cases hR : pText T 400 D0 0 with
  | error q =>
    rw [hR] at D1 D2
    exact fin c pt (D1.1.trans D2.1.symm) H2 D1.2 D2.2
  | ok c' =>
    rw [hR] at D1 D2
    rcases D1 with ⟨y1, y2, y3⟩ | ⟨y1, _, y2, y3⟩ <;> rcases D2 with ⟨w1, w2, w3⟩ | ⟨w1, w2, w3⟩
    · exact fin c pt (y2.trans w2.symm) H2 y3 w3
    · exact absurd y1 w1
    · exact absurd w1 y1
    · exact fin c' (lowP c') (y2.trans w2.symm) (okS2_text (tkG_all T) 400 D0 0 okS2_0 hR) y3 w3
end LWD
