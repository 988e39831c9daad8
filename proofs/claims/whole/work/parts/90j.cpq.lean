/-! THE CLASS: print -/
section CPQ
variable {p : Lpar} {d : Nat} {h h0 h' g : AH} {c : Dc} {T : Txt} {pt : Nat → Int} {W : List Int} {r : Int} {row : Nat}
theorem tms_99 (hd : 13 ≤ d) (S : Cst p T c pt h) (H : okS2 (dS c)) (hr : row < (tot (dS c) (dR c)).toNat) {v2 : Int} {Q : Option AV → AH → Prop} : ∀ (s x : Nat) (W : List Int) (f : Bool) (g : AH), (tot (dS c) (dX c)).toNat = x + s → PA p W h g → W.length + 38 * s + (if f = true then 1 else 0) ≤ 1527 → (∀ g', PA p ((tmsF c row s x W f).1 ++ zrL (tmsF c row s x W f).2) h g' → WF d 99 133 [jP 32, jI (row : Int), jI v2, jI (if (tmsF c row s x W f).2 = true then 1 else 0), jI ((tot (dS c) (dX c)).toNat : Int)] [] g' Q) → WF d 99 61 [jP 32, jI (row : Int), jI v2, jI (if f = true then 1 else 0), jI (x : Int)] [] g Q := by
  have t40 := S.2.2.2.2.2.2.1.2.2.1
  have r40 := S.2.2.2.2.2.2.1.2.2.2.1
  have t0 : 0 ≤ tot (dS c) (dX c) := (tot_r S.ok.1 _).1
  have O := S.2.2.2.2.2.2.1.1
  intro s
  induction s with
  | zero =>
    intro x W f g hx G hl K
    have Sg := S.pa G
    have e5 : ji g (pD p + 18) 5 = tot (dS c) (dX c) := Sg.B.2.2.1.2.1
    have ex : ((tot (dS c) (dX c)).toNat : Int) = (x : Int) := by omega
    refine c_99_61 (by omega) G.1 ⟨fun _ => ?_, fun z => by omega⟩
    rw [ex] at K
    cases f with
    | false =>
      refine ⟨fun _ => ?_, fun z => absurd rfl z⟩
      have q := K g (by show PA p (W ++ []) h g; rw [List.append_nil]; exact G)
      exact q
    | true =>
      rw [if_pos rfl] at hl
      obtain ⟨g1, E1, G1⟩ := m_2p (d := d) (v := 48) (by omega) G.1 G.2.1 (by omega) (by omega) (by omega)
      refine ⟨fun z => absurd z (by decide), fun _ => ⟨g1, E1, G1.1, ?_⟩⟩
      exact K g1 (PA.tr G.2.2 G1)
  | succ s ih =>
    intro x W f g hx G hl K
    have Sg := S.pa G
    have e5 : ji g (pD p + 18) 5 = tot (dS c) (dX c) := Sg.B.2.2.1.2.1
    have ev := (Sg.2.2.2.2.2.2.2.1.1 row hr).1 x (by omega)
    refine c_99_61 (by omega) G.1 ⟨fun z => by omega, fun _ => ?_⟩
    rw [Int.toNat_natCast, Int.toNat_natCast, ev]
    by_cases z : w64 (rowL c row x) = 0
    · have eF : tmsF c row (s + 1) x W f = tmsF c row s (x + 1) W f := by
        show (if w64 (rowL c row x) = 0 then _ else _) = _
        rw [if_pos z]
      rw [eF] at K
      refine ⟨by omega, by omega, by omega, by omega, fun _ => c_99_114 (by omega) G.1 ?_, fun y => absurd (jcmp_0.mpr z) y⟩
      rw [w32_i (x := (x : Int) + 1) (by omega) (by omega)]
      exact ih (x + 1) W f g (by omega) G (by omega) K
    · have eF : tmsF c row (s + 1) x W f = tmsF c row s (x + 1) (W ++ tmL c x f (w64 (rowL c row x))) false := by
        show (if w64 (rowL c row x) = 0 then _ else _) = _
        rw [if_neg z]
      rw [eF] at K
      have lt := tmL_len (x := x) O H (w64_r (rowL c row x)) f
      have lt2 : (tmL c x f (w64 (rowL c row x))).length ≤ 38 := by
        cases f
        · rw [if_neg (by decide)] at lt; exact lt
        · rw [if_pos rfl] at lt; omega
      obtain ⟨g1, E1, G1⟩ := m_104 (d := d) (x := x) (f := f) (by omega) Sg H G.2.1 (w64_r (rowL c row x)) (by omega)
      refine ⟨by omega, by omega, by omega, by omega, fun y => absurd (jcmp_0.mp y) z, fun _ => ⟨by omega, by omega, by omega, by omega, g1, E1, G1.1, c_99_112 (by omega) G1.1 (c_99_114 (by omega) G1.1 ?_)⟩⟩
      rw [w32_i (x := (x : Int) + 1) (by omega) (by omega)]
      exact ih (x + 1) _ false g1 (by omega) (PA.tr G.2.2 G1) (by rw [List.length_append, if_neg (by decide)]; omega) K
theorem m_99 (hd : 14 ≤ d) (S : Cst p T c pt h) (H : okS2 (dS c)) (P : Pap W h) : ∃ h', jE d 99 [jP 32, jI r] h (some (jI (aPrint c r))) h' ∧ PA p (wPrint c r W) h h' := by
  suffices hh : ∃ w h', jE d 99 [jP 32, jI r] h w h' ∧ w = some (jI (aPrint c r)) ∧ PA p (wPrint c r W) h h' by
    obtain ⟨w, h', hE, rfl, q⟩ := hh
    exact ⟨h', hE, q⟩
  obtain ⟨d, rfl⟩ : ∃ d', d = d' + 1 := ⟨d - 1, by omega⟩
  have O := S.2.2.2.2.2.2.1
  unfold aPrint wPrint
  refine jE_of (as := [jP 32, jI r]) (Nat.le_of_ble_eq_true rfl) (c_99_0 (by omega) S.1 ⟨_, h, S.owR (by omega), S.1, c_99_12 (by omega) S.1 ⟨fun z => ?_, fun z => ?_⟩⟩)
  · have nz : ¬ isR c r := fun y => ow_in y z
    rw [if_neg nz, if_neg nz]
    exact ⟨rfl, S.1, P, Fm.refl, rfl⟩
  obtain ⟨r1, r2, r3, r4, r5, r6, r7⟩ := S.owR_r z
  have zr : isR c r := ⟨r1, r2⟩
  rw [if_pos zr, if_pos zr]
  obtain ⟨row, rfl⟩ : ∃ row : Nat, r = (row : Int) := ⟨r.toNat, by omega⟩
  rw [Int.toNat_natCast]
  obtain ⟨rm1, rm2, rm3⟩ := pr_room (row := row) O.1 H O.2.2.1
  intro L1
  have G1 : PA p [] h (wi h 35 1 0) := ⟨L1, ⟨by rw [ji_wi, if_pos ⟨rfl, rfl⟩]; rfl, Nat.zero_le _, fun k hk => absurd hk (Nat.not_lt_zero k)⟩, Fm.wi (Or.inl rfl), rfl⟩
  generalize wi h 35 1 0 = g1 at L1 G1 ⊢
  have S1 := S.pa G1
  have ln := nm_4 O.1 3 (owO (dS c) (dR c) row)
  obtain ⟨g2, E2, G2⟩ := m_4 (d := d) (by omega) G1.1 G1.2.1 (S1.okF 3 (owO (dS c) (dR c) row)) (by show 0 + _ ≤ _; omega)
  have l2 : ([] ++ nmF (dN c) 3 (owO (dS c) (dR c) row)).length ≤ 4 := ln
  obtain ⟨g3, E3, G3⟩ := m_3 (d := d) (i := 1) (by omega) G2.1 G2.2.1 (by decide) (by show _ + 2 ≤ _; omega) (by decide)
  have T3 : PA p (hdL c row) h g3 := PA.tr G1.2.2 (PA.tr G2.2.2 G3)
  refine c_99_28 (by omega) G1.1 ⟨_, g1, S1.nameOf (by omega), G1.1, g2, E2, G2.1, c_99_47 (by omega) G2.1 ⟨g3, E3, G3.1, c_99_56 (by omega) G3.1 (c_99_58 (by omega) G3.1 ?_)⟩⟩
  have lh : (hdL c row).length ≤ 6 := by
    unfold hdL
    rw [List.length_append]
    show _ + 2 ≤ 6
    omega
  have t40 := O.2.2.1
  refine tms_99 (row := row) (by omega) S H (by omega) (tot (dS c) (dX c)).toNat 0 (hdL c row) true g3 (by omega) T3 (by rw [if_pos rfl]; omega) (fun g4 G4 => ?_)
  have G4 : PA p ((tmsW c row).1 ++ zrL (tmsW c row).2) h g4 := G4
  have S4 := S.pa G4
  have e11 : ji g4 (pD p + 11) (owO (dS c) (dR c) row).toNat = ((dL c).getD (owO (dS c) (dR c) row).toNat zL).1 := (S4.B.2.2.2.2.2.2.1 _ r7).1
  have e137 := (S4.2.2.2.2.2.2.2.1.1 row (by omega)).2
  refine c_99_133 (by omega) G4.1 ⟨r4, r6, ?_⟩
  rw [e11]
  have rel : ∀ (i : Nat) (s : List Int), i < 9 → sBy.getD i [] = s → s = relL ((dL c).getD (owO (dS c) (dR c) row).toNat zL).1 → s.length ≤ 4 → (∀ y ∈ s, 0 ≤ y ∧ y ≤ 255) → ∃ g5, jE d 3 [jP 35, jP (i + 4)] g4 none g5 ∧ Ly p g5 ∧ ∀ v3 v4 : Int, WF d 99 173 [jP 32, jI (row : Int), jI (owO (dS c) (dR c) row), jI v3, jI v4] [] g5 (fun w h' => w = some (jI ((prL c row).length : Int)) ∧ PA p (prL c row) h h') := by
    intro i s hi es er ls bs
    obtain ⟨g5, E5, G5⟩ := m_3 (d := d) (by omega) G4.1 G4.2.1 hi (by rw [es, List.length_append]; omega) (by rw [es]; exact bs)
    rw [es, er] at G5
    have T5 := PA.tr G4.2.2 G5
    have S5 := S.pa T5
    have e5 := (S5.2.2.2.2.2.2.2.1.1 row (by omega)).2
    have l5 : ((tmsW c row).1 ++ zrL (tmsW c row).2 ++ relL ((dL c).getD (owO (dS c) (dR c) row).toNat zL).1).length ≤ 1530 := by
      rw [List.length_append, List.length_append, ← er]; omega
    obtain ⟨g6, E6, G6⟩ := m_105 (d := d) (v := w64 (-(rowL c row 40))) (by omega) T5.1 T5.2.1 (w64_r _) (by
      show ((tmsW c row).1 ++ zrL (tmsW c row).2 ++ relL ((dL c).getD (owO (dS c) (dR c) row).toNat zL).1).length + 21 ≤ 1551
      omega)
    refine ⟨g5, E5, G5.1, fun v3 v4 => c_99_173 (by omega) G5.1 ?_⟩
    rw [Int.toNat_natCast, e5]
    refine ⟨by omega, by omega, g6, E6, G6.1, c_99_186 (by omega) G6.1 ?_⟩
    have T6 : PA p (prL c row) h g6 := PA.tr T5.2.2 G6
    rw [T6.2.1.1]
    exact ⟨rfl, T6⟩
  refine c_99_144 (by omega) G4.1 ⟨fun q0 => ⟨fun q1 => ?_, fun q1 => ?_⟩, fun q0 => ?_⟩
  · obtain ⟨g5, E5, L5, K5⟩ := rel 7 [32, 61, 32] (by decide) rfl (by unfold relL; rw [if_neg (by omega), if_pos q1]) (by decide) (by decide)
    exact ⟨g5, E5, L5, K5 _ _⟩
  · obtain ⟨g5, E5, L5, K5⟩ := rel 8 [32, 62, 61, 32] (by decide) rfl (by unfold relL; rw [if_neg (by omega), if_neg q1]) (by decide) (by decide)
    exact ⟨g5, E5, L5, K5 _ _⟩
  · obtain ⟨g5, E5, L5, K5⟩ := rel 6 [32, 60, 61, 32] (by decide) rfl (by unfold relL; rw [if_pos (by omega)]) (by decide) (by decide)
    exact ⟨g5, E5, L5, K5 _ _⟩
end CPQ
