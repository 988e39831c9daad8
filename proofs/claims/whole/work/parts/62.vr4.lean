-- conditions
set_option maxRecDepth 100000 in
theorem c_132_0 {p : Lpar} {d : Nat} {h : AH} {Q : Option AV → AH → Prop}  (hd : 9 ≤ d) (L : Ly p h) (H : WF d 132 4 [jP 141, jI 0, jI 1, jU, jU] [] h Q) : WF d 132 0 [jP 141, jU, jU, jU, jU] [] h Q := by
  refine b_132_0 ?_
  refine b_132_2 ?_
  exact H
set_option maxRecDepth 100000 in
theorem c_132_4 {p : Lpar} {d : Nat} {h : AH} {Q : Option AV → AH → Prop} {v1 : Int} {v2 : Int} {z3 : AV} {z4 : AV} (hd : 9 ≤ d) (L : Ly p h) (H : (v2 = (0 : Int) → Q (some (jI v1)) h) ∧ (¬ (v2 = (0 : Int)) → ∃ x4 h1, jE d 124 [jP 141] h (some (jI x4)) h1 ∧ Ly p h1 ∧ ∃ x8 h5, jE d 120 [jP 141, jI 18] h1 (some (jI x8)) h5 ∧ Ly p h5 ∧ ∃ x12 h9, jE d 125 [jP 141] h5 (some (jI x12)) h9 ∧ Ly p h9 ∧ ((ji h9 141 6) = -1 → 0 ≤ (ji h9 141 30) ∧ (ji h9 141 30) < 20 ∧ 0 ≤ (ji h9 141 30) ∧ (ji h9 141 30) < 20 ∧ (2 ≤ (w32 (v1 + 1)) → (Ly p (wi (wi (wi h9 158 (Int.toNat (ji h9 141 30)) x4) 159 (Int.toNat (ji h9 141 30)) x12) 141 30 (w32 ((ji h9 141 30) + 1))) → WF d 132 4 [jP 141, jI (w32 (v1 + 1)), jI 0, jI x4, jI x12] [] (wi (wi (wi h9 158 (Int.toNat (ji h9 141 30)) x4) 159 (Int.toNat (ji h9 141 30)) x12) 141 30 (w32 ((ji h9 141 30) + 1))) Q)) ∧ (¬ (2 ≤ (w32 (v1 + 1))) → ((ji h9 141 2) = 144 → (Ly p (wi (wi (wi h9 158 (Int.toNat (ji h9 141 30)) x4) 159 (Int.toNat (ji h9 141 30)) x12) 141 30 (w32 ((ji h9 141 30) + 1))) → ∃ h14, jE d 118 [jP 141] (wi (wi (wi h9 158 (Int.toNat (ji h9 141 30)) x4) 159 (Int.toNat (ji h9 141 30)) x12) 141 30 (w32 ((ji h9 141 30) + 1))) none h14 ∧ Ly p h14 ∧ WF d 132 4 [jP 141, jI (w32 (v1 + 1)), jI 1, jI x4, jI x12] [] h14 Q)) ∧ (¬ (ji h9 141 2) = 144 → (Ly p (wi (wi (wi h9 158 (Int.toNat (ji h9 141 30)) x4) 159 (Int.toNat (ji h9 141 30)) x12) 141 30 (w32 ((ji h9 141 30) + 1))) → WF d 132 4 [jP 141, jI (w32 (v1 + 1)), jI 0, jI x4, jI x12] [] (wi (wi (wi h9 158 (Int.toNat (ji h9 141 30)) x4) 159 (Int.toNat (ji h9 141 30)) x12) 141 30 (w32 ((ji h9 141 30) + 1))) Q)))) ∧ (¬ ((ji h9 141 6) = -1) → Q (some (jI v1)) h9))) : WF d 132 4 [jP 141, jI v1, jI v2, z3, z4] [] h Q := by
  refine b_132_4 ?_
  refine ⟨fun c23 => ?_, fun c23 => ?_⟩
  · have H := H.1 c23
    exact H
  · have H := H.2 c23
    refine ⟨(Ly.t141 L :), ?_⟩
    obtain ⟨x4, h1, e3, L2, H⟩ := H
    refine ⟨x4, h1, e3, ?_⟩
    refine b_132_13 ?_
    refine ⟨(Ly.t141 L2 :), ?_⟩
    obtain ⟨x8, h5, e7, L6, H⟩ := H
    refine ⟨x8, h5, e7, ?_⟩
    refine b_132_20 ?_
    refine ⟨(Ly.t141 L6 :), ?_⟩
    obtain ⟨x12, h9, e11, L10, H⟩ := H
    refine ⟨x12, h9, e11, ?_⟩
    refine b_132_26 ?_
    refine ⟨(Ly.t141 L10 :), ?_⟩
    by_cases c13 : (ji h9 141 6) = -1
    · have H := H.1 c13
      refine ⟨1, _, by have := m_122 (d := d) (by omega) L10; rw [if_pos c13] at this; exact this, ?_⟩
      refine ⟨fun _ => ?_, fun c => absurd (by decide) c⟩
      refine ⟨(Ly.t141 L10 :), ?_⟩
      rw [show jr h9 141 31 = 158 from (Ly.r141_31 L10 :)]
      refine ⟨(Ly.t141 L10 :), ?_⟩
      obtain ⟨z21, z22, H⟩ := H
      refine ⟨inW_mk (N := 20) (Ly.t158 L10 :) (Ly.n158 L10 :) z21 z22, ?_⟩
      refine b_132_45 ?_
      refine ⟨(Ly.t141 L10 :), ?_⟩
      rw [show jr (wi h9 158 (Int.toNat (ji h9 141 30)) x4) 141 32 = 159 from (Ly.r141_32 L10 :)]
      refine ⟨(Ly.t141 L10 :), ?_⟩
      obtain ⟨z19, z20, H⟩ := H
      refine ⟨inW_mk (N := 20) (Ly.t159 L10 :) (Ly.n159 L10 :) z19 z20, ?_⟩
      refine b_132_56 ?_
      refine ⟨(Ly.t141 L10 :), ?_⟩
      refine ⟨(Ly.t141 L10 :), ?_⟩
      refine b_132_66 ?_
      refine ⟨fun c18 => ?_, fun c18 => ?_⟩
      · have H := H.1 c18
        refine b_132_90 ?_
        refine ⟨fun _ => ?_, fun c => absurd (by decide) c⟩
        refine b_132_98 ?_
        exact H (Ly.wi (Ly.wi (Ly.wi L10 (a := 158) (k := Int.toNat (ji h9 141 30)) (x := x4) (by decide)) (a := 159) (k := Int.toNat (ji (wi h9 158 (Int.toNat (ji h9 141 30)) x4) 141 30)) (x := x12) (by decide)) (a := 141) (k := 30) (x := w32 ((ji (wi (wi h9 158 (Int.toNat (ji h9 141 30)) x4) 159 (Int.toNat (ji (wi h9 158 (Int.toNat (ji h9 141 30)) x4) 141 30)) x12) 141 30) + 1)) (by decide))
      · have H := H.2 c18
        refine ⟨(Ly.t141 L10 :), ?_⟩
        refine ⟨fun c17 => ?_, fun c17 => ?_⟩
        · have H := H.2 c17
          refine b_132_90 ?_
          refine ⟨fun _ => ?_, fun c => absurd (by decide) c⟩
          refine b_132_98 ?_
          exact H (Ly.wi (Ly.wi (Ly.wi L10 (a := 158) (k := Int.toNat (ji h9 141 30)) (x := x4) (by decide)) (a := 159) (k := Int.toNat (ji (wi h9 158 (Int.toNat (ji h9 141 30)) x4) 141 30)) (x := x12) (by decide)) (a := 141) (k := 30) (x := w32 ((ji (wi (wi h9 158 (Int.toNat (ji h9 141 30)) x4) 159 (Int.toNat (ji (wi h9 158 (Int.toNat (ji h9 141 30)) x4) 141 30)) x12) 141 30) + 1)) (by decide))
        · have c17 := Decidable.not_not.mp c17
          have H := H.1 c17
          refine b_132_90 ?_
          refine ⟨fun c => absurd c (by decide), fun _ => ?_⟩
          refine ⟨(Ly.t141 L10 :), ?_⟩
          have H := H (Ly.wi (Ly.wi (Ly.wi L10 (a := 158) (k := Int.toNat (ji h9 141 30)) (x := x4) (by decide)) (a := 159) (k := Int.toNat (ji (wi h9 158 (Int.toNat (ji h9 141 30)) x4) 141 30)) (x := x12) (by decide)) (a := 141) (k := 30) (x := w32 ((ji (wi (wi h9 158 (Int.toNat (ji h9 141 30)) x4) 159 (Int.toNat (ji (wi h9 158 (Int.toNat (ji h9 141 30)) x4) 141 30)) x12) 141 30) + 1)) (by decide))
          obtain ⟨h14, e16, L15, H⟩ := H
          refine ⟨h14, e16, ?_⟩
          refine b_132_98 ?_
          exact H
    · have H := H.2 c13
      refine ⟨0, _, by have := m_122 (d := d) (by omega) L10; rw [if_neg c13] at this; exact this, ?_⟩
      refine ⟨fun c => absurd c (by decide), fun _ => ?_⟩
      exact H
