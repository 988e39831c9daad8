-- conditions
set_option maxRecDepth 100000 in
theorem c_126d_0 {p : Lpar} {d : Nat} {h : AH} {Q : Option AV → AH → Prop} {v2 : Int} (hd : 9 ≤ d) (L : Ly p h) (H : 0 ≤ v2 ∧ v2 < 12 ∧ 0 ≤ (w32 (v2 + 1)) ∧ (w32 (v2 + 1)) < 12 ∧ ((ji h 141 6) = -1 → ((ji h 141 2) = 191 → (Ly p (wi (wi h 147 (Int.toNat v2) (-1 : Int)) 147 (Int.toNat (w32 (v2 + 1))) (-1 : Int)) → ∃ h2, jE d 118 [jP 141] (wi (wi h 147 (Int.toNat v2) (-1 : Int)) 147 (Int.toNat (w32 (v2 + 1))) (-1 : Int)) none h2 ∧ Ly p h2 ∧ ∃ x8 h5, jE d 125 [jP 141] h2 (some (jI x8)) h5 ∧ Ly p h5 ∧ 0 ≤ v2 ∧ v2 < 12 ∧ ((ji h5 141 6) = -1 → ((ji h5 141 2) = 144 → (Ly p (wi h5 147 (Int.toNat v2) x8) → ∃ h14, jE d 118 [jP 141] (wi h5 147 (Int.toNat v2) x8) none h14 ∧ Ly p h14 ∧ ∃ x20 h17, jE d 125 [jP 141] h14 (some (jI x20)) h17 ∧ Ly p h17 ∧ 0 ≤ (w32 (v2 + 1)) ∧ (w32 (v2 + 1)) < 12 ∧ (Ly p (wi h17 147 (Int.toNat (w32 (v2 + 1))) x20) → ∃ x24 h21, jE d 121 [jP 141, jI 93] (wi h17 147 (Int.toNat (w32 (v2 + 1))) x20) (some (jI x24)) h21 ∧ Ly p h21 ∧ Q none h21))) ∧ (¬ (ji h5 141 2) = 144 → (Ly p (wi h5 147 (Int.toNat v2) x8) → ∃ x13 h10, jE d 121 [jP 141, jI 93] (wi h5 147 (Int.toNat v2) x8) (some (jI x13)) h10 ∧ Ly p h10 ∧ Q none h10))) ∧ (¬ ((ji h5 141 6) = -1) → (Ly p (wi h5 147 (Int.toNat v2) x8) → ∃ x31 h28, jE d 121 [jP 141, jI 93] (wi h5 147 (Int.toNat v2) x8) (some (jI x31)) h28 ∧ Ly p h28 ∧ Q none h28)))) ∧ (¬ (ji h 141 2) = 191 → (Ly p (wi (wi h 147 (Int.toNat v2) (-1 : Int)) 147 (Int.toNat (w32 (v2 + 1))) (-1 : Int)) → Q none (wi (wi h 147 (Int.toNat v2) (-1 : Int)) 147 (Int.toNat (w32 (v2 + 1))) (-1 : Int))))) ∧ (¬ ((ji h 141 6) = -1) → (Ly p (wi (wi h 147 (Int.toNat v2) (-1 : Int)) 147 (Int.toNat (w32 (v2 + 1))) (-1 : Int)) → Q none (wi (wi h 147 (Int.toNat v2) (-1 : Int)) 147 (Int.toNat (w32 (v2 + 1))) (-1 : Int))))) : WF d 126 0 [jP 141, jP 147, jI v2] [] h Q := by
  refine b_126_0 ?_
  obtain ⟨z37, z38, H⟩ := H
  refine ⟨inW_mk (N := 12) (Ly.t147 L :) (Ly.n147 L :) z37 z38, ?_⟩
  refine b_126_4 ?_
  obtain ⟨z35, z36, H⟩ := H
  refine ⟨inW_mk (N := 12) (Ly.t147 L :) (Ly.n147 L :) z35 z36, ?_⟩
  refine b_126_10 ?_
  refine ⟨(Ly.t141 L :), ?_⟩
  by_cases c1 : (ji h 141 6) = -1
  · have H := H.1 c1
    refine ⟨1, _, by have := m_122 (d := d) (by omega) (Ly.wi (Ly.wi L (a := 147) (k := Int.toNat v2) (x := (-1)) (by decide)) (a := 147) (k := Int.toNat (w32 (v2 + 1))) (x := (-1)) (by decide)); rw [if_pos (show (ji (wi (wi h 147 (Int.toNat v2) (-1 : Int)) 147 (Int.toNat (w32 (v2 + 1))) (-1 : Int)) 141 6) = -1 from c1)] at this; exact this, ?_⟩
    refine ⟨fun c => absurd c (by decide), fun _ => ?_⟩
    refine ⟨(Ly.t141 L :), ?_⟩
    refine ⟨fun c34 => ?_, fun c34 => ?_⟩
    · have H := H.2 c34
      refine b_126_75 ?_
      exact H (Ly.wi (Ly.wi L (a := 147) (k := Int.toNat v2) (x := (-1)) (by decide)) (a := 147) (k := Int.toNat (w32 (v2 + 1))) (x := (-1)) (by decide))
    · have c34 := Decidable.not_not.mp c34
      have H := H.1 c34
      refine ⟨(Ly.t141 L :), ?_⟩
      have H := H (Ly.wi (Ly.wi L (a := 147) (k := Int.toNat v2) (x := (-1)) (by decide)) (a := 147) (k := Int.toNat (w32 (v2 + 1))) (x := (-1)) (by decide))
      obtain ⟨h2, e4, L3, H⟩ := H
      refine ⟨h2, e4, ?_⟩
      refine b_126_31 ?_
      refine ⟨(Ly.t141 L3 :), ?_⟩
      obtain ⟨x8, h5, e7, L6, H⟩ := H
      refine ⟨x8, h5, e7, ?_⟩
      obtain ⟨z32, z33, H⟩ := H
      refine ⟨inW_mk (N := 12) (Ly.t147 L6 :) (Ly.n147 L6 :) z32 z33, ?_⟩
      refine b_126_38 ?_
      refine ⟨(Ly.t141 L6 :), ?_⟩
      by_cases c9 : (ji h5 141 6) = -1
      · have H := H.1 c9
        refine ⟨1, _, by have := m_122 (d := d) (by omega) (Ly.wi L6 (a := 147) (k := Int.toNat v2) (x := x8) (by decide)); rw [if_pos (show (ji (wi h5 147 (Int.toNat v2) x8) 141 6) = -1 from c9)] at this; exact this, ?_⟩
        refine ⟨fun c => absurd c (by decide), fun _ => ?_⟩
        refine ⟨(Ly.t141 L6 :), ?_⟩
        refine ⟨fun c27 => ?_, fun c27 => ?_⟩
        · have H := H.2 c27
          refine b_126_68 ?_
          refine ⟨(Ly.t141 L6 :), ?_⟩
          have H := H (Ly.wi L6 (a := 147) (k := Int.toNat v2) (x := x8) (by decide))
          obtain ⟨x13, h10, e12, L11, H⟩ := H
          refine ⟨x13, h10, e12, ?_⟩
          refine b_126_75 ?_
          exact H
        · have c27 := Decidable.not_not.mp c27
          have H := H.1 c27
          refine ⟨(Ly.t141 L6 :), ?_⟩
          have H := H (Ly.wi L6 (a := 147) (k := Int.toNat v2) (x := x8) (by decide))
          obtain ⟨h14, e16, L15, H⟩ := H
          refine ⟨h14, e16, ?_⟩
          refine b_126_59 ?_
          refine ⟨(Ly.t141 L15 :), ?_⟩
          obtain ⟨x20, h17, e19, L18, H⟩ := H
          refine ⟨x20, h17, e19, ?_⟩
          obtain ⟨z25, z26, H⟩ := H
          refine ⟨inW_mk (N := 12) (Ly.t147 L18 :) (Ly.n147 L18 :) z25 z26, ?_⟩
          refine b_126_68 ?_
          refine ⟨(Ly.t141 L18 :), ?_⟩
          have H := H (Ly.wi L18 (a := 147) (k := Int.toNat (w32 (v2 + 1))) (x := x20) (by decide))
          obtain ⟨x24, h21, e23, L22, H⟩ := H
          refine ⟨x24, h21, e23, ?_⟩
          refine b_126_75 ?_
          exact H
      · have H := H.2 c9
        refine ⟨0, _, by have := m_122 (d := d) (by omega) (Ly.wi L6 (a := 147) (k := Int.toNat v2) (x := x8) (by decide)); rw [if_neg (show ¬ ((ji (wi h5 147 (Int.toNat v2) x8) 141 6) = -1) from c9)] at this; exact this, ?_⟩
        refine ⟨fun _ => ?_, fun c => absurd (by decide) c⟩
        refine b_126_68 ?_
        refine ⟨(Ly.t141 L6 :), ?_⟩
        have H := H (Ly.wi L6 (a := 147) (k := Int.toNat v2) (x := x8) (by decide))
        obtain ⟨x31, h28, e30, L29, H⟩ := H
        refine ⟨x31, h28, e30, ?_⟩
        refine b_126_75 ?_
        exact H
  · have H := H.2 c1
    refine ⟨0, _, by have := m_122 (d := d) (by omega) (Ly.wi (Ly.wi L (a := 147) (k := Int.toNat v2) (x := (-1)) (by decide)) (a := 147) (k := Int.toNat (w32 (v2 + 1))) (x := (-1)) (by decide)); rw [if_neg (show ¬ ((ji (wi (wi h 147 (Int.toNat v2) (-1 : Int)) 147 (Int.toNat (w32 (v2 + 1))) (-1 : Int)) 141 6) = -1) from c1)] at this; exact this, ?_⟩
    refine ⟨fun _ => ?_, fun c => absurd (by decide) c⟩
    refine b_126_75 ?_
    exact H (Ly.wi (Ly.wi L (a := 147) (k := Int.toNat v2) (x := (-1)) (by decide)) (a := 147) (k := Int.toNat (w32 (v2 + 1))) (x := (-1)) (by decide))
set_option maxRecDepth 100000 in
theorem c_126v_0 {p : Lpar} {d : Nat} {h : AH} {Q : Option AV → AH → Prop} {v2 : Int} (hd : 9 ≤ d) (L : Ly p h) (H : 0 ≤ v2 ∧ v2 < 12 ∧ 0 ≤ (w32 (v2 + 1)) ∧ (w32 (v2 + 1)) < 12 ∧ ((ji h 141 6) = -1 → ((ji h 141 2) = 191 → (Ly p (wi (wi h 150 (Int.toNat v2) (-1 : Int)) 150 (Int.toNat (w32 (v2 + 1))) (-1 : Int)) → ∃ h2, jE d 118 [jP 141] (wi (wi h 150 (Int.toNat v2) (-1 : Int)) 150 (Int.toNat (w32 (v2 + 1))) (-1 : Int)) none h2 ∧ Ly p h2 ∧ ∃ x8 h5, jE d 125 [jP 141] h2 (some (jI x8)) h5 ∧ Ly p h5 ∧ 0 ≤ v2 ∧ v2 < 12 ∧ ((ji h5 141 6) = -1 → ((ji h5 141 2) = 144 → (Ly p (wi h5 150 (Int.toNat v2) x8) → ∃ h14, jE d 118 [jP 141] (wi h5 150 (Int.toNat v2) x8) none h14 ∧ Ly p h14 ∧ ∃ x20 h17, jE d 125 [jP 141] h14 (some (jI x20)) h17 ∧ Ly p h17 ∧ 0 ≤ (w32 (v2 + 1)) ∧ (w32 (v2 + 1)) < 12 ∧ (Ly p (wi h17 150 (Int.toNat (w32 (v2 + 1))) x20) → ∃ x24 h21, jE d 121 [jP 141, jI 93] (wi h17 150 (Int.toNat (w32 (v2 + 1))) x20) (some (jI x24)) h21 ∧ Ly p h21 ∧ Q none h21))) ∧ (¬ (ji h5 141 2) = 144 → (Ly p (wi h5 150 (Int.toNat v2) x8) → ∃ x13 h10, jE d 121 [jP 141, jI 93] (wi h5 150 (Int.toNat v2) x8) (some (jI x13)) h10 ∧ Ly p h10 ∧ Q none h10))) ∧ (¬ ((ji h5 141 6) = -1) → (Ly p (wi h5 150 (Int.toNat v2) x8) → ∃ x31 h28, jE d 121 [jP 141, jI 93] (wi h5 150 (Int.toNat v2) x8) (some (jI x31)) h28 ∧ Ly p h28 ∧ Q none h28)))) ∧ (¬ (ji h 141 2) = 191 → (Ly p (wi (wi h 150 (Int.toNat v2) (-1 : Int)) 150 (Int.toNat (w32 (v2 + 1))) (-1 : Int)) → Q none (wi (wi h 150 (Int.toNat v2) (-1 : Int)) 150 (Int.toNat (w32 (v2 + 1))) (-1 : Int))))) ∧ (¬ ((ji h 141 6) = -1) → (Ly p (wi (wi h 150 (Int.toNat v2) (-1 : Int)) 150 (Int.toNat (w32 (v2 + 1))) (-1 : Int)) → Q none (wi (wi h 150 (Int.toNat v2) (-1 : Int)) 150 (Int.toNat (w32 (v2 + 1))) (-1 : Int))))) : WF d 126 0 [jP 141, jP 150, jI v2] [] h Q := by
  refine b_126_0 ?_
  obtain ⟨z37, z38, H⟩ := H
  refine ⟨inW_mk (N := 12) (Ly.t150 L :) (Ly.n150 L :) z37 z38, ?_⟩
  refine b_126_4 ?_
  obtain ⟨z35, z36, H⟩ := H
  refine ⟨inW_mk (N := 12) (Ly.t150 L :) (Ly.n150 L :) z35 z36, ?_⟩
  refine b_126_10 ?_
  refine ⟨(Ly.t141 L :), ?_⟩
  by_cases c1 : (ji h 141 6) = -1
  · have H := H.1 c1
    refine ⟨1, _, by have := m_122 (d := d) (by omega) (Ly.wi (Ly.wi L (a := 150) (k := Int.toNat v2) (x := (-1)) (by decide)) (a := 150) (k := Int.toNat (w32 (v2 + 1))) (x := (-1)) (by decide)); rw [if_pos (show (ji (wi (wi h 150 (Int.toNat v2) (-1 : Int)) 150 (Int.toNat (w32 (v2 + 1))) (-1 : Int)) 141 6) = -1 from c1)] at this; exact this, ?_⟩
    refine ⟨fun c => absurd c (by decide), fun _ => ?_⟩
    refine ⟨(Ly.t141 L :), ?_⟩
    refine ⟨fun c34 => ?_, fun c34 => ?_⟩
    · have H := H.2 c34
      refine b_126_75 ?_
      exact H (Ly.wi (Ly.wi L (a := 150) (k := Int.toNat v2) (x := (-1)) (by decide)) (a := 150) (k := Int.toNat (w32 (v2 + 1))) (x := (-1)) (by decide))
    · have c34 := Decidable.not_not.mp c34
      have H := H.1 c34
      refine ⟨(Ly.t141 L :), ?_⟩
      have H := H (Ly.wi (Ly.wi L (a := 150) (k := Int.toNat v2) (x := (-1)) (by decide)) (a := 150) (k := Int.toNat (w32 (v2 + 1))) (x := (-1)) (by decide))
      obtain ⟨h2, e4, L3, H⟩ := H
      refine ⟨h2, e4, ?_⟩
      refine b_126_31 ?_
      refine ⟨(Ly.t141 L3 :), ?_⟩
      obtain ⟨x8, h5, e7, L6, H⟩ := H
      refine ⟨x8, h5, e7, ?_⟩
      obtain ⟨z32, z33, H⟩ := H
      refine ⟨inW_mk (N := 12) (Ly.t150 L6 :) (Ly.n150 L6 :) z32 z33, ?_⟩
      refine b_126_38 ?_
      refine ⟨(Ly.t141 L6 :), ?_⟩
      by_cases c9 : (ji h5 141 6) = -1
      · have H := H.1 c9
        refine ⟨1, _, by have := m_122 (d := d) (by omega) (Ly.wi L6 (a := 150) (k := Int.toNat v2) (x := x8) (by decide)); rw [if_pos (show (ji (wi h5 150 (Int.toNat v2) x8) 141 6) = -1 from c9)] at this; exact this, ?_⟩
        refine ⟨fun c => absurd c (by decide), fun _ => ?_⟩
        refine ⟨(Ly.t141 L6 :), ?_⟩
        refine ⟨fun c27 => ?_, fun c27 => ?_⟩
        · have H := H.2 c27
          refine b_126_68 ?_
          refine ⟨(Ly.t141 L6 :), ?_⟩
          have H := H (Ly.wi L6 (a := 150) (k := Int.toNat v2) (x := x8) (by decide))
          obtain ⟨x13, h10, e12, L11, H⟩ := H
          refine ⟨x13, h10, e12, ?_⟩
          refine b_126_75 ?_
          exact H
        · have c27 := Decidable.not_not.mp c27
          have H := H.1 c27
          refine ⟨(Ly.t141 L6 :), ?_⟩
          have H := H (Ly.wi L6 (a := 150) (k := Int.toNat v2) (x := x8) (by decide))
          obtain ⟨h14, e16, L15, H⟩ := H
          refine ⟨h14, e16, ?_⟩
          refine b_126_59 ?_
          refine ⟨(Ly.t141 L15 :), ?_⟩
          obtain ⟨x20, h17, e19, L18, H⟩ := H
          refine ⟨x20, h17, e19, ?_⟩
          obtain ⟨z25, z26, H⟩ := H
          refine ⟨inW_mk (N := 12) (Ly.t150 L18 :) (Ly.n150 L18 :) z25 z26, ?_⟩
          refine b_126_68 ?_
          refine ⟨(Ly.t141 L18 :), ?_⟩
          have H := H (Ly.wi L18 (a := 150) (k := Int.toNat (w32 (v2 + 1))) (x := x20) (by decide))
          obtain ⟨x24, h21, e23, L22, H⟩ := H
          refine ⟨x24, h21, e23, ?_⟩
          refine b_126_75 ?_
          exact H
      · have H := H.2 c9
        refine ⟨0, _, by have := m_122 (d := d) (by omega) (Ly.wi L6 (a := 150) (k := Int.toNat v2) (x := x8) (by decide)); rw [if_neg (show ¬ ((ji (wi h5 150 (Int.toNat v2) x8) 141 6) = -1) from c9)] at this; exact this, ?_⟩
        refine ⟨fun _ => ?_, fun c => absurd (by decide) c⟩
        refine b_126_68 ?_
        refine ⟨(Ly.t141 L6 :), ?_⟩
        have H := H (Ly.wi L6 (a := 150) (k := Int.toNat v2) (x := x8) (by decide))
        obtain ⟨x31, h28, e30, L29, H⟩ := H
        refine ⟨x31, h28, e30, ?_⟩
        refine b_126_75 ?_
        exact H
  · have H := H.2 c1
    refine ⟨0, _, by have := m_122 (d := d) (by omega) (Ly.wi (Ly.wi L (a := 150) (k := Int.toNat v2) (x := (-1)) (by decide)) (a := 150) (k := Int.toNat (w32 (v2 + 1))) (x := (-1)) (by decide)); rw [if_neg (show ¬ ((ji (wi (wi h 150 (Int.toNat v2) (-1 : Int)) 150 (Int.toNat (w32 (v2 + 1))) (-1 : Int)) 141 6) = -1) from c1)] at this; exact this, ?_⟩
    refine ⟨fun _ => ?_, fun c => absurd (by decide) c⟩
    refine b_126_75 ?_
    exact H (Ly.wi (Ly.wi L (a := 150) (k := Int.toNat v2) (x := (-1)) (by decide)) (a := 150) (k := Int.toNat (w32 (v2 + 1))) (x := (-1)) (by decide))
set_option maxRecDepth 100000 in
theorem c_130_0 {p : Lpar} {d : Nat} {h : AH} {Q : Option AV → AH → Prop}  (hd : 9 ≤ d) (L : Ly p h) (H : ∃ h1, jE d 118 [jP 141] h none h1 ∧ Ly p h1 ∧ WF d 130 4 [jP 141, jU, jU, jU] [] h1 Q) : WF d 130 0 [jP 141, jU, jU, jU] [] h Q := by
  refine b_130_0 ?_
  refine ⟨(Ly.t141 L :), ?_⟩
  obtain ⟨h1, e3, L2, H⟩ := H
  refine ⟨h1, e3, ?_⟩
  exact H
set_option maxRecDepth 100000 in
theorem c_130_4 {p : Lpar} {d : Nat} {h : AH} {Q : Option AV → AH → Prop} {z1 : AV} {z2 : AV} {z3 : AV} (hd : 9 ≤ d) (L : Ly p h) (H : ((ji h 141 11) = 6 → ((ji h 141 6) = -1 → (Ly p (wi h 141 6 (ji h 141 3)) → WF d 130 21 [jP 141, z1, z2, z3] [] (wi h 141 6 (ji h 141 3)) Q)) ∧ (¬ ((ji h 141 6) = -1) → (Ly p (wi h 141 6 (ji h 141 6)) → WF d 130 21 [jP 141, z1, z2, z3] [] (wi h 141 6 (ji h 141 6)) Q))) ∧ (¬ (ji h 141 11) = 6 → WF d 130 21 [jP 141, z1, z2, z3] [] h Q)) : WF d 130 4 [jP 141, z1, z2, z3] [] h Q := by
  refine b_130_4 ?_
  refine ⟨(Ly.t141 L :), ?_⟩
  refine ⟨fun c2 => ?_, fun c2 => ?_⟩
  · have H := H.2 c2
    exact H
  · have c2 := Decidable.not_not.mp c2
    have H := H.1 c2
    refine ⟨(Ly.t141 L :), ?_⟩
    refine ⟨(Ly.t141 L :), ?_⟩
    by_cases c1 : (ji h 141 6) = -1
    · have H := H.1 c1
      refine ⟨_, m_119y (d := d) (by omega) L c1, ?_⟩
      exact H (Ly.wi L (a := 141) (k := 6) (x := ji h 141 3) (by decide))
    · have H := H.2 c1
      refine ⟨_, m_119n (d := d) (by omega) L c1, ?_⟩
      exact H (Ly.wi L (a := 141) (k := 6) (x := ji h 141 6) (by decide))
set_option maxRecDepth 100000 in
theorem c_130_21 {p : Lpar} {d : Nat} {h : AH} {Q : Option AV → AH → Prop} {z1 : AV} {z2 : AV} {z3 : AV} (hd : 9 ≤ d) (L : Ly p h) (H : ∃ x4 h1, jE d 124 [jP 141] h (some (jI x4)) h1 ∧ Ly p h1 ∧ WF d 130 26 [jP 141, jI x4, z2, z3] [] h1 Q) : WF d 130 21 [jP 141, z1, z2, z3] [] h Q := by
  refine b_130_21 ?_
  refine ⟨(Ly.t141 L :), ?_⟩
  obtain ⟨x4, h1, e3, L2, H⟩ := H
  refine ⟨x4, h1, e3, ?_⟩
  exact H
set_option maxRecDepth 100000 in
theorem c_130_26 {p : Lpar} {d : Nat} {h : AH} {Q : Option AV → AH → Prop} {v1 : Int} {z2 : AV} {z3 : AV} (hd : 9 ≤ d) (L : Ly p h) (H : ((ji h 141 6) = -1 → ∃ h2, jE d 126 [jP 141, jP 147, jI (w32 (2 * (ji h 141 11)))] h none h2 ∧ Ly p h2 ∧ WF d 130 51 [jP 141, jI v1, z2, z3] [] h2 Q) ∧ (¬ ((ji h 141 6) = -1) → ∃ h5, jE d 126 [jP 141, jP 147, jI 0] h none h5 ∧ Ly p h5 ∧ WF d 130 51 [jP 141, jI v1, z2, z3] [] h5 Q)) : WF d 130 26 [jP 141, jI v1, z2, z3] [] h Q := by
  refine b_130_26 ?_
  refine ⟨(Ly.t141 L :), ?_⟩
  rw [show jr h 141 13 = 147 from (Ly.r141_13 L :)]
  refine ⟨(Ly.t141 L :), ?_⟩
  by_cases c1 : (ji h 141 6) = -1
  · have H := H.1 c1
    refine ⟨1, _, by have := m_122 (d := d) (by omega) L; rw [if_pos c1] at this; exact this, ?_⟩
    refine ⟨fun c => absurd c (by decide), fun _ => ?_⟩
    refine ⟨(Ly.t141 L :), ?_⟩
    refine ⟨(Ly.t141 L :), ?_⟩
    obtain ⟨h2, e4, L3, H⟩ := H
    refine ⟨h2, e4, ?_⟩
    exact H
  · have H := H.2 c1
    refine ⟨0, _, by have := m_122 (d := d) (by omega) L; rw [if_neg c1] at this; exact this, ?_⟩
    refine ⟨fun _ => ?_, fun c => absurd (by decide) c⟩
    refine ⟨(Ly.t141 L :), ?_⟩
    obtain ⟨h5, e7, L6, H⟩ := H
    refine ⟨h5, e7, ?_⟩
    exact H
set_option maxRecDepth 100000 in
theorem c_130_51 {p : Lpar} {d : Nat} {h : AH} {Q : Option AV → AH → Prop} {v1 : Int} {z2 : AV} {z3 : AV} (hd : 9 ≤ d) (L : Ly p h) (H : ∃ x4 h1, jE d 121 [jP 141, jI 61] h (some (jI x4)) h1 ∧ Ly p h1 ∧ WF d 130 58 [jP 141, jI v1, z2, z3] [] h1 Q) : WF d 130 51 [jP 141, jI v1, z2, z3] [] h Q := by
  refine b_130_51 ?_
  refine ⟨(Ly.t141 L :), ?_⟩
  obtain ⟨x4, h1, e3, L2, H⟩ := H
  refine ⟨x4, h1, e3, ?_⟩
  exact H
set_option maxRecDepth 100000 in
theorem c_130_58 {p : Lpar} {d : Nat} {h : AH} {Q : Option AV → AH → Prop} {v1 : Int} {z2 : AV} {z3 : AV} (hd : 9 ≤ d) (L : Ly p h) (H : ((ji h 141 6) = -1 → 0 ≤ (w32 (2 * (ji h 141 11))) ∧ (w32 (2 * (ji h 141 11))) < 12 ∧ ((ji h 147 (Int.toNat (w32 (2 * (ji h 141 11))))) = -1 ∨ (0 ≤ (ji h 147 (Int.toNat (w32 (2 * (ji h 141 11))))) ∧ (ji h 147 (Int.toNat (w32 (2 * (ji h 141 11))))) < 6)) ∧ 0 ≤ (w32 ((w32 (2 * (ji h 141 11))) + 1)) ∧ (w32 ((w32 (2 * (ji h 141 11))) + 1)) < 12 ∧ ((ji h 147 (Int.toNat (w32 ((w32 (2 * (ji h 141 11))) + 1)))) = -1 ∨ (0 ≤ (ji h 147 (Int.toNat (w32 ((w32 (2 * (ji h 141 11))) + 1)))) ∧ (ji h 147 (Int.toNat (w32 ((w32 (2 * (ji h 141 11))) + 1)))) < 6)) ∧ WF d 130 100 [jP 141, jI v1, jI (w32 ((if (ji h 147 (Int.toNat (w32 (2 * (ji h 141 11))))) = -1 then 1 else ji h 145 (Int.toNat (ji h 147 (Int.toNat (w32 (2 * (ji h 141 11))))))) * (if (ji h 147 (Int.toNat (w32 ((w32 (2 * (ji h 141 11))) + 1)))) = -1 then 1 else ji h 145 (Int.toNat (ji h 147 (Int.toNat (w32 ((w32 (2 * (ji h 141 11))) + 1)))))))), z3] [] h Q) ∧ (¬ ((ji h 141 6) = -1) → Q none h)) : WF d 130 58 [jP 141, jI v1, z2, z3] [] h Q := by
  refine b_130_58 ?_
  refine ⟨(Ly.t141 L :), ?_⟩
  by_cases c1 : (ji h 141 6) = -1
  · have H := H.1 c1
    refine ⟨1, _, by have := m_122 (d := d) (by omega) L; rw [if_pos c1] at this; exact this, ?_⟩
    refine ⟨fun _ => ?_, fun c => absurd (by decide) c⟩
    refine ⟨(Ly.t141 L :), ?_⟩
    rw [show jr h 141 13 = 147 from (Ly.r141_13 L :)]
    refine ⟨(Ly.t141 L :), ?_⟩
    obtain ⟨z2, z3, H⟩ := H
    refine ⟨inA_mk (N := 12) (Ly.t147 L :) (Ly.n147 L :) z2 z3, ?_⟩
    refine ⟨(Ly.t141 L :), ?_⟩
    obtain ⟨z4, H⟩ := H
    refine ⟨_, _, m_127 (d := d) (by omega) L z4, ?_⟩
    refine ⟨(Ly.t141 L :), ?_⟩
    rw [show jr h 141 13 = 147 from (Ly.r141_13 L :)]
    refine ⟨(Ly.t141 L :), ?_⟩
    obtain ⟨z5, z6, H⟩ := H
    refine ⟨inA_mk (N := 12) (Ly.t147 L :) (Ly.n147 L :) z5 z6, ?_⟩
    refine ⟨(Ly.t141 L :), ?_⟩
    obtain ⟨z7, H⟩ := H
    refine ⟨_, _, m_127 (d := d) (by omega) L z7, ?_⟩
    exact H
  · have H := H.2 c1
    refine ⟨0, _, by have := m_122 (d := d) (by omega) L; rw [if_neg c1] at this; exact this, ?_⟩
    refine ⟨fun c => absurd c (by decide), fun _ => ?_⟩
    exact H
set_option maxRecDepth 100000 in
theorem c_130_100 {p : Lpar} {d : Nat} {h : AH} {Q : Option AV → AH → Prop} {v1 : Int} {v2 : Int} {z3 : AV} (hd : 9 ≤ d) (L : Ly p h) (H : WF d 130 102 [jP 141, jI v1, jI v2, jI 0] [] h Q) : WF d 130 100 [jP 141, jI v1, jI v2, z3] [] h Q := by
  refine b_130_100 ?_
  exact H
set_option maxRecDepth 100000 in
theorem c_130_102 {p : Lpar} {d : Nat} {h : AH} {Q : Option AV → AH → Prop} {v1 : Int} {v2 : Int} {v3 : Int} (hd : 9 ≤ d) (L : Ly p h) (H : (v2 ≤ v3 → ∃ x4 h1, jE d 121 [jP 141, jI 59] h (some (jI x4)) h1 ∧ Ly p h1 ∧ (x4 = (0 : Int) → WF d 130 167 [jP 141, jI v1, jI v2, jI v3] [] h1 Q) ∧ (¬ (x4 = (0 : Int)) → 0 ≤ (ji h1 141 11) ∧ (ji h1 141 11) < 6 ∧ (Ly p (wi h1 146 (Int.toNat (ji h1 141 11)) v1) → WF d 130 157 [jP 141, jI v1, jI v2, jI v3] [] (wi h1 146 (Int.toNat (ji h1 141 11)) v1) Q))) ∧ (¬ (v2 ≤ v3) → ((ji h 141 6) = -1 → ∃ x12 h9, jE d 128 [jP 141] h (some (jI x12)) h9 ∧ Ly p h9 ∧ 0 ≤ (w32 ((w32 (64 * (ji h 141 11))) + v3)) ∧ (w32 ((w32 (64 * (ji h 141 11))) + v3)) < 384 ∧ (Ly p (wi h9 148 (Int.toNat (w32 ((w32 (64 * (ji h 141 11))) + v3))) x12) → WF d 130 132 [jP 141, jI v1, jI v2, jI v3] [] (wi h9 148 (Int.toNat (w32 ((w32 (64 * (ji h 141 11))) + v3))) x12) Q)) ∧ (¬ ((ji h 141 6) = -1) → ∃ x18 h15, jE d 121 [jP 141, jI 59] h (some (jI x18)) h15 ∧ Ly p h15 ∧ (x18 = (0 : Int) → WF d 130 167 [jP 141, jI v1, jI v2, jI v3] [] h15 Q) ∧ (¬ (x18 = (0 : Int)) → 0 ≤ (ji h15 141 11) ∧ (ji h15 141 11) < 6 ∧ (Ly p (wi h15 146 (Int.toNat (ji h15 141 11)) v1) → WF d 130 157 [jP 141, jI v1, jI v2, jI v3] [] (wi h15 146 (Int.toNat (ji h15 141 11)) v1) Q))))) : WF d 130 102 [jP 141, jI v1, jI v2, jI v3] [] h Q := by
  refine b_130_102 ?_
  refine ⟨fun c22 => ?_, fun c22 => ?_⟩
  · have H := H.1 c22
    refine ⟨(Ly.t141 L :), ?_⟩
    obtain ⟨x4, h1, e3, L2, H⟩ := H
    refine ⟨x4, h1, e3, ?_⟩
    refine ⟨fun c7 => ?_, fun c7 => ?_⟩
    · have H := H.1 c7
      exact H
    · have H := H.2 c7
      refine ⟨(Ly.t141 L2 :), ?_⟩
      rw [show jr h1 141 12 = 146 from (Ly.r141_12 L2 :)]
      refine ⟨(Ly.t141 L2 :), ?_⟩
      obtain ⟨z5, z6, H⟩ := H
      refine ⟨inW_mk (N := 6) (Ly.t146 L2 :) (Ly.n146 L2 :) z5 z6, ?_⟩
      exact H (Ly.wi L2 (a := 146) (k := Int.toNat (ji h1 141 11)) (x := v1) (by decide))
  · have H := H.2 c22
    refine ⟨(Ly.t141 L :), ?_⟩
    by_cases c8 : (ji h 141 6) = -1
    · have H := H.1 c8
      refine ⟨1, _, by have := m_122 (d := d) (by omega) L; rw [if_pos c8] at this; exact this, ?_⟩
      refine ⟨fun c => absurd c (by decide), fun _ => ?_⟩
      refine ⟨(Ly.t141 L :), ?_⟩
      rw [show jr h 141 14 = 148 from (Ly.r141_14 L :)]
      refine ⟨(Ly.t141 L :), ?_⟩
      refine ⟨(Ly.t141 L :), ?_⟩
      obtain ⟨x12, h9, e11, L10, H⟩ := H
      refine ⟨x12, h9, e11, ?_⟩
      obtain ⟨z13, z14, H⟩ := H
      refine ⟨inW_mk (N := 384) (Ly.t148 L10 :) (Ly.n148 L10 :) z13 z14, ?_⟩
      exact H (Ly.wi L10 (a := 148) (k := Int.toNat (w32 ((w32 (64 * (ji h 141 11))) + v3))) (x := x12) (by decide))
    · have H := H.2 c8
      refine ⟨0, _, by have := m_122 (d := d) (by omega) L; rw [if_neg c8] at this; exact this, ?_⟩
      refine ⟨fun _ => ?_, fun c => absurd (by decide) c⟩
      refine ⟨(Ly.t141 L :), ?_⟩
      obtain ⟨x18, h15, e17, L16, H⟩ := H
      refine ⟨x18, h15, e17, ?_⟩
      refine ⟨fun c21 => ?_, fun c21 => ?_⟩
      · have H := H.1 c21
        exact H
      · have H := H.2 c21
        refine ⟨(Ly.t141 L16 :), ?_⟩
        rw [show jr h15 141 12 = 146 from (Ly.r141_12 L16 :)]
        refine ⟨(Ly.t141 L16 :), ?_⟩
        obtain ⟨z19, z20, H⟩ := H
        refine ⟨inW_mk (N := 6) (Ly.t146 L16 :) (Ly.n146 L16 :) z19 z20, ?_⟩
        exact H (Ly.wi L16 (a := 146) (k := Int.toNat (ji h15 141 11)) (x := v1) (by decide))
set_option maxRecDepth 100000 in
theorem c_130_132 {p : Lpar} {d : Nat} {h : AH} {Q : Option AV → AH → Prop} {v1 : Int} {v2 : Int} {v3 : Int} (hd : 9 ≤ d) (L : Ly p h) (H : WF d 130 102 [jP 141, jI v1, jI v2, jI (w32 (v3 + 1))] [] h Q) : WF d 130 132 [jP 141, jI v1, jI v2, jI v3] [] h Q := by
  refine b_130_132 ?_
  exact H
set_option maxRecDepth 100000 in
theorem c_130_157 {p : Lpar} {d : Nat} {h : AH} {Q : Option AV → AH → Prop} {v1 : Int} {v2 : Int} {v3 : Int} (hd : 9 ≤ d) (L : Ly p h) (H : (Ly p (wi h 141 11 (w32 ((ji h 141 11) + 1))) → WF d 130 167 [jP 141, jI v1, jI v2, jI v3] [] (wi h 141 11 (w32 ((ji h 141 11) + 1))) Q)) : WF d 130 157 [jP 141, jI v1, jI v2, jI v3] [] h Q := by
  refine b_130_157 ?_
  refine ⟨(Ly.t141 L :), ?_⟩
  refine ⟨(Ly.t141 L :), ?_⟩
  exact H (Ly.wi L (a := 141) (k := 11) (x := w32 ((ji h 141 11) + 1)) (by decide))
set_option maxRecDepth 100000 in
theorem c_130_167 {p : Lpar} {d : Nat} {h : AH} {Q : Option AV → AH → Prop} {v1 : Int} {v2 : Int} {v3 : Int} (hd : 9 ≤ d) (L : Ly p h) (H : Q none h) : WF d 130 167 [jP 141, jI v1, jI v2, jI v3] [] h Q := by
  refine b_130_167 ?_
  exact H
set_option maxRecDepth 100000 in
theorem c_131_0 {p : Lpar} {d : Nat} {h : AH} {Q : Option AV → AH → Prop}  (hd : 9 ≤ d) (L : Ly p h) (H : ∃ h1, jE d 118 [jP 141] h none h1 ∧ Ly p h1 ∧ WF d 131 4 [jP 141, jU, jU, jU, jU] [] h1 Q) : WF d 131 0 [jP 141, jU, jU, jU, jU] [] h Q := by
  refine b_131_0 ?_
  refine ⟨(Ly.t141 L :), ?_⟩
  obtain ⟨h1, e3, L2, H⟩ := H
  refine ⟨h1, e3, ?_⟩
  exact H
set_option maxRecDepth 100000 in
theorem c_131_4 {p : Lpar} {d : Nat} {h : AH} {Q : Option AV → AH → Prop} {z1 : AV} {z2 : AV} {z3 : AV} {z4 : AV} (hd : 9 ≤ d) (L : Ly p h) (H : ((ji h 141 15) = 6 → ((ji h 141 6) = -1 → (Ly p (wi h 141 6 (ji h 141 3)) → WF d 131 21 [jP 141, z1, z2, z3, z4] [] (wi h 141 6 (ji h 141 3)) Q)) ∧ (¬ ((ji h 141 6) = -1) → (Ly p (wi h 141 6 (ji h 141 6)) → WF d 131 21 [jP 141, z1, z2, z3, z4] [] (wi h 141 6 (ji h 141 6)) Q))) ∧ (¬ (ji h 141 15) = 6 → WF d 131 21 [jP 141, z1, z2, z3, z4] [] h Q)) : WF d 131 4 [jP 141, z1, z2, z3, z4] [] h Q := by
  refine b_131_4 ?_
  refine ⟨(Ly.t141 L :), ?_⟩
  refine ⟨fun c2 => ?_, fun c2 => ?_⟩
  · have H := H.2 c2
    exact H
  · have c2 := Decidable.not_not.mp c2
    have H := H.1 c2
    refine ⟨(Ly.t141 L :), ?_⟩
    refine ⟨(Ly.t141 L :), ?_⟩
    by_cases c1 : (ji h 141 6) = -1
    · have H := H.1 c1
      refine ⟨_, m_119y (d := d) (by omega) L c1, ?_⟩
      exact H (Ly.wi L (a := 141) (k := 6) (x := ji h 141 3) (by decide))
    · have H := H.2 c1
      refine ⟨_, m_119n (d := d) (by omega) L c1, ?_⟩
      exact H (Ly.wi L (a := 141) (k := 6) (x := ji h 141 6) (by decide))
set_option maxRecDepth 100000 in
theorem c_131_21 {p : Lpar} {d : Nat} {h : AH} {Q : Option AV → AH → Prop} {z1 : AV} {z2 : AV} {z3 : AV} {z4 : AV} (hd : 9 ≤ d) (L : Ly p h) (H : ∃ x4 h1, jE d 124 [jP 141] h (some (jI x4)) h1 ∧ Ly p h1 ∧ WF d 131 26 [jP 141, jI x4, z2, z3, z4] [] h1 Q) : WF d 131 21 [jP 141, z1, z2, z3, z4] [] h Q := by
  refine b_131_21 ?_
  refine ⟨(Ly.t141 L :), ?_⟩
  obtain ⟨x4, h1, e3, L2, H⟩ := H
  refine ⟨x4, h1, e3, ?_⟩
  exact H
set_option maxRecDepth 100000 in
theorem c_131_26 {p : Lpar} {d : Nat} {h : AH} {Q : Option AV → AH → Prop} {v1 : Int} {z2 : AV} {z3 : AV} {z4 : AV} (hd : 9 ≤ d) (L : Ly p h) (H : ((ji h 141 6) = -1 → ∃ h2, jE d 126 [jP 141, jP 150, jI (w32 (2 * (ji h 141 15)))] h none h2 ∧ Ly p h2 ∧ WF d 131 51 [jP 141, jI v1, z2, z3, z4] [] h2 Q) ∧ (¬ ((ji h 141 6) = -1) → ∃ h5, jE d 126 [jP 141, jP 150, jI 0] h none h5 ∧ Ly p h5 ∧ WF d 131 51 [jP 141, jI v1, z2, z3, z4] [] h5 Q)) : WF d 131 26 [jP 141, jI v1, z2, z3, z4] [] h Q := by
  refine b_131_26 ?_
  refine ⟨(Ly.t141 L :), ?_⟩
  rw [show jr h 141 17 = 150 from (Ly.r141_17 L :)]
  refine ⟨(Ly.t141 L :), ?_⟩
  by_cases c1 : (ji h 141 6) = -1
  · have H := H.1 c1
    refine ⟨1, _, by have := m_122 (d := d) (by omega) L; rw [if_pos c1] at this; exact this, ?_⟩
    refine ⟨fun c => absurd c (by decide), fun _ => ?_⟩
    refine ⟨(Ly.t141 L :), ?_⟩
    refine ⟨(Ly.t141 L :), ?_⟩
    obtain ⟨h2, e4, L3, H⟩ := H
    refine ⟨h2, e4, ?_⟩
    exact H
  · have H := H.2 c1
    refine ⟨0, _, by have := m_122 (d := d) (by omega) L; rw [if_neg c1] at this; exact this, ?_⟩
    refine ⟨fun _ => ?_, fun c => absurd (by decide) c⟩
    refine ⟨(Ly.t141 L :), ?_⟩
    obtain ⟨h5, e7, L6, H⟩ := H
    refine ⟨h5, e7, ?_⟩
    exact H
set_option maxRecDepth 100000 in
theorem c_131_51 {p : Lpar} {d : Nat} {h : AH} {Q : Option AV → AH → Prop} {v1 : Int} {z2 : AV} {z3 : AV} {z4 : AV} (hd : 9 ≤ d) (L : Ly p h) (H : ∃ x4 h1, jE d 120 [jP 141, jI 18] h (some (jI x4)) h1 ∧ Ly p h1 ∧ WF d 131 58 [jP 141, jI v1, z2, z3, z4] [] h1 Q) : WF d 131 51 [jP 141, jI v1, z2, z3, z4] [] h Q := by
  refine b_131_51 ?_
  refine ⟨(Ly.t141 L :), ?_⟩
  obtain ⟨x4, h1, e3, L2, H⟩ := H
  refine ⟨x4, h1, e3, ?_⟩
  exact H
set_option maxRecDepth 100000 in
theorem c_131_58 {p : Lpar} {d : Nat} {h : AH} {Q : Option AV → AH → Prop} {v1 : Int} {z2 : AV} {z3 : AV} {z4 : AV} (hd : 9 ≤ d) (L : Ly p h) (H : ∃ x4 h1, jE d 128 [jP 141] h (some (jI x4)) h1 ∧ Ly p h1 ∧ WF d 131 63 [jP 141, jI v1, jI x4, z3, z4] [] h1 Q) : WF d 131 58 [jP 141, jI v1, z2, z3, z4] [] h Q := by
  refine b_131_58 ?_
  refine ⟨(Ly.t141 L :), ?_⟩
  obtain ⟨x4, h1, e3, L2, H⟩ := H
  refine ⟨x4, h1, e3, ?_⟩
  exact H
set_option maxRecDepth 100000 in
theorem c_131_63 {p : Lpar} {d : Nat} {h : AH} {Q : Option AV → AH → Prop} {v1 : Int} {v2 : Int} {z3 : AV} {z4 : AV} (hd : 9 ≤ d) (L : Ly p h) (H : ∃ x4 h1, jE d 120 [jP 141, jI 22] h (some (jI x4)) h1 ∧ Ly p h1 ∧ WF d 131 70 [jP 141, jI v1, jI v2, z3, z4] [] h1 Q) : WF d 131 63 [jP 141, jI v1, jI v2, z3, z4] [] h Q := by
  refine b_131_63 ?_
  refine ⟨(Ly.t141 L :), ?_⟩
  obtain ⟨x4, h1, e3, L2, H⟩ := H
  refine ⟨x4, h1, e3, ?_⟩
  exact H
set_option maxRecDepth 100000 in
theorem c_131_70 {p : Lpar} {d : Nat} {h : AH} {Q : Option AV → AH → Prop} {v1 : Int} {v2 : Int} {z3 : AV} {z4 : AV} (hd : 9 ≤ d) (L : Ly p h) (H : WF d 131 75 [jP 141, jI v1, jI v2, jI (ji h 141 3), z4] [] h Q) : WF d 131 70 [jP 141, jI v1, jI v2, z3, z4] [] h Q := by
  refine b_131_70 ?_
  refine ⟨(Ly.t141 L :), ?_⟩
  exact H
set_option maxRecDepth 100000 in
theorem c_131_75 {p : Lpar} {d : Nat} {h : AH} {Q : Option AV → AH → Prop} {v1 : Int} {v2 : Int} {v3 : Int} {z4 : AV} (hd : 9 ≤ d) (L : Ly p h) (H : ∃ x4 h1, jE d 128 [jP 141] h (some (jI x4)) h1 ∧ Ly p h1 ∧ WF d 131 81 [jP 141, jI v1, jI v2, jI v3, jI x4] [] h1 Q) : WF d 131 75 [jP 141, jI v1, jI v2, jI v3, z4] [] h Q := by
  refine b_131_75 ?_
  refine ⟨(Ly.t141 L :), ?_⟩
  obtain ⟨x4, h1, e3, L2, H⟩ := H
  refine ⟨x4, h1, e3, ?_⟩
  exact H
set_option maxRecDepth 100000 in
theorem c_131_81 {p : Lpar} {d : Nat} {h : AH} {Q : Option AV → AH → Prop} {v1 : Int} {v2 : Int} {v3 : Int} {v4 : Int} (hd : 9 ≤ d) (L : Ly p h) (H : ((ji h 141 6) = -1 → (v2 ≤ v4 → WF d 131 99 [jP 141, jI v1, jI v2, jI v3, jI v4] [] h Q) ∧ (¬ (v2 ≤ v4) → ((ji h 141 6) = -1 → (Ly p (wi h 141 6 v3) → WF d 131 99 [jP 141, jI v1, jI v2, jI v3, jI v4] [] (wi h 141 6 v3) Q)) ∧ (¬ ((ji h 141 6) = -1) → (Ly p (wi h 141 6 (ji h 141 6)) → WF d 131 99 [jP 141, jI v1, jI v2, jI v3, jI v4] [] (wi h 141 6 (ji h 141 6)) Q)))) ∧ (¬ ((ji h 141 6) = -1) → WF d 131 99 [jP 141, jI v1, jI v2, jI v3, jI v4] [] h Q)) : WF d 131 81 [jP 141, jI v1, jI v2, jI v3, jI v4] [] h Q := by
  refine b_131_81 ?_
  refine ⟨(Ly.t141 L :), ?_⟩
  by_cases c1 : (ji h 141 6) = -1
  · have H := H.1 c1
    refine ⟨1, _, by have := m_122 (d := d) (by omega) L; rw [if_pos c1] at this; exact this, ?_⟩
    refine ⟨fun c => absurd c (by decide), fun _ => ?_⟩
    refine ⟨fun c3 => ?_, fun c3 => ?_⟩
    · have H := H.1 c3
      exact H
    · have H := H.2 c3
      refine ⟨(Ly.t141 L :), ?_⟩
      by_cases c2 : (ji h 141 6) = -1
      · have H := H.1 c2
        refine ⟨_, m_119y (d := d) (by omega) L c2, ?_⟩
        exact H (Ly.wi L (a := 141) (k := 6) (x := v3) (by decide))
      · have H := H.2 c2
        refine ⟨_, m_119n (d := d) (by omega) L c2, ?_⟩
        exact H (Ly.wi L (a := 141) (k := 6) (x := ji h 141 6) (by decide))
  · have H := H.2 c1
    refine ⟨0, _, by have := m_122 (d := d) (by omega) L; rw [if_neg c1] at this; exact this, ?_⟩
    refine ⟨fun _ => ?_, fun c => absurd (by decide) c⟩
    exact H
set_option maxRecDepth 100000 in
theorem c_131_99 {p : Lpar} {d : Nat} {h : AH} {Q : Option AV → AH → Prop} {v1 : Int} {v2 : Int} {v3 : Int} {v4 : Int} (hd : 9 ≤ d) (L : Ly p h) (H : ∃ x4 h1, jE d 121 [jP 141, jI 59] h (some (jI x4)) h1 ∧ Ly p h1 ∧ (x4 = (0 : Int) → WF d 131 149 [jP 141, jI v1, jI v2, jI v3, jI v4] [] h1 Q) ∧ (¬ (x4 = (0 : Int)) → 0 ≤ (ji h1 141 15) ∧ (ji h1 141 15) < 6 ∧ (Ly p (wi h1 149 (Int.toNat (ji h1 141 15)) v1) → WF d 131 118 [jP 141, jI v1, jI v2, jI v3, jI v4] [] (wi h1 149 (Int.toNat (ji h1 141 15)) v1) Q))) : WF d 131 99 [jP 141, jI v1, jI v2, jI v3, jI v4] [] h Q := by
  refine b_131_99 ?_
  refine ⟨(Ly.t141 L :), ?_⟩
  obtain ⟨x4, h1, e3, L2, H⟩ := H
  refine ⟨x4, h1, e3, ?_⟩
  refine ⟨fun c7 => ?_, fun c7 => ?_⟩
  · have H := H.1 c7
    exact H
  · have H := H.2 c7
    refine ⟨(Ly.t141 L2 :), ?_⟩
    rw [show jr h1 141 16 = 149 from (Ly.r141_16 L2 :)]
    refine ⟨(Ly.t141 L2 :), ?_⟩
    obtain ⟨z5, z6, H⟩ := H
    refine ⟨inW_mk (N := 6) (Ly.t149 L2 :) (Ly.n149 L2 :) z5 z6, ?_⟩
    exact H (Ly.wi L2 (a := 149) (k := Int.toNat (ji h1 141 15)) (x := v1) (by decide))
set_option maxRecDepth 100000 in
theorem c_131_118 {p : Lpar} {d : Nat} {h : AH} {Q : Option AV → AH → Prop} {v1 : Int} {v2 : Int} {v3 : Int} {v4 : Int} (hd : 9 ≤ d) (L : Ly p h) (H : 0 ≤ (ji h 141 15) ∧ (ji h 141 15) < 6 ∧ (Ly p (wi h 151 (Int.toNat (ji h 141 15)) v2) → WF d 131 128 [jP 141, jI v1, jI v2, jI v3, jI v4] [] (wi h 151 (Int.toNat (ji h 141 15)) v2) Q)) : WF d 131 118 [jP 141, jI v1, jI v2, jI v3, jI v4] [] h Q := by
  refine b_131_118 ?_
  refine ⟨(Ly.t141 L :), ?_⟩
  rw [show jr h 141 18 = 151 from (Ly.r141_18 L :)]
  refine ⟨(Ly.t141 L :), ?_⟩
  obtain ⟨z1, z2, H⟩ := H
  refine ⟨inW_mk (N := 6) (Ly.t151 L :) (Ly.n151 L :) z1 z2, ?_⟩
  exact H (Ly.wi L (a := 151) (k := Int.toNat (ji h 141 15)) (x := v2) (by decide))
set_option maxRecDepth 100000 in
theorem c_131_128 {p : Lpar} {d : Nat} {h : AH} {Q : Option AV → AH → Prop} {v1 : Int} {v2 : Int} {v3 : Int} {v4 : Int} (hd : 9 ≤ d) (L : Ly p h) (H : 0 ≤ (ji h 141 15) ∧ (ji h 141 15) < 6 ∧ (Ly p (wi h 152 (Int.toNat (ji h 141 15)) v4) → WF d 131 139 [jP 141, jI v1, jI v2, jI v3, jI v4] [] (wi h 152 (Int.toNat (ji h 141 15)) v4) Q)) : WF d 131 128 [jP 141, jI v1, jI v2, jI v3, jI v4] [] h Q := by
  refine b_131_128 ?_
  refine ⟨(Ly.t141 L :), ?_⟩
  rw [show jr h 141 19 = 152 from (Ly.r141_19 L :)]
  refine ⟨(Ly.t141 L :), ?_⟩
  obtain ⟨z1, z2, H⟩ := H
  refine ⟨inW_mk (N := 6) (Ly.t152 L :) (Ly.n152 L :) z1 z2, ?_⟩
  exact H (Ly.wi L (a := 152) (k := Int.toNat (ji h 141 15)) (x := v4) (by decide))
set_option maxRecDepth 100000 in
theorem c_131_139 {p : Lpar} {d : Nat} {h : AH} {Q : Option AV → AH → Prop} {v1 : Int} {v2 : Int} {v3 : Int} {v4 : Int} (hd : 9 ≤ d) (L : Ly p h) (H : (Ly p (wi h 141 15 (w32 ((ji h 141 15) + 1))) → WF d 131 149 [jP 141, jI v1, jI v2, jI v3, jI v4] [] (wi h 141 15 (w32 ((ji h 141 15) + 1))) Q)) : WF d 131 139 [jP 141, jI v1, jI v2, jI v3, jI v4] [] h Q := by
  refine b_131_139 ?_
  refine ⟨(Ly.t141 L :), ?_⟩
  refine ⟨(Ly.t141 L :), ?_⟩
  exact H (Ly.wi L (a := 141) (k := 15) (x := w32 ((ji h 141 15) + 1)) (by decide))
set_option maxRecDepth 100000 in
theorem c_131_149 {p : Lpar} {d : Nat} {h : AH} {Q : Option AV → AH → Prop} {v1 : Int} {v2 : Int} {v3 : Int} {v4 : Int} (hd : 9 ≤ d) (L : Ly p h) (H : Q none h) : WF d 131 149 [jP 141, jI v1, jI v2, jI v3, jI v4] [] h Q := by
  refine b_131_149 ?_
  exact H
