-- needs: 20.num 21.lay 22.spec 23.va 24.leaf 25.tbls 26.thg 27.tok
set_option maxRecDepth 100000 in
theorem c_113_0 {p : Lpar} {d : Nat} {h : AH} {Q : Option AV → AH → Prop}  (hd : 9 ≤ d) (L : Ly p h) (H : (Ly p (wi h 141 5 0) → WF d 113 5 [jP 141] [] (wi h 141 5 0) Q)) : WF d 113 0 [jP 141] [] h Q := by
  refine b_113_0 ?_
  refine ⟨(Ly.t141 L :), ?_⟩
  exact H (Ly.wi L (a := 141) (k := 5) (x := 0) (by decide))
set_option maxRecDepth 100000 in
theorem c_113_5 {p : Lpar} {d : Nat} {h : AH} {Q : Option AV → AH → Prop}  (hd : 9 ≤ d) (L : Ly p h) (H : 0 ≤ (ji h 141 4) ∧ (ji h 141 1) ≤ 400 ∧ (97 ≤ (if (ji h 141 4) < (ji h 141 1) then ji h 142 (Int.toNat (ji h 141 4)) else -1) ∧ (if (ji h 141 4) < (ji h 141 1) then ji h 142 (Int.toNat (ji h 141 4)) else -1) ≤ 122 → (5 ≤ (w32 ((ji h 141 4) - (ji h 141 3))) → (Ly p (wi (wi h 141 5 (ji h 141 5)) 141 4 (w32 ((ji h 141 4) + 1))) → WF d 113 5 [jP 141] [] (wi (wi h 141 5 (ji h 141 5)) 141 4 (w32 ((ji h 141 4) + 1))) Q)) ∧ (¬ (5 ≤ (w32 ((ji h 141 4) - (ji h 141 3)))) → 0 ≤ (ji h 141 4) ∧ (ji h 141 1) ≤ 400 ∧ (Ly p (wi (wi h 141 5 (w32 ((w32 ((w32 (27 * (ji h 141 5))) + (if (ji h 141 4) < (ji h 141 1) then ji h 142 (Int.toNat (ji h 141 4)) else -1))) - 96))) 141 4 (w32 ((ji h 141 4) + 1))) → WF d 113 5 [jP 141] [] (wi (wi h 141 5 (w32 ((w32 ((w32 (27 * (ji h 141 5))) + (if (ji h 141 4) < (ji h 141 1) then ji h 142 (Int.toNat (ji h 141 4)) else -1))) - 96))) 141 4 (w32 ((ji h 141 4) + 1))) Q))) ∧ (¬ (97 ≤ (if (ji h 141 4) < (ji h 141 1) then ji h 142 (Int.toNat (ji h 141 4)) else -1) ∧ (if (ji h 141 4) < (ji h 141 1) then ji h 142 (Int.toNat (ji h 141 4)) else -1) ≤ 122) → ((w32 ((ji h 141 4) - (ji h 141 3))) ≤ 4 → ∃ x10 h7, jE d 115 [jP 141] h (some (jI x10)) h7 ∧ Ly p h7 ∧ (Ly p (wi h7 141 2 x10) → Q none (wi h7 141 2 x10))) ∧ (¬ ((w32 ((ji h 141 4) - (ji h 141 3))) ≤ 4) → (Ly p (wi h 141 2 4) → Q none (wi h 141 2 4))))) : WF d 113 5 [jP 141] [] h Q := by
  refine b_113_5 ?_
  refine ⟨(Ly.t141 L :), ?_⟩
  refine ⟨(Ly.t141 L :), ?_⟩
  obtain ⟨z1, z2, H⟩ := H
  refine ⟨_, _, m_110 (d := d) (by omega) L z1 z2, ?_⟩
  by_cases c3 : 97 ≤ (if (ji h 141 4) < (ji h 141 1) then ji h 142 (Int.toNat (ji h 141 4)) else -1) ∧ (if (ji h 141 4) < (ji h 141 1) then ji h 142 (Int.toNat (ji h 141 4)) else -1) ≤ 122
  · have H := H.1 c3
    refine ⟨1, _, by have := m_111 (d := d) (c := if (ji h 141 4) < (ji h 141 1) then ji h 142 (Int.toNat (ji h 141 4)) else -1) (by omega) L; rw [if_pos c3] at this; exact this, ?_⟩
    refine ⟨fun c => absurd c (by decide), fun _ => ?_⟩
    refine ⟨(Ly.t141 L :), ?_⟩
    refine ⟨(Ly.t141 L :), ?_⟩
    refine ⟨fun c6 => ?_, fun c6 => ?_⟩
    · have H := H.1 c6
      refine ⟨(Ly.t141 L :), ?_⟩
      refine ⟨(Ly.t141 L :), ?_⟩
      refine b_113_62 ?_
      refine ⟨(Ly.t141 L :), ?_⟩
      refine ⟨(Ly.t141 L :), ?_⟩
      refine b_113_72 ?_
      exact H (Ly.wi (Ly.wi L (a := 141) (k := 5) (x := ji h 141 5) (by decide)) (a := 141) (k := 4) (x := w32 ((ji (wi h 141 5 (ji h 141 5)) 141 4) + 1)) (by decide))
    · have H := H.2 c6
      refine ⟨(Ly.t141 L :), ?_⟩
      refine ⟨(Ly.t141 L :), ?_⟩
      refine ⟨(Ly.t141 L :), ?_⟩
      obtain ⟨z4, z5, H⟩ := H
      refine ⟨_, _, m_110 (d := d) (by omega) L z4 z5, ?_⟩
      refine ⟨(Ly.t141 L :), ?_⟩
      refine b_113_62 ?_
      refine ⟨(Ly.t141 L :), ?_⟩
      refine ⟨(Ly.t141 L :), ?_⟩
      refine b_113_72 ?_
      exact H (Ly.wi (Ly.wi L (a := 141) (k := 5) (x := w32 ((w32 ((w32 (27 * (ji h 141 5))) + (if (ji h 141 4) < (ji h 141 1) then ji h 142 (Int.toNat (ji h 141 4)) else -1))) - 96)) (by decide)) (a := 141) (k := 4) (x := w32 ((ji (wi h 141 5 (w32 ((w32 ((w32 (27 * (ji h 141 5))) + (if (ji h 141 4) < (ji h 141 1) then ji h 142 (Int.toNat (ji h 141 4)) else -1))) - 96))) 141 4) + 1)) (by decide))
  · have H := H.2 c3
    refine ⟨0, _, by have := m_111 (d := d) (c := if (ji h 141 4) < (ji h 141 1) then ji h 142 (Int.toNat (ji h 141 4)) else -1) (by omega) L; rw [if_neg c3] at this; exact this, ?_⟩
    refine ⟨fun _ => ?_, fun c => absurd (by decide) c⟩
    refine ⟨(Ly.t141 L :), ?_⟩
    refine ⟨(Ly.t141 L :), ?_⟩
    refine ⟨fun c11 => ?_, fun c11 => ?_⟩
    · have H := H.1 c11
      refine ⟨(Ly.t141 L :), ?_⟩
      obtain ⟨x10, h7, e9, L8, H⟩ := H
      refine ⟨x10, h7, e9, ?_⟩
      refine ⟨(Ly.t141 L8 :), ?_⟩
      refine b_113_100 ?_
      exact H (Ly.wi L8 (a := 141) (k := 2) (x := x10) (by decide))
    · have H := H.2 c11
      refine ⟨(Ly.t141 L :), ?_⟩
      refine b_113_100 ?_
      exact H (Ly.wi L (a := 141) (k := 2) (x := 4) (by decide))
set_option maxRecDepth 100000 in
theorem c_115_0 {p : Lpar} {d : Nat} {h : AH} {Q : Option AV → AH → Prop}  (hd : 9 ≤ d) (L : Ly p h) (H : ∃ x4 h1, jE d 114 [jI 115, jI 101, jI 116, jI 0] h (some (jI x4)) h1 ∧ Ly p h1 ∧ ((ji h 141 5) = x4 → Q (some (jI 10)) h1) ∧ (¬ (ji h 141 5) = x4 → ∃ x8 h5, jE d 114 [jI 100, jI 97, jI 116, jI 97] h1 (some (jI x8)) h5 ∧ Ly p h5 ∧ ((ji h1 141 5) = x8 → Q (some (jI 11)) h5) ∧ (¬ (ji h1 141 5) = x8 → ∃ x12 h9, jE d 114 [jI 118, jI 97, jI 114, jI 0] h5 (some (jI x12)) h9 ∧ Ly p h9 ∧ ((ji h5 141 5) = x12 → Q (some (jI 12)) h9) ∧ (¬ (ji h5 141 5) = x12 → ∃ x16 h13, jE d 114 [jI 114, jI 117, jI 108, jI 101] h9 (some (jI x16)) h13 ∧ Ly p h13 ∧ ((ji h9 141 5) = x16 → Q (some (jI 13)) h13) ∧ (¬ (ji h9 141 5) = x16 → ∃ x20 h17, jE d 114 [jI 103, jI 111, jI 97, jI 108] h13 (some (jI x20)) h17 ∧ Ly p h17 ∧ ((ji h13 141 5) = x20 → Q (some (jI 14)) h17) ∧ (¬ (ji h13 141 5) = x20 → ∃ x24 h21, jE d 114 [jI 109, jI 105, jI 110, jI 0] h17 (some (jI x24)) h21 ∧ Ly p h21 ∧ ((ji h17 141 5) = x24 → Q (some (jI 15)) h21) ∧ (¬ (ji h17 141 5) = x24 → ∃ x28 h25, jE d 114 [jI 109, jI 97, jI 120, jI 0] h21 (some (jI x28)) h25 ∧ Ly p h25 ∧ ((ji h21 141 5) = x28 → Q (some (jI 16)) h25) ∧ (¬ (ji h21 141 5) = x28 → ∃ x32 h29, jE d 114 [jI 115, jI 117, jI 109, jI 0] h25 (some (jI x32)) h29 ∧ Ly p h29 ∧ ((ji h25 141 5) = x32 → Q (some (jI 17)) h29) ∧ (¬ (ji h25 141 5) = x32 → ∃ x36 h33, jE d 114 [jI 105, jI 110, jI 0, jI 0] h29 (some (jI x36)) h33 ∧ Ly p h33 ∧ ((ji h29 141 5) = x36 → Q (some (jI 18)) h33) ∧ (¬ (ji h29 141 5) = x36 → ∃ x40 h37, jE d 114 [jI 102, jI 111, jI 114, jI 0] h33 (some (jI x40)) h37 ∧ Ly p h37 ∧ ((ji h33 141 5) = x40 → Q (some (jI 19)) h37) ∧ (¬ (ji h33 141 5) = x40 → Q (some (jI 1)) h37))))))))))) : WF d 115 0 [jP 141] [] h Q := by
  refine b_115_0 ?_
  refine ⟨(Ly.t141 L :), ?_⟩
  obtain ⟨x4, h1, e3, L2, H⟩ := H
  refine ⟨x4, h1, e3, ?_⟩
  refine ⟨fun c50 => ?_, fun c50 => ?_⟩
  · have H := H.2 c50
    refine ⟨(Ly.t141 L2 :), ?_⟩
    obtain ⟨x8, h5, e7, L6, H⟩ := H
    refine ⟨x8, h5, e7, ?_⟩
    refine ⟨fun c49 => ?_, fun c49 => ?_⟩
    · have H := H.2 c49
      refine ⟨(Ly.t141 L6 :), ?_⟩
      obtain ⟨x12, h9, e11, L10, H⟩ := H
      refine ⟨x12, h9, e11, ?_⟩
      refine ⟨fun c48 => ?_, fun c48 => ?_⟩
      · have H := H.2 c48
        refine ⟨(Ly.t141 L10 :), ?_⟩
        obtain ⟨x16, h13, e15, L14, H⟩ := H
        refine ⟨x16, h13, e15, ?_⟩
        refine ⟨fun c47 => ?_, fun c47 => ?_⟩
        · have H := H.2 c47
          refine ⟨(Ly.t141 L14 :), ?_⟩
          obtain ⟨x20, h17, e19, L18, H⟩ := H
          refine ⟨x20, h17, e19, ?_⟩
          refine ⟨fun c46 => ?_, fun c46 => ?_⟩
          · have H := H.2 c46
            refine ⟨(Ly.t141 L18 :), ?_⟩
            obtain ⟨x24, h21, e23, L22, H⟩ := H
            refine ⟨x24, h21, e23, ?_⟩
            refine ⟨fun c45 => ?_, fun c45 => ?_⟩
            · have H := H.2 c45
              refine ⟨(Ly.t141 L22 :), ?_⟩
              obtain ⟨x28, h25, e27, L26, H⟩ := H
              refine ⟨x28, h25, e27, ?_⟩
              refine ⟨fun c44 => ?_, fun c44 => ?_⟩
              · have H := H.2 c44
                refine ⟨(Ly.t141 L26 :), ?_⟩
                obtain ⟨x32, h29, e31, L30, H⟩ := H
                refine ⟨x32, h29, e31, ?_⟩
                refine ⟨fun c43 => ?_, fun c43 => ?_⟩
                · have H := H.2 c43
                  refine ⟨(Ly.t141 L30 :), ?_⟩
                  obtain ⟨x36, h33, e35, L34, H⟩ := H
                  refine ⟨x36, h33, e35, ?_⟩
                  refine ⟨fun c42 => ?_, fun c42 => ?_⟩
                  · have H := H.2 c42
                    refine ⟨(Ly.t141 L34 :), ?_⟩
                    obtain ⟨x40, h37, e39, L38, H⟩ := H
                    refine ⟨x40, h37, e39, ?_⟩
                    refine ⟨fun c41 => ?_, fun c41 => ?_⟩
                    · have H := H.2 c41
                      exact H
                    · have c41 := Decidable.not_not.mp c41
                      have H := H.1 c41
                      exact H
                  · have c42 := Decidable.not_not.mp c42
                    have H := H.1 c42
                    exact H
                · have c43 := Decidable.not_not.mp c43
                  have H := H.1 c43
                  exact H
              · have c44 := Decidable.not_not.mp c44
                have H := H.1 c44
                exact H
            · have c45 := Decidable.not_not.mp c45
              have H := H.1 c45
              exact H
          · have c46 := Decidable.not_not.mp c46
            have H := H.1 c46
            exact H
        · have c47 := Decidable.not_not.mp c47
          have H := H.1 c47
          exact H
      · have c48 := Decidable.not_not.mp c48
        have H := H.1 c48
        exact H
    · have c49 := Decidable.not_not.mp c49
      have H := H.1 c49
      exact H
  · have c50 := Decidable.not_not.mp c50
    have H := H.1 c50
    exact H
set_option maxRecDepth 100000 in
theorem c_116_0 {p : Lpar} {d : Nat} {h : AH} {Q : Option AV → AH → Prop}  (hd : 9 ≤ d) (L : Ly p h) (H : (Ly p (wi h 141 5 0) → WF d 116 5 [jP 141] [] (wi h 141 5 0) Q)) : WF d 116 0 [jP 141] [] h Q := by
  refine b_116_0 ?_
  refine ⟨(Ly.t141 L :), ?_⟩
  exact H (Ly.wi L (a := 141) (k := 5) (x := 0) (by decide))
set_option maxRecDepth 100000 in
theorem c_116_5 {p : Lpar} {d : Nat} {h : AH} {Q : Option AV → AH → Prop}  (hd : 9 ≤ d) (L : Ly p h) (H : 0 ≤ (ji h 141 4) ∧ (ji h 141 1) ≤ 400 ∧ (48 ≤ (if (ji h 141 4) < (ji h 141 1) then ji h 142 (Int.toNat (ji h 141 4)) else -1) ∧ (if (ji h 141 4) < (ji h 141 1) then ji h 142 (Int.toNat (ji h 141 4)) else -1) ≤ 57 → (4 ≤ (w32 ((ji h 141 4) - (ji h 141 3))) → (Ly p (wi (wi h 141 5 (ji h 141 5)) 141 4 (w32 ((ji h 141 4) + 1))) → WF d 116 5 [jP 141] [] (wi (wi h 141 5 (ji h 141 5)) 141 4 (w32 ((ji h 141 4) + 1))) Q)) ∧ (¬ (4 ≤ (w32 ((ji h 141 4) - (ji h 141 3)))) → 0 ≤ (ji h 141 4) ∧ (ji h 141 1) ≤ 400 ∧ (Ly p (wi (wi h 141 5 (w32 ((w32 ((w32 (10 * (ji h 141 5))) + (if (ji h 141 4) < (ji h 141 1) then ji h 142 (Int.toNat (ji h 141 4)) else -1))) - 48))) 141 4 (w32 ((ji h 141 4) + 1))) → WF d 116 5 [jP 141] [] (wi (wi h 141 5 (w32 ((w32 ((w32 (10 * (ji h 141 5))) + (if (ji h 141 4) < (ji h 141 1) then ji h 142 (Int.toNat (ji h 141 4)) else -1))) - 48))) 141 4 (w32 ((ji h 141 4) + 1))) Q))) ∧ (¬ (48 ≤ (if (ji h 141 4) < (ji h 141 1) then ji h 142 (Int.toNat (ji h 141 4)) else -1) ∧ (if (ji h 141 4) < (ji h 141 1) then ji h 142 (Int.toNat (ji h 141 4)) else -1) ≤ 57) → ((w32 ((ji h 141 4) - (ji h 141 3))) ≤ 4 → (Ly p (wi h 141 2 2) → Q none (wi h 141 2 2))) ∧ (¬ ((w32 ((ji h 141 4) - (ji h 141 3))) ≤ 4) → (Ly p (wi h 141 2 4) → Q none (wi h 141 2 4))))) : WF d 116 5 [jP 141] [] h Q := by
  refine b_116_5 ?_
  refine ⟨(Ly.t141 L :), ?_⟩
  refine ⟨(Ly.t141 L :), ?_⟩
  obtain ⟨z1, z2, H⟩ := H
  refine ⟨_, _, m_110 (d := d) (by omega) L z1 z2, ?_⟩
  by_cases c3 : 48 ≤ (if (ji h 141 4) < (ji h 141 1) then ji h 142 (Int.toNat (ji h 141 4)) else -1) ∧ (if (ji h 141 4) < (ji h 141 1) then ji h 142 (Int.toNat (ji h 141 4)) else -1) ≤ 57
  · have H := H.1 c3
    refine ⟨1, _, by have := m_112 (d := d) (c := if (ji h 141 4) < (ji h 141 1) then ji h 142 (Int.toNat (ji h 141 4)) else -1) (by omega) L; rw [if_pos c3] at this; exact this, ?_⟩
    refine ⟨fun c => absurd c (by decide), fun _ => ?_⟩
    refine ⟨(Ly.t141 L :), ?_⟩
    refine ⟨(Ly.t141 L :), ?_⟩
    refine ⟨fun c6 => ?_, fun c6 => ?_⟩
    · have H := H.1 c6
      refine ⟨(Ly.t141 L :), ?_⟩
      refine ⟨(Ly.t141 L :), ?_⟩
      refine b_116_62 ?_
      refine ⟨(Ly.t141 L :), ?_⟩
      refine ⟨(Ly.t141 L :), ?_⟩
      refine b_116_72 ?_
      exact H (Ly.wi (Ly.wi L (a := 141) (k := 5) (x := ji h 141 5) (by decide)) (a := 141) (k := 4) (x := w32 ((ji (wi h 141 5 (ji h 141 5)) 141 4) + 1)) (by decide))
    · have H := H.2 c6
      refine ⟨(Ly.t141 L :), ?_⟩
      refine ⟨(Ly.t141 L :), ?_⟩
      refine ⟨(Ly.t141 L :), ?_⟩
      obtain ⟨z4, z5, H⟩ := H
      refine ⟨_, _, m_110 (d := d) (by omega) L z4 z5, ?_⟩
      refine ⟨(Ly.t141 L :), ?_⟩
      refine b_116_62 ?_
      refine ⟨(Ly.t141 L :), ?_⟩
      refine ⟨(Ly.t141 L :), ?_⟩
      refine b_116_72 ?_
      exact H (Ly.wi (Ly.wi L (a := 141) (k := 5) (x := w32 ((w32 ((w32 (10 * (ji h 141 5))) + (if (ji h 141 4) < (ji h 141 1) then ji h 142 (Int.toNat (ji h 141 4)) else -1))) - 48)) (by decide)) (a := 141) (k := 4) (x := w32 ((ji (wi h 141 5 (w32 ((w32 ((w32 (10 * (ji h 141 5))) + (if (ji h 141 4) < (ji h 141 1) then ji h 142 (Int.toNat (ji h 141 4)) else -1))) - 48))) 141 4) + 1)) (by decide))
  · have H := H.2 c3
    refine ⟨0, _, by have := m_112 (d := d) (c := if (ji h 141 4) < (ji h 141 1) then ji h 142 (Int.toNat (ji h 141 4)) else -1) (by omega) L; rw [if_neg c3] at this; exact this, ?_⟩
    refine ⟨fun _ => ?_, fun c => absurd (by decide) c⟩
    refine ⟨(Ly.t141 L :), ?_⟩
    refine ⟨(Ly.t141 L :), ?_⟩
    refine ⟨fun c7 => ?_, fun c7 => ?_⟩
    · have H := H.1 c7
      refine ⟨(Ly.t141 L :), ?_⟩
      refine b_116_97 ?_
      exact H (Ly.wi L (a := 141) (k := 2) (x := 2) (by decide))
    · have H := H.2 c7
      refine ⟨(Ly.t141 L :), ?_⟩
      refine b_116_97 ?_
      exact H (Ly.wi L (a := 141) (k := 2) (x := 4) (by decide))
set_option maxRecDepth 100000 in
theorem c_117_0 {p : Lpar} {d : Nat} {h : AH} {Q : Option AV → AH → Prop} {v1 : Int} (hd : 9 ≤ d) (L : Ly p h) (H : (v1 = 60 → 0 ≤ (w32 ((ji h 141 4) + 1)) ∧ (ji h 141 1) ≤ 400 ∧ ((if (w32 ((ji h 141 4) + 1)) < (ji h 141 1) then ji h 142 (Int.toNat (w32 ((ji h 141 4) + 1))) else -1) = 61 → (v1 = 60 → (Ly p (wi (wi (wi h 141 4 (w32 ((ji h 141 4) + 1))) 141 2 20) 141 4 (w32 ((w32 ((ji h 141 4) + 1)) + 1))) → Q none (wi (wi (wi h 141 4 (w32 ((ji h 141 4) + 1))) 141 2 20) 141 4 (w32 ((w32 ((ji h 141 4) + 1)) + 1))))) ∧ (¬ v1 = 60 → (Ly p (wi (wi (wi h 141 4 (w32 ((ji h 141 4) + 1))) 141 2 21) 141 4 (w32 ((w32 ((ji h 141 4) + 1)) + 1))) → Q none (wi (wi (wi h 141 4 (w32 ((ji h 141 4) + 1))) 141 2 21) 141 4 (w32 ((w32 ((ji h 141 4) + 1)) + 1)))))) ∧ (¬ (if (w32 ((ji h 141 4) + 1)) < (ji h 141 1) then ji h 142 (Int.toNat (w32 ((ji h 141 4) + 1))) else -1) = 61 → (Ly p (wi (wi (wi h 141 4 (w32 ((ji h 141 4) + 1))) 141 2 4) 141 4 (w32 ((w32 ((ji h 141 4) + 1)) + 1))) → Q none (wi (wi (wi h 141 4 (w32 ((ji h 141 4) + 1))) 141 2 4) 141 4 (w32 ((w32 ((ji h 141 4) + 1)) + 1)))))) ∧ (¬ (v1 = 60) → (v1 = 62 → 0 ≤ (w32 ((ji h 141 4) + 1)) ∧ (ji h 141 1) ≤ 400 ∧ ((if (w32 ((ji h 141 4) + 1)) < (ji h 141 1) then ji h 142 (Int.toNat (w32 ((ji h 141 4) + 1))) else -1) = 61 → (v1 = 60 → (Ly p (wi (wi (wi h 141 4 (w32 ((ji h 141 4) + 1))) 141 2 20) 141 4 (w32 ((w32 ((ji h 141 4) + 1)) + 1))) → Q none (wi (wi (wi h 141 4 (w32 ((ji h 141 4) + 1))) 141 2 20) 141 4 (w32 ((w32 ((ji h 141 4) + 1)) + 1))))) ∧ (¬ v1 = 60 → (Ly p (wi (wi (wi h 141 4 (w32 ((ji h 141 4) + 1))) 141 2 21) 141 4 (w32 ((w32 ((ji h 141 4) + 1)) + 1))) → Q none (wi (wi (wi h 141 4 (w32 ((ji h 141 4) + 1))) 141 2 21) 141 4 (w32 ((w32 ((ji h 141 4) + 1)) + 1)))))) ∧ (¬ (if (w32 ((ji h 141 4) + 1)) < (ji h 141 1) then ji h 142 (Int.toNat (w32 ((ji h 141 4) + 1))) else -1) = 61 → (Ly p (wi (wi (wi h 141 4 (w32 ((ji h 141 4) + 1))) 141 2 4) 141 4 (w32 ((w32 ((ji h 141 4) + 1)) + 1))) → Q none (wi (wi (wi h 141 4 (w32 ((ji h 141 4) + 1))) 141 2 4) 141 4 (w32 ((w32 ((ji h 141 4) + 1)) + 1)))))) ∧ (¬ v1 = 62 → (v1 = 46 → 0 ≤ (w32 ((ji h 141 4) + 1)) ∧ (ji h 141 1) ≤ 400 ∧ ((if (w32 ((ji h 141 4) + 1)) < (ji h 141 1) then ji h 142 (Int.toNat (w32 ((ji h 141 4) + 1))) else -1) = 46 → (Ly p (wi (wi (wi h 141 4 (w32 ((ji h 141 4) + 1))) 141 2 22) 141 4 (w32 ((w32 ((ji h 141 4) + 1)) + 1))) → Q none (wi (wi (wi h 141 4 (w32 ((ji h 141 4) + 1))) 141 2 22) 141 4 (w32 ((w32 ((ji h 141 4) + 1)) + 1))))) ∧ (¬ (if (w32 ((ji h 141 4) + 1)) < (ji h 141 1) then ji h 142 (Int.toNat (w32 ((ji h 141 4) + 1))) else -1) = 46 → (Ly p (wi (wi (wi h 141 4 (w32 ((ji h 141 4) + 1))) 141 2 4) 141 4 (w32 ((w32 ((ji h 141 4) + 1)) + 1))) → Q none (wi (wi (wi h 141 4 (w32 ((ji h 141 4) + 1))) 141 2 4) 141 4 (w32 ((w32 ((ji h 141 4) + 1)) + 1)))))) ∧ (¬ v1 = 46 → (v1 = 61 → (Ly p (wi (wi h 141 4 (w32 ((ji h 141 4) + 1))) 141 2 (w32 (100 + v1))) → Q none (wi (wi h 141 4 (w32 ((ji h 141 4) + 1))) 141 2 (w32 (100 + v1))))) ∧ (¬ (v1 = 61) → (v1 = 43 → (Ly p (wi (wi h 141 4 (w32 ((ji h 141 4) + 1))) 141 2 (w32 (100 + v1))) → Q none (wi (wi h 141 4 (w32 ((ji h 141 4) + 1))) 141 2 (w32 (100 + v1))))) ∧ (¬ (v1 = 43) → (v1 = 45 → (Ly p (wi (wi h 141 4 (w32 ((ji h 141 4) + 1))) 141 2 (w32 (100 + v1))) → Q none (wi (wi h 141 4 (w32 ((ji h 141 4) + 1))) 141 2 (w32 (100 + v1))))) ∧ (¬ (v1 = 45) → (v1 = 42 → (Ly p (wi (wi h 141 4 (w32 ((ji h 141 4) + 1))) 141 2 (w32 (100 + v1))) → Q none (wi (wi h 141 4 (w32 ((ji h 141 4) + 1))) 141 2 (w32 (100 + v1))))) ∧ (¬ (v1 = 42) → (v1 = 40 → (Ly p (wi (wi h 141 4 (w32 ((ji h 141 4) + 1))) 141 2 (w32 (100 + v1))) → Q none (wi (wi h 141 4 (w32 ((ji h 141 4) + 1))) 141 2 (w32 (100 + v1))))) ∧ (¬ (v1 = 40) → (v1 = 41 → (Ly p (wi (wi h 141 4 (w32 ((ji h 141 4) + 1))) 141 2 (w32 (100 + v1))) → Q none (wi (wi h 141 4 (w32 ((ji h 141 4) + 1))) 141 2 (w32 (100 + v1))))) ∧ (¬ (v1 = 41) → (v1 = 91 → (Ly p (wi (wi h 141 4 (w32 ((ji h 141 4) + 1))) 141 2 (w32 (100 + v1))) → Q none (wi (wi h 141 4 (w32 ((ji h 141 4) + 1))) 141 2 (w32 (100 + v1))))) ∧ (¬ (v1 = 91) → (v1 = 93 → (Ly p (wi (wi h 141 4 (w32 ((ji h 141 4) + 1))) 141 2 (w32 (100 + v1))) → Q none (wi (wi h 141 4 (w32 ((ji h 141 4) + 1))) 141 2 (w32 (100 + v1))))) ∧ (¬ (v1 = 93) → (v1 = 44 → (Ly p (wi (wi h 141 4 (w32 ((ji h 141 4) + 1))) 141 2 (w32 (100 + v1))) → Q none (wi (wi h 141 4 (w32 ((ji h 141 4) + 1))) 141 2 (w32 (100 + v1))))) ∧ (¬ (v1 = 44) → (v1 = 59 → (Ly p (wi (wi h 141 4 (w32 ((ji h 141 4) + 1))) 141 2 (w32 (100 + v1))) → Q none (wi (wi h 141 4 (w32 ((ji h 141 4) + 1))) 141 2 (w32 (100 + v1))))) ∧ (¬ (v1 = 59) → (v1 = 58 → (Ly p (wi (wi h 141 4 (w32 ((ji h 141 4) + 1))) 141 2 (w32 (100 + v1))) → Q none (wi (wi h 141 4 (w32 ((ji h 141 4) + 1))) 141 2 (w32 (100 + v1))))) ∧ (¬ v1 = 58 → (Ly p (wi (wi h 141 4 (w32 ((ji h 141 4) + 1))) 141 2 4) → Q none (wi (wi h 141 4 (w32 ((ji h 141 4) + 1))) 141 2 4))))))))))))))))) : WF d 117 0 [jP 141, jI v1, jU] [] h Q := by
  refine b_117_0 ?_
  refine ⟨(Ly.t141 L :), ?_⟩
  refine ⟨(Ly.t141 L :), ?_⟩
  refine b_117_10 ?_
  refine ⟨fun c25 => ?_, fun c25 => ?_⟩
  · have H := H.1 c25
    refine ⟨(Ly.t141 L :), ?_⟩
    refine ⟨(Ly.t141 L :), ?_⟩
    obtain ⟨z1, z2, H⟩ := H
    refine ⟨_, _, m_110 (d := d) (by omega) (Ly.wi L (a := 141) (k := 4) (x := w32 ((ji h 141 4) + 1)) (by decide)) z1 z2, ?_⟩
    refine ⟨fun c4 => ?_, fun c4 => ?_⟩
    · have H := H.2 c4
      refine ⟨(Ly.t141 L :), ?_⟩
      refine b_117_56 ?_
      refine ⟨(Ly.t141 L :), ?_⟩
      refine ⟨(Ly.t141 L :), ?_⟩
      refine b_117_66 ?_
      refine b_117_199 ?_
      exact H (Ly.wi (Ly.wi (Ly.wi L (a := 141) (k := 4) (x := w32 ((ji h 141 4) + 1)) (by decide)) (a := 141) (k := 2) (x := 4) (by decide)) (a := 141) (k := 4) (x := w32 ((ji (wi (wi h 141 4 (w32 ((ji h 141 4) + 1))) 141 2 4) 141 4) + 1)) (by decide))
    · have c4 := Decidable.not_not.mp c4
      have H := H.1 c4
      refine ⟨fun c3 => ?_, fun c3 => ?_⟩
      · have H := H.2 c3
        refine ⟨(Ly.t141 L :), ?_⟩
        refine b_117_56 ?_
        refine ⟨(Ly.t141 L :), ?_⟩
        refine ⟨(Ly.t141 L :), ?_⟩
        refine b_117_66 ?_
        refine b_117_199 ?_
        exact H (Ly.wi (Ly.wi (Ly.wi L (a := 141) (k := 4) (x := w32 ((ji h 141 4) + 1)) (by decide)) (a := 141) (k := 2) (x := 21) (by decide)) (a := 141) (k := 4) (x := w32 ((ji (wi (wi h 141 4 (w32 ((ji h 141 4) + 1))) 141 2 21) 141 4) + 1)) (by decide))
      · have c3 := Decidable.not_not.mp c3
        have H := H.1 c3
        refine ⟨(Ly.t141 L :), ?_⟩
        refine b_117_56 ?_
        refine ⟨(Ly.t141 L :), ?_⟩
        refine ⟨(Ly.t141 L :), ?_⟩
        refine b_117_66 ?_
        refine b_117_199 ?_
        exact H (Ly.wi (Ly.wi (Ly.wi L (a := 141) (k := 4) (x := w32 ((ji h 141 4) + 1)) (by decide)) (a := 141) (k := 2) (x := 20) (by decide)) (a := 141) (k := 4) (x := w32 ((ji (wi (wi h 141 4 (w32 ((ji h 141 4) + 1))) 141 2 20) 141 4) + 1)) (by decide))
  · have H := H.2 c25
    refine ⟨fun c24 => ?_, fun c24 => ?_⟩
    · have H := H.2 c24
      refine ⟨fun c19 => ?_, fun c19 => ?_⟩
      · have H := H.2 c19
        refine ⟨fun c15 => ?_, fun c15 => ?_⟩
        · have H := H.1 c15
          refine b_117_183 ?_
          refine ⟨fun c => absurd c (by decide), fun _ => ?_⟩
          refine ⟨(Ly.t141 L :), ?_⟩
          refine b_117_199 ?_
          exact H (Ly.wi (Ly.wi L (a := 141) (k := 4) (x := w32 ((ji h 141 4) + 1)) (by decide)) (a := 141) (k := 2) (x := w32 (100 + v1)) (by decide))
        · have H := H.2 c15
          refine ⟨fun c14 => ?_, fun c14 => ?_⟩
          · have H := H.1 c14
            refine b_117_183 ?_
            refine ⟨fun c => absurd c (by decide), fun _ => ?_⟩
            refine ⟨(Ly.t141 L :), ?_⟩
            refine b_117_199 ?_
            exact H (Ly.wi (Ly.wi L (a := 141) (k := 4) (x := w32 ((ji h 141 4) + 1)) (by decide)) (a := 141) (k := 2) (x := w32 (100 + v1)) (by decide))
          · have H := H.2 c14
            refine ⟨fun c13 => ?_, fun c13 => ?_⟩
            · have H := H.1 c13
              refine b_117_183 ?_
              refine ⟨fun c => absurd c (by decide), fun _ => ?_⟩
              refine ⟨(Ly.t141 L :), ?_⟩
              refine b_117_199 ?_
              exact H (Ly.wi (Ly.wi L (a := 141) (k := 4) (x := w32 ((ji h 141 4) + 1)) (by decide)) (a := 141) (k := 2) (x := w32 (100 + v1)) (by decide))
            · have H := H.2 c13
              refine ⟨fun c12 => ?_, fun c12 => ?_⟩
              · have H := H.1 c12
                refine b_117_183 ?_
                refine ⟨fun c => absurd c (by decide), fun _ => ?_⟩
                refine ⟨(Ly.t141 L :), ?_⟩
                refine b_117_199 ?_
                exact H (Ly.wi (Ly.wi L (a := 141) (k := 4) (x := w32 ((ji h 141 4) + 1)) (by decide)) (a := 141) (k := 2) (x := w32 (100 + v1)) (by decide))
              · have H := H.2 c12
                refine ⟨fun c11 => ?_, fun c11 => ?_⟩
                · have H := H.1 c11
                  refine b_117_183 ?_
                  refine ⟨fun c => absurd c (by decide), fun _ => ?_⟩
                  refine ⟨(Ly.t141 L :), ?_⟩
                  refine b_117_199 ?_
                  exact H (Ly.wi (Ly.wi L (a := 141) (k := 4) (x := w32 ((ji h 141 4) + 1)) (by decide)) (a := 141) (k := 2) (x := w32 (100 + v1)) (by decide))
                · have H := H.2 c11
                  refine ⟨fun c10 => ?_, fun c10 => ?_⟩
                  · have H := H.1 c10
                    refine b_117_183 ?_
                    refine ⟨fun c => absurd c (by decide), fun _ => ?_⟩
                    refine ⟨(Ly.t141 L :), ?_⟩
                    refine b_117_199 ?_
                    exact H (Ly.wi (Ly.wi L (a := 141) (k := 4) (x := w32 ((ji h 141 4) + 1)) (by decide)) (a := 141) (k := 2) (x := w32 (100 + v1)) (by decide))
                  · have H := H.2 c10
                    refine ⟨fun c9 => ?_, fun c9 => ?_⟩
                    · have H := H.1 c9
                      refine b_117_183 ?_
                      refine ⟨fun c => absurd c (by decide), fun _ => ?_⟩
                      refine ⟨(Ly.t141 L :), ?_⟩
                      refine b_117_199 ?_
                      exact H (Ly.wi (Ly.wi L (a := 141) (k := 4) (x := w32 ((ji h 141 4) + 1)) (by decide)) (a := 141) (k := 2) (x := w32 (100 + v1)) (by decide))
                    · have H := H.2 c9
                      refine ⟨fun c8 => ?_, fun c8 => ?_⟩
                      · have H := H.1 c8
                        refine b_117_183 ?_
                        refine ⟨fun c => absurd c (by decide), fun _ => ?_⟩
                        refine ⟨(Ly.t141 L :), ?_⟩
                        refine b_117_199 ?_
                        exact H (Ly.wi (Ly.wi L (a := 141) (k := 4) (x := w32 ((ji h 141 4) + 1)) (by decide)) (a := 141) (k := 2) (x := w32 (100 + v1)) (by decide))
                      · have H := H.2 c8
                        refine ⟨fun c7 => ?_, fun c7 => ?_⟩
                        · have H := H.1 c7
                          refine b_117_183 ?_
                          refine ⟨fun c => absurd c (by decide), fun _ => ?_⟩
                          refine ⟨(Ly.t141 L :), ?_⟩
                          refine b_117_199 ?_
                          exact H (Ly.wi (Ly.wi L (a := 141) (k := 4) (x := w32 ((ji h 141 4) + 1)) (by decide)) (a := 141) (k := 2) (x := w32 (100 + v1)) (by decide))
                        · have H := H.2 c7
                          refine ⟨fun c6 => ?_, fun c6 => ?_⟩
                          · have H := H.1 c6
                            refine b_117_183 ?_
                            refine ⟨fun c => absurd c (by decide), fun _ => ?_⟩
                            refine ⟨(Ly.t141 L :), ?_⟩
                            refine b_117_199 ?_
                            exact H (Ly.wi (Ly.wi L (a := 141) (k := 4) (x := w32 ((ji h 141 4) + 1)) (by decide)) (a := 141) (k := 2) (x := w32 (100 + v1)) (by decide))
                          · have H := H.2 c6
                            refine ⟨fun c5 => ?_, fun c5 => ?_⟩
                            · have H := H.2 c5
                              refine b_117_183 ?_
                              refine ⟨fun _ => ?_, fun c => absurd (by decide) c⟩
                              refine ⟨(Ly.t141 L :), ?_⟩
                              refine b_117_199 ?_
                              exact H (Ly.wi (Ly.wi L (a := 141) (k := 4) (x := w32 ((ji h 141 4) + 1)) (by decide)) (a := 141) (k := 2) (x := 4) (by decide))
                            · have c5 := Decidable.not_not.mp c5
                              have H := H.1 c5
                              refine b_117_183 ?_
                              refine ⟨fun c => absurd c (by decide), fun _ => ?_⟩
                              refine ⟨(Ly.t141 L :), ?_⟩
                              refine b_117_199 ?_
                              exact H (Ly.wi (Ly.wi L (a := 141) (k := 4) (x := w32 ((ji h 141 4) + 1)) (by decide)) (a := 141) (k := 2) (x := w32 (100 + v1)) (by decide))
      · have c19 := Decidable.not_not.mp c19
        have H := H.1 c19
        refine ⟨(Ly.t141 L :), ?_⟩
        refine ⟨(Ly.t141 L :), ?_⟩
        obtain ⟨z16, z17, H⟩ := H
        refine ⟨_, _, m_110 (d := d) (by omega) (Ly.wi L (a := 141) (k := 4) (x := w32 ((ji h 141 4) + 1)) (by decide)) z16 z17, ?_⟩
        refine ⟨fun c18 => ?_, fun c18 => ?_⟩
        · have H := H.2 c18
          refine ⟨(Ly.t141 L :), ?_⟩
          refine b_117_98 ?_
          refine ⟨(Ly.t141 L :), ?_⟩
          refine ⟨(Ly.t141 L :), ?_⟩
          refine b_117_108 ?_
          refine b_117_199 ?_
          exact H (Ly.wi (Ly.wi (Ly.wi L (a := 141) (k := 4) (x := w32 ((ji h 141 4) + 1)) (by decide)) (a := 141) (k := 2) (x := 4) (by decide)) (a := 141) (k := 4) (x := w32 ((ji (wi (wi h 141 4 (w32 ((ji h 141 4) + 1))) 141 2 4) 141 4) + 1)) (by decide))
        · have c18 := Decidable.not_not.mp c18
          have H := H.1 c18
          refine ⟨(Ly.t141 L :), ?_⟩
          refine b_117_98 ?_
          refine ⟨(Ly.t141 L :), ?_⟩
          refine ⟨(Ly.t141 L :), ?_⟩
          refine b_117_108 ?_
          refine b_117_199 ?_
          exact H (Ly.wi (Ly.wi (Ly.wi L (a := 141) (k := 4) (x := w32 ((ji h 141 4) + 1)) (by decide)) (a := 141) (k := 2) (x := 22) (by decide)) (a := 141) (k := 4) (x := w32 ((ji (wi (wi h 141 4 (w32 ((ji h 141 4) + 1))) 141 2 22) 141 4) + 1)) (by decide))
    · have c24 := Decidable.not_not.mp c24
      have H := H.1 c24
      refine ⟨(Ly.t141 L :), ?_⟩
      refine ⟨(Ly.t141 L :), ?_⟩
      obtain ⟨z20, z21, H⟩ := H
      refine ⟨_, _, m_110 (d := d) (by omega) (Ly.wi L (a := 141) (k := 4) (x := w32 ((ji h 141 4) + 1)) (by decide)) z20 z21, ?_⟩
      refine ⟨fun c23 => ?_, fun c23 => ?_⟩
      · have H := H.2 c23
        refine ⟨(Ly.t141 L :), ?_⟩
        refine b_117_56 ?_
        refine ⟨(Ly.t141 L :), ?_⟩
        refine ⟨(Ly.t141 L :), ?_⟩
        refine b_117_66 ?_
        refine b_117_199 ?_
        exact H (Ly.wi (Ly.wi (Ly.wi L (a := 141) (k := 4) (x := w32 ((ji h 141 4) + 1)) (by decide)) (a := 141) (k := 2) (x := 4) (by decide)) (a := 141) (k := 4) (x := w32 ((ji (wi (wi h 141 4 (w32 ((ji h 141 4) + 1))) 141 2 4) 141 4) + 1)) (by decide))
      · have c23 := Decidable.not_not.mp c23
        have H := H.1 c23
        refine ⟨fun c22 => ?_, fun c22 => ?_⟩
        · have H := H.2 c22
          refine ⟨(Ly.t141 L :), ?_⟩
          refine b_117_56 ?_
          refine ⟨(Ly.t141 L :), ?_⟩
          refine ⟨(Ly.t141 L :), ?_⟩
          refine b_117_66 ?_
          refine b_117_199 ?_
          exact H (Ly.wi (Ly.wi (Ly.wi L (a := 141) (k := 4) (x := w32 ((ji h 141 4) + 1)) (by decide)) (a := 141) (k := 2) (x := 21) (by decide)) (a := 141) (k := 4) (x := w32 ((ji (wi (wi h 141 4 (w32 ((ji h 141 4) + 1))) 141 2 21) 141 4) + 1)) (by decide))
        · have c22 := Decidable.not_not.mp c22
          have H := H.1 c22
          refine ⟨(Ly.t141 L :), ?_⟩
          refine b_117_56 ?_
          refine ⟨(Ly.t141 L :), ?_⟩
          refine ⟨(Ly.t141 L :), ?_⟩
          refine b_117_66 ?_
          refine b_117_199 ?_
          exact H (Ly.wi (Ly.wi (Ly.wi L (a := 141) (k := 4) (x := w32 ((ji h 141 4) + 1)) (by decide)) (a := 141) (k := 2) (x := 20) (by decide)) (a := 141) (k := 4) (x := w32 ((ji (wi (wi h 141 4 (w32 ((ji h 141 4) + 1))) 141 2 20) 141 4) + 1)) (by decide))
set_option maxRecDepth 100000 in
theorem c_118_0 {p : Lpar} {d : Nat} {h : AH} {Q : Option AV → AH → Prop}  (hd : 9 ≤ d) (L : Ly p h) (H : 0 ≤ (ji h 141 4) ∧ (ji h 141 1) ≤ 400 ∧ ((if (ji h 141 4) < (ji h 141 1) then ji h 142 (Int.toNat (ji h 141 4)) else -1) = 32 → (Ly p (wi h 141 4 (w32 ((ji h 141 4) + 1))) → WF d 118 0 [jP 141, jU] [] (wi h 141 4 (w32 ((ji h 141 4) + 1))) Q)) ∧ (¬ ((if (ji h 141 4) < (ji h 141 1) then ji h 142 (Int.toNat (ji h 141 4)) else -1) = 32) → 0 ≤ (ji h 141 4) ∧ (ji h 141 1) ≤ 400 ∧ ((if (ji h 141 4) < (ji h 141 1) then ji h 142 (Int.toNat (ji h 141 4)) else -1) = 10 → (Ly p (wi h 141 4 (w32 ((ji h 141 4) + 1))) → WF d 118 0 [jP 141, jU] [] (wi h 141 4 (w32 ((ji h 141 4) + 1))) Q)) ∧ (¬ (if (ji h 141 4) < (ji h 141 1) then ji h 142 (Int.toNat (ji h 141 4)) else -1) = 10 → 0 ≤ (ji h 141 4) ∧ (ji h 141 1) ≤ 400 ∧ ((if (ji h 141 4) < (ji h 141 1) then ji h 142 (Int.toNat (ji h 141 4)) else -1) = (-1) → (Ly p (wi (wi h 141 3 (ji h 141 4)) 141 2 3) → Q none (wi (wi h 141 3 (ji h 141 4)) 141 2 3))) ∧ (¬ (if (ji h 141 4) < (ji h 141 1) then ji h 142 (Int.toNat (ji h 141 4)) else -1) = (-1) → (97 ≤ (if (ji h 141 4) < (ji h 141 1) then ji h 142 (Int.toNat (ji h 141 4)) else -1) ∧ (if (ji h 141 4) < (ji h 141 1) then ji h 142 (Int.toNat (ji h 141 4)) else -1) ≤ 122 → (Ly p (wi h 141 3 (ji h 141 4)) → ∃ h8, jE d 113 [jP 141] (wi h 141 3 (ji h 141 4)) none h8 ∧ Ly p h8 ∧ Q none h8)) ∧ (¬ (97 ≤ (if (ji h 141 4) < (ji h 141 1) then ji h 142 (Int.toNat (ji h 141 4)) else -1) ∧ (if (ji h 141 4) < (ji h 141 1) then ji h 142 (Int.toNat (ji h 141 4)) else -1) ≤ 122) → (48 ≤ (if (ji h 141 4) < (ji h 141 1) then ji h 142 (Int.toNat (ji h 141 4)) else -1) ∧ (if (ji h 141 4) < (ji h 141 1) then ji h 142 (Int.toNat (ji h 141 4)) else -1) ≤ 57 → (Ly p (wi h 141 3 (ji h 141 4)) → ∃ h12, jE d 116 [jP 141] (wi h 141 3 (ji h 141 4)) none h12 ∧ Ly p h12 ∧ Q none h12)) ∧ (¬ (48 ≤ (if (ji h 141 4) < (ji h 141 1) then ji h 142 (Int.toNat (ji h 141 4)) else -1) ∧ (if (ji h 141 4) < (ji h 141 1) then ji h 142 (Int.toNat (ji h 141 4)) else -1) ≤ 57) → (Ly p (wi h 141 3 (ji h 141 4)) → ∃ h15, jE d 117 [jP 141, jI (if (ji h 141 4) < (ji h 141 1) then ji h 142 (Int.toNat (ji h 141 4)) else -1)] (wi h 141 3 (ji h 141 4)) none h15 ∧ Ly p h15 ∧ Q none h15))))))) : WF d 118 0 [jP 141, jU] [] h Q := by
  refine b_118_0 ?_
  refine ⟨(Ly.t141 L :), ?_⟩
  refine ⟨(Ly.t141 L :), ?_⟩
  obtain ⟨z1, z2, H⟩ := H
  refine ⟨_, _, m_110 (d := d) (by omega) L z1 z2, ?_⟩
  refine ⟨fun c20 => ?_, fun c20 => ?_⟩
  · have H := H.1 c20
    refine ⟨(Ly.t141 L :), ?_⟩
    refine ⟨(Ly.t141 L :), ?_⟩
    refine b_118_36 ?_
    exact H (Ly.wi L (a := 141) (k := 4) (x := w32 ((ji h 141 4) + 1)) (by decide))
  · have H := H.2 c20
    refine ⟨(Ly.t141 L :), ?_⟩
    refine ⟨(Ly.t141 L :), ?_⟩
    obtain ⟨z3, z4, H⟩ := H
    refine ⟨_, _, m_110 (d := d) (by omega) L z3 z4, ?_⟩
    refine ⟨fun c19 => ?_, fun c19 => ?_⟩
    · have H := H.2 c19
      refine ⟨(Ly.t141 L :), ?_⟩
      refine ⟨(Ly.t141 L :), ?_⟩
      refine b_118_47 ?_
      refine ⟨(Ly.t141 L :), ?_⟩
      refine ⟨(Ly.t141 L :), ?_⟩
      obtain ⟨z5, z6, H⟩ := H
      refine ⟨_, _, m_110 (d := d) (by omega) (Ly.wi L (a := 141) (k := 3) (x := ji h 141 4) (by decide)) z5 z6, ?_⟩
      refine b_118_56 ?_
      refine ⟨fun c18 => ?_, fun c18 => ?_⟩
      · have H := H.2 c18
        by_cases c7 : 97 ≤ (if (ji h 141 4) < (ji h 141 1) then ji h 142 (Int.toNat (ji h 141 4)) else -1) ∧ (if (ji h 141 4) < (ji h 141 1) then ji h 142 (Int.toNat (ji h 141 4)) else -1) ≤ 122
        · have H := H.1 c7
          refine ⟨1, _, by have := m_111 (d := d) (c := if (ji h 141 4) < (ji h 141 1) then ji h 142 (Int.toNat (ji h 141 4)) else -1) (by omega) (Ly.wi L (a := 141) (k := 3) (x := ji h 141 4) (by decide)); rw [if_pos c7] at this; exact this, ?_⟩
          refine ⟨fun c => absurd c (by decide), fun _ => ?_⟩
          refine ⟨(Ly.t141 L :), ?_⟩
          have H := H (Ly.wi L (a := 141) (k := 3) (x := ji h 141 4) (by decide))
          obtain ⟨h8, e10, L9, H⟩ := H
          refine ⟨h8, e10, ?_⟩
          refine b_118_80 ?_
          refine b_118_102 ?_
          exact H
        · have H := H.2 c7
          refine ⟨0, _, by have := m_111 (d := d) (c := if (ji h 141 4) < (ji h 141 1) then ji h 142 (Int.toNat (ji h 141 4)) else -1) (by omega) (Ly.wi L (a := 141) (k := 3) (x := ji h 141 4) (by decide)); rw [if_neg c7] at this; exact this, ?_⟩
          refine ⟨fun _ => ?_, fun c => absurd (by decide) c⟩
          by_cases c11 : 48 ≤ (if (ji h 141 4) < (ji h 141 1) then ji h 142 (Int.toNat (ji h 141 4)) else -1) ∧ (if (ji h 141 4) < (ji h 141 1) then ji h 142 (Int.toNat (ji h 141 4)) else -1) ≤ 57
          · have H := H.1 c11
            refine ⟨1, _, by have := m_112 (d := d) (c := if (ji h 141 4) < (ji h 141 1) then ji h 142 (Int.toNat (ji h 141 4)) else -1) (by omega) (Ly.wi L (a := 141) (k := 3) (x := ji h 141 4) (by decide)); rw [if_pos c11] at this; exact this, ?_⟩
            refine ⟨fun c => absurd c (by decide), fun _ => ?_⟩
            refine ⟨(Ly.t141 L :), ?_⟩
            have H := H (Ly.wi L (a := 141) (k := 3) (x := ji h 141 4) (by decide))
            obtain ⟨h12, e14, L13, H⟩ := H
            refine ⟨h12, e14, ?_⟩
            refine b_118_94 ?_
            refine b_118_102 ?_
            exact H
          · have H := H.2 c11
            refine ⟨0, _, by have := m_112 (d := d) (c := if (ji h 141 4) < (ji h 141 1) then ji h 142 (Int.toNat (ji h 141 4)) else -1) (by omega) (Ly.wi L (a := 141) (k := 3) (x := ji h 141 4) (by decide)); rw [if_neg c11] at this; exact this, ?_⟩
            refine ⟨fun _ => ?_, fun c => absurd (by decide) c⟩
            refine ⟨(Ly.t141 L :), ?_⟩
            have H := H (Ly.wi L (a := 141) (k := 3) (x := ji h 141 4) (by decide))
            obtain ⟨h15, e17, L16, H⟩ := H
            refine ⟨h15, e17, ?_⟩
            refine b_118_102 ?_
            exact H
      · have c18 := Decidable.not_not.mp c18
        have H := H.1 c18
        refine ⟨(Ly.t141 L :), ?_⟩
        refine b_118_66 ?_
        refine b_118_102 ?_
        exact H (Ly.wi (Ly.wi L (a := 141) (k := 3) (x := ji h 141 4) (by decide)) (a := 141) (k := 2) (x := 3) (by decide))
    · have c19 := Decidable.not_not.mp c19
      have H := H.1 c19
      refine ⟨(Ly.t141 L :), ?_⟩
      refine ⟨(Ly.t141 L :), ?_⟩
      refine b_118_36 ?_
      exact H (Ly.wi L (a := 141) (k := 4) (x := w32 ((ji h 141 4) + 1)) (by decide))
set_option maxRecDepth 100000 in
theorem c_120_0 {p : Lpar} {d : Nat} {h : AH} {Q : Option AV → AH → Prop} {v1 : Int} (hd : 9 ≤ d) (L : Ly p h) (H : ((ji h 141 6) = (-1) → ((ji h 141 2) = v1 → ∃ h1, jE d 118 [jP 141] h none h1 ∧ Ly p h1 ∧ Q (some (jI 1)) h1) ∧ (¬ ((ji h 141 2) = v1) → ((ji h 141 6) = -1 → (Ly p (wi h 141 6 (ji h 141 3)) → Q (some (jI 0)) (wi h 141 6 (ji h 141 3)))) ∧ (¬ ((ji h 141 6) = -1) → (Ly p (wi h 141 6 (ji h 141 6)) → Q (some (jI 0)) (wi h 141 6 (ji h 141 6)))))) ∧ (¬ ((ji h 141 6) = (-1)) → Q (some (jI 0)) h)) : WF d 120 0 [jP 141, jI v1] [] h Q := by
  refine b_120_0 ?_
  refine ⟨(Ly.t141 L :), ?_⟩
  refine ⟨fun c6 => ?_, fun c6 => ?_⟩
  · have H := H.1 c6
    refine ⟨(Ly.t141 L :), ?_⟩
    refine ⟨fun c5 => ?_, fun c5 => ?_⟩
    · have H := H.1 c5
      refine ⟨(Ly.t141 L :), ?_⟩
      obtain ⟨h1, e3, L2, H⟩ := H
      refine ⟨h1, e3, ?_⟩
      refine ⟨Or.inr rfl, ?_⟩
      exact H
    · have H := H.2 c5
      refine ⟨(Ly.t141 L :), ?_⟩
      refine ⟨(Ly.t141 L :), ?_⟩
      by_cases c4 : (ji h 141 6) = -1
      · have H := H.1 c4
        refine ⟨_, m_119y (d := d) (by omega) L c4, ?_⟩
        refine ⟨Or.inl rfl, ?_⟩
        exact H (Ly.wi L (a := 141) (k := 6) (x := ji h 141 3) (by decide))
      · have H := H.2 c4
        refine ⟨_, m_119n (d := d) (by omega) L c4, ?_⟩
        refine ⟨Or.inl rfl, ?_⟩
        exact H (Ly.wi L (a := 141) (k := 6) (x := ji h 141 6) (by decide))
  · have H := H.2 c6
    refine ⟨Or.inl rfl, ?_⟩
    exact H
set_option maxRecDepth 100000 in
theorem c_121_0 {p : Lpar} {d : Nat} {h : AH} {Q : Option AV → AH → Prop} {v1 : Int} (hd : 9 ≤ d) (L : Ly p h) (H : ∃ x4 h1, jE d 120 [jP 141, jI (w32 (100 + v1))] h (some (jI x4)) h1 ∧ Ly p h1 ∧ (x4 = 0 ∨ x4 = 1) ∧ Q (some (jI x4)) h1) : WF d 121 0 [jP 141, jI v1] [] h Q := by
  refine b_121_0 ?_
  refine ⟨(Ly.t141 L :), ?_⟩
  obtain ⟨x4, h1, e3, L2, H⟩ := H
  refine ⟨x4, h1, e3, ?_⟩
  obtain ⟨z5, H⟩ := H
  refine ⟨z5, ?_⟩
  exact H
