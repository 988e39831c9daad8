-- needs: 20.num 21.lay 22.spec 23.va 24.leaf 25.tbls 26.thg 27.tok
set_option maxRecDepth 100000 in
theorem c_124_0 {p : Lpar} {d : Nat} {h : AH} {Q : Option AV → AH → Prop}  (hd : 9 ≤ d) (L : Ly p h) (H : ((ji h 141 6) = -1 → ((ji h 141 2) = 1 → ∃ x10 h7, jE d 123 [jP 143, jI (ji h 141 7), jI (ji h 141 5)] h (some (jI x10)) h7 ∧ Ly p h7 ∧ (0 ≤ x10 → ((ji h7 141 6) = -1 → (Ly p (wi h7 141 6 (ji h7 141 3)) → ∃ x15 h12, jE d 120 [jP 141, jI 1] (wi h7 141 6 (ji h7 141 3)) (some (jI x15)) h12 ∧ Ly p h12 ∧ (x15 = (0 : Int) → Q (some (jI (-1))) h12) ∧ (¬ (x15 = (0 : Int)) → Q (some (jI (ji h 141 5))) h12))) ∧ (¬ ((ji h7 141 6) = -1) → (Ly p (wi h7 141 6 (ji h7 141 6)) → ∃ x20 h17, jE d 120 [jP 141, jI 1] (wi h7 141 6 (ji h7 141 6)) (some (jI x20)) h17 ∧ Ly p h17 ∧ (x20 = (0 : Int) → Q (some (jI (-1))) h17) ∧ (¬ (x20 = (0 : Int)) → Q (some (jI (ji h 141 5))) h17)))) ∧ (¬ (0 ≤ x10) → ∃ x25 h22, jE d 123 [jP 146, jI (ji h7 141 11), jI (ji h 141 5)] h7 (some (jI x25)) h22 ∧ Ly p h22 ∧ (0 ≤ x25 → ((ji h22 141 6) = -1 → (Ly p (wi h22 141 6 (ji h22 141 3)) → ∃ x30 h27, jE d 120 [jP 141, jI 1] (wi h22 141 6 (ji h22 141 3)) (some (jI x30)) h27 ∧ Ly p h27 ∧ (x30 = (0 : Int) → Q (some (jI (-1))) h27) ∧ (¬ (x30 = (0 : Int)) → Q (some (jI (ji h 141 5))) h27))) ∧ (¬ ((ji h22 141 6) = -1) → (Ly p (wi h22 141 6 (ji h22 141 6)) → ∃ x35 h32, jE d 120 [jP 141, jI 1] (wi h22 141 6 (ji h22 141 6)) (some (jI x35)) h32 ∧ Ly p h32 ∧ (x35 = (0 : Int) → Q (some (jI (-1))) h32) ∧ (¬ (x35 = (0 : Int)) → Q (some (jI (ji h 141 5))) h32)))) ∧ (¬ (0 ≤ x25) → ∃ x40 h37, jE d 123 [jP 149, jI (ji h22 141 15), jI (ji h 141 5)] h22 (some (jI x40)) h37 ∧ Ly p h37 ∧ (0 ≤ x40 → ((ji h37 141 6) = -1 → (Ly p (wi h37 141 6 (ji h37 141 3)) → ∃ x45 h42, jE d 120 [jP 141, jI 1] (wi h37 141 6 (ji h37 141 3)) (some (jI x45)) h42 ∧ Ly p h42 ∧ (x45 = (0 : Int) → Q (some (jI (-1))) h42) ∧ (¬ (x45 = (0 : Int)) → Q (some (jI (ji h 141 5))) h42))) ∧ (¬ ((ji h37 141 6) = -1) → (Ly p (wi h37 141 6 (ji h37 141 6)) → ∃ x50 h47, jE d 120 [jP 141, jI 1] (wi h37 141 6 (ji h37 141 6)) (some (jI x50)) h47 ∧ Ly p h47 ∧ (x50 = (0 : Int) → Q (some (jI (-1))) h47) ∧ (¬ (x50 = (0 : Int)) → Q (some (jI (ji h 141 5))) h47)))) ∧ (¬ (0 ≤ x40) → ∃ x55 h52, jE d 123 [jP 153, jI (ji h37 141 20), jI (ji h 141 5)] h37 (some (jI x55)) h52 ∧ Ly p h52 ∧ (0 ≤ x55 → ((ji h52 141 6) = -1 → (Ly p (wi h52 141 6 (ji h52 141 3)) → ∃ x60 h57, jE d 120 [jP 141, jI 1] (wi h52 141 6 (ji h52 141 3)) (some (jI x60)) h57 ∧ Ly p h57 ∧ (x60 = (0 : Int) → Q (some (jI (-1))) h57) ∧ (¬ (x60 = (0 : Int)) → Q (some (jI (ji h 141 5))) h57))) ∧ (¬ ((ji h52 141 6) = -1) → (Ly p (wi h52 141 6 (ji h52 141 6)) → ∃ x65 h62, jE d 120 [jP 141, jI 1] (wi h52 141 6 (ji h52 141 6)) (some (jI x65)) h62 ∧ Ly p h62 ∧ (x65 = (0 : Int) → Q (some (jI (-1))) h62) ∧ (¬ (x65 = (0 : Int)) → Q (some (jI (ji h 141 5))) h62)))) ∧ (¬ (0 ≤ x55) → ∃ x70 h67, jE d 123 [jP 158, jI (ji h52 141 30), jI (ji h 141 5)] h52 (some (jI x70)) h67 ∧ Ly p h67 ∧ (x70 < 0 → ∃ x74 h71, jE d 120 [jP 141, jI 1] h67 (some (jI x74)) h71 ∧ Ly p h71 ∧ (x74 = (0 : Int) → Q (some (jI (-1))) h71) ∧ (¬ (x74 = (0 : Int)) → Q (some (jI (ji h 141 5))) h71)) ∧ (¬ (x70 < 0) → ((ji h67 141 6) = -1 → (Ly p (wi h67 141 6 (ji h67 141 3)) → ∃ x80 h77, jE d 120 [jP 141, jI 1] (wi h67 141 6 (ji h67 141 3)) (some (jI x80)) h77 ∧ Ly p h77 ∧ (x80 = (0 : Int) → Q (some (jI (-1))) h77) ∧ (¬ (x80 = (0 : Int)) → Q (some (jI (ji h 141 5))) h77))) ∧ (¬ ((ji h67 141 6) = -1) → (Ly p (wi h67 141 6 (ji h67 141 6)) → ∃ x85 h82, jE d 120 [jP 141, jI 1] (wi h67 141 6 (ji h67 141 6)) (some (jI x85)) h82 ∧ Ly p h82 ∧ (x85 = (0 : Int) → Q (some (jI (-1))) h82) ∧ (¬ (x85 = (0 : Int)) → Q (some (jI (ji h 141 5))) h82))))))))) ∧ (¬ (ji h 141 2) = 1 → ∃ x5 h2, jE d 120 [jP 141, jI 1] h (some (jI x5)) h2 ∧ Ly p h2 ∧ (x5 = (0 : Int) → Q (some (jI (-1))) h2) ∧ (¬ (x5 = (0 : Int)) → Q (some (jI (ji h 141 5))) h2))) ∧ (¬ ((ji h 141 6) = -1) → ∃ x96 h93, jE d 120 [jP 141, jI 1] h (some (jI x96)) h93 ∧ Ly p h93 ∧ (x96 = (0 : Int) → Q (some (jI (-1))) h93) ∧ (¬ (x96 = (0 : Int)) → Q (some (jI (ji h 141 5))) h93))) : WF d 124 0 [jP 141, jU] [] h Q := by
  refine b_124_0 ?_
  refine ⟨(Ly.t141 L :), ?_⟩
  refine b_124_5 ?_
  refine ⟨(Ly.t141 L :), ?_⟩
  by_cases c1 : (ji h 141 6) = -1
  · have H := H.1 c1
    refine ⟨1, _, by have := m_122 (d := d) (by omega) L; rw [if_pos c1] at this; exact this, ?_⟩
    refine ⟨fun c => absurd c (by decide), fun _ => ?_⟩
    refine ⟨(Ly.t141 L :), ?_⟩
    refine ⟨fun c92 => ?_, fun c92 => ?_⟩
    · have H := H.2 c92
      refine b_124_103 ?_
      refine ⟨(Ly.t141 L :), ?_⟩
      obtain ⟨x5, h2, e4, L3, H⟩ := H
      refine ⟨x5, h2, e4, ?_⟩
      refine ⟨fun c6 => ?_, fun c6 => ?_⟩
      · have H := H.1 c6
        exact H
      · have H := H.2 c6
        exact H
    · have c92 := Decidable.not_not.mp c92
      have H := H.1 c92
      refine ⟨(Ly.t141 L :), ?_⟩
      rw [show jr h 141 8 = 143 from (Ly.r141_8 L :)]
      refine ⟨(Ly.t141 L :), ?_⟩
      obtain ⟨x10, h7, e9, L8, H⟩ := H
      refine ⟨x10, h7, e9, ?_⟩
      refine ⟨fun c91 => ?_, fun c91 => ?_⟩
      · have H := H.1 c91
        refine ⟨(Ly.t141 L8 :), ?_⟩
        refine ⟨(Ly.t141 L8 :), ?_⟩
        by_cases c11 : (ji h7 141 6) = -1
        · have H := H.1 c11
          refine ⟨_, m_119y (d := d) (by omega) L8 c11, ?_⟩
          refine b_124_103 ?_
          refine ⟨(Ly.t141 L8 :), ?_⟩
          have H := H (Ly.wi L8 (a := 141) (k := 6) (x := ji h7 141 3) (by decide))
          obtain ⟨x15, h12, e14, L13, H⟩ := H
          refine ⟨x15, h12, e14, ?_⟩
          refine ⟨fun c16 => ?_, fun c16 => ?_⟩
          · have H := H.1 c16
            exact H
          · have H := H.2 c16
            exact H
        · have H := H.2 c11
          refine ⟨_, m_119n (d := d) (by omega) L8 c11, ?_⟩
          refine b_124_103 ?_
          refine ⟨(Ly.t141 L8 :), ?_⟩
          have H := H (Ly.wi L8 (a := 141) (k := 6) (x := ji h7 141 6) (by decide))
          obtain ⟨x20, h17, e19, L18, H⟩ := H
          refine ⟨x20, h17, e19, ?_⟩
          refine ⟨fun c21 => ?_, fun c21 => ?_⟩
          · have H := H.1 c21
            exact H
          · have H := H.2 c21
            exact H
      · have H := H.2 c91
        refine ⟨(Ly.t141 L8 :), ?_⟩
        rw [show jr h7 141 12 = 146 from (Ly.r141_12 L8 :)]
        refine ⟨(Ly.t141 L8 :), ?_⟩
        obtain ⟨x25, h22, e24, L23, H⟩ := H
        refine ⟨x25, h22, e24, ?_⟩
        refine ⟨fun c90 => ?_, fun c90 => ?_⟩
        · have H := H.1 c90
          refine ⟨(Ly.t141 L23 :), ?_⟩
          refine ⟨(Ly.t141 L23 :), ?_⟩
          by_cases c26 : (ji h22 141 6) = -1
          · have H := H.1 c26
            refine ⟨_, m_119y (d := d) (by omega) L23 c26, ?_⟩
            refine b_124_103 ?_
            refine ⟨(Ly.t141 L23 :), ?_⟩
            have H := H (Ly.wi L23 (a := 141) (k := 6) (x := ji h22 141 3) (by decide))
            obtain ⟨x30, h27, e29, L28, H⟩ := H
            refine ⟨x30, h27, e29, ?_⟩
            refine ⟨fun c31 => ?_, fun c31 => ?_⟩
            · have H := H.1 c31
              exact H
            · have H := H.2 c31
              exact H
          · have H := H.2 c26
            refine ⟨_, m_119n (d := d) (by omega) L23 c26, ?_⟩
            refine b_124_103 ?_
            refine ⟨(Ly.t141 L23 :), ?_⟩
            have H := H (Ly.wi L23 (a := 141) (k := 6) (x := ji h22 141 6) (by decide))
            obtain ⟨x35, h32, e34, L33, H⟩ := H
            refine ⟨x35, h32, e34, ?_⟩
            refine ⟨fun c36 => ?_, fun c36 => ?_⟩
            · have H := H.1 c36
              exact H
            · have H := H.2 c36
              exact H
        · have H := H.2 c90
          refine ⟨(Ly.t141 L23 :), ?_⟩
          rw [show jr h22 141 16 = 149 from (Ly.r141_16 L23 :)]
          refine ⟨(Ly.t141 L23 :), ?_⟩
          obtain ⟨x40, h37, e39, L38, H⟩ := H
          refine ⟨x40, h37, e39, ?_⟩
          refine ⟨fun c89 => ?_, fun c89 => ?_⟩
          · have H := H.1 c89
            refine ⟨(Ly.t141 L38 :), ?_⟩
            refine ⟨(Ly.t141 L38 :), ?_⟩
            by_cases c41 : (ji h37 141 6) = -1
            · have H := H.1 c41
              refine ⟨_, m_119y (d := d) (by omega) L38 c41, ?_⟩
              refine b_124_103 ?_
              refine ⟨(Ly.t141 L38 :), ?_⟩
              have H := H (Ly.wi L38 (a := 141) (k := 6) (x := ji h37 141 3) (by decide))
              obtain ⟨x45, h42, e44, L43, H⟩ := H
              refine ⟨x45, h42, e44, ?_⟩
              refine ⟨fun c46 => ?_, fun c46 => ?_⟩
              · have H := H.1 c46
                exact H
              · have H := H.2 c46
                exact H
            · have H := H.2 c41
              refine ⟨_, m_119n (d := d) (by omega) L38 c41, ?_⟩
              refine b_124_103 ?_
              refine ⟨(Ly.t141 L38 :), ?_⟩
              have H := H (Ly.wi L38 (a := 141) (k := 6) (x := ji h37 141 6) (by decide))
              obtain ⟨x50, h47, e49, L48, H⟩ := H
              refine ⟨x50, h47, e49, ?_⟩
              refine ⟨fun c51 => ?_, fun c51 => ?_⟩
              · have H := H.1 c51
                exact H
              · have H := H.2 c51
                exact H
          · have H := H.2 c89
            refine ⟨(Ly.t141 L38 :), ?_⟩
            rw [show jr h37 141 21 = 153 from (Ly.r141_21 L38 :)]
            refine ⟨(Ly.t141 L38 :), ?_⟩
            obtain ⟨x55, h52, e54, L53, H⟩ := H
            refine ⟨x55, h52, e54, ?_⟩
            refine ⟨fun c88 => ?_, fun c88 => ?_⟩
            · have H := H.1 c88
              refine ⟨(Ly.t141 L53 :), ?_⟩
              refine ⟨(Ly.t141 L53 :), ?_⟩
              by_cases c56 : (ji h52 141 6) = -1
              · have H := H.1 c56
                refine ⟨_, m_119y (d := d) (by omega) L53 c56, ?_⟩
                refine b_124_103 ?_
                refine ⟨(Ly.t141 L53 :), ?_⟩
                have H := H (Ly.wi L53 (a := 141) (k := 6) (x := ji h52 141 3) (by decide))
                obtain ⟨x60, h57, e59, L58, H⟩ := H
                refine ⟨x60, h57, e59, ?_⟩
                refine ⟨fun c61 => ?_, fun c61 => ?_⟩
                · have H := H.1 c61
                  exact H
                · have H := H.2 c61
                  exact H
              · have H := H.2 c56
                refine ⟨_, m_119n (d := d) (by omega) L53 c56, ?_⟩
                refine b_124_103 ?_
                refine ⟨(Ly.t141 L53 :), ?_⟩
                have H := H (Ly.wi L53 (a := 141) (k := 6) (x := ji h52 141 6) (by decide))
                obtain ⟨x65, h62, e64, L63, H⟩ := H
                refine ⟨x65, h62, e64, ?_⟩
                refine ⟨fun c66 => ?_, fun c66 => ?_⟩
                · have H := H.1 c66
                  exact H
                · have H := H.2 c66
                  exact H
            · have H := H.2 c88
              refine ⟨(Ly.t141 L53 :), ?_⟩
              rw [show jr h52 141 31 = 158 from (Ly.r141_31 L53 :)]
              refine ⟨(Ly.t141 L53 :), ?_⟩
              obtain ⟨x70, h67, e69, L68, H⟩ := H
              refine ⟨x70, h67, e69, ?_⟩
              refine ⟨fun c87 => ?_, fun c87 => ?_⟩
              · have H := H.1 c87
                refine b_124_103 ?_
                refine ⟨(Ly.t141 L68 :), ?_⟩
                obtain ⟨x74, h71, e73, L72, H⟩ := H
                refine ⟨x74, h71, e73, ?_⟩
                refine ⟨fun c75 => ?_, fun c75 => ?_⟩
                · have H := H.1 c75
                  exact H
                · have H := H.2 c75
                  exact H
              · have H := H.2 c87
                refine ⟨(Ly.t141 L68 :), ?_⟩
                refine ⟨(Ly.t141 L68 :), ?_⟩
                by_cases c76 : (ji h67 141 6) = -1
                · have H := H.1 c76
                  refine ⟨_, m_119y (d := d) (by omega) L68 c76, ?_⟩
                  refine b_124_103 ?_
                  refine ⟨(Ly.t141 L68 :), ?_⟩
                  have H := H (Ly.wi L68 (a := 141) (k := 6) (x := ji h67 141 3) (by decide))
                  obtain ⟨x80, h77, e79, L78, H⟩ := H
                  refine ⟨x80, h77, e79, ?_⟩
                  refine ⟨fun c81 => ?_, fun c81 => ?_⟩
                  · have H := H.1 c81
                    exact H
                  · have H := H.2 c81
                    exact H
                · have H := H.2 c76
                  refine ⟨_, m_119n (d := d) (by omega) L68 c76, ?_⟩
                  refine b_124_103 ?_
                  refine ⟨(Ly.t141 L68 :), ?_⟩
                  have H := H (Ly.wi L68 (a := 141) (k := 6) (x := ji h67 141 6) (by decide))
                  obtain ⟨x85, h82, e84, L83, H⟩ := H
                  refine ⟨x85, h82, e84, ?_⟩
                  refine ⟨fun c86 => ?_, fun c86 => ?_⟩
                  · have H := H.1 c86
                    exact H
                  · have H := H.2 c86
                    exact H
  · have H := H.2 c1
    refine ⟨0, _, by have := m_122 (d := d) (by omega) L; rw [if_neg c1] at this; exact this, ?_⟩
    refine ⟨fun _ => ?_, fun c => absurd (by decide) c⟩
    refine b_124_103 ?_
    refine ⟨(Ly.t141 L :), ?_⟩
    obtain ⟨x96, h93, e95, L94, H⟩ := H
    refine ⟨x96, h93, e95, ?_⟩
    refine ⟨fun c97 => ?_, fun c97 => ?_⟩
    · have H := H.1 c97
      exact H
    · have H := H.2 c97
      exact H
set_option maxRecDepth 100000 in
theorem c_125_0 {p : Lpar} {d : Nat} {h : AH} {Q : Option AV → AH → Prop}  (hd : 9 ≤ d) (L : Ly p h) (H : ((ji h 141 2) = 1 → ∃ x15 h12, jE d 123 [jP 143, jI (ji h 141 7), jI (ji h 141 5)] h (some (jI x15)) h12 ∧ Ly p h12 ∧ (x15 = (-1) → ((ji h12 141 6) = -1 → (Ly p (wi h12 141 6 (ji h12 141 3)) → ∃ x25 h22, jE d 120 [jP 141, jI 1] (wi h12 141 6 (ji h12 141 3)) (some (jI x25)) h22 ∧ Ly p h22 ∧ (x25 = (0 : Int) → Q (some (jI (-1))) h22) ∧ (¬ (x25 = (0 : Int)) → Q (some (jI x15)) h22))) ∧ (¬ ((ji h12 141 6) = -1) → (Ly p (wi h12 141 6 (ji h12 141 6)) → ∃ x30 h27, jE d 120 [jP 141, jI 1] (wi h12 141 6 (ji h12 141 6)) (some (jI x30)) h27 ∧ Ly p h27 ∧ (x30 = (0 : Int) → Q (some (jI (-1))) h27) ∧ (¬ (x30 = (0 : Int)) → Q (some (jI x15)) h27)))) ∧ (¬ x15 = (-1) → ∃ x19 h16, jE d 120 [jP 141, jI 1] h12 (some (jI x19)) h16 ∧ Ly p h16 ∧ (x19 = (0 : Int) → Q (some (jI (-1))) h16) ∧ (¬ (x19 = (0 : Int)) → Q (some (jI x15)) h16))) ∧ (¬ (ji h 141 2) = 1 → ((ji h 141 6) = -1 → (Ly p (wi h 141 6 (ji h 141 3)) → ∃ x5 h2, jE d 120 [jP 141, jI 1] (wi h 141 6 (ji h 141 3)) (some (jI x5)) h2 ∧ Ly p h2 ∧ (x5 = (0 : Int) → Q (some (jI (-1))) h2) ∧ (¬ (x5 = (0 : Int)) → Q (some (jI (-1))) h2))) ∧ (¬ ((ji h 141 6) = -1) → (Ly p (wi h 141 6 (ji h 141 6)) → ∃ x10 h7, jE d 120 [jP 141, jI 1] (wi h 141 6 (ji h 141 6)) (some (jI x10)) h7 ∧ Ly p h7 ∧ (x10 = (0 : Int) → Q (some (jI (-1))) h7) ∧ (¬ (x10 = (0 : Int)) → Q (some (jI (-1))) h7))))) : WF d 125 0 [jP 141, jU] [] h Q := by
  refine b_125_0 ?_
  refine ⟨(Ly.t141 L :), ?_⟩
  refine ⟨fun c33 => ?_, fun c33 => ?_⟩
  · have H := H.2 c33
    refine ⟨fun c => absurd c (by decide), fun _ => ?_⟩
    refine ⟨(Ly.t141 L :), ?_⟩
    refine ⟨(Ly.t141 L :), ?_⟩
    by_cases c1 : (ji h 141 6) = -1
    · have H := H.1 c1
      refine ⟨_, m_119y (d := d) (by omega) L c1, ?_⟩
      refine ⟨(Ly.t141 L :), ?_⟩
      have H := H (Ly.wi L (a := 141) (k := 6) (x := ji h 141 3) (by decide))
      obtain ⟨x5, h2, e4, L3, H⟩ := H
      refine ⟨x5, h2, e4, ?_⟩
      refine ⟨fun c6 => ?_, fun c6 => ?_⟩
      · have H := H.1 c6
        exact H
      · have H := H.2 c6
        exact H
    · have H := H.2 c1
      refine ⟨_, m_119n (d := d) (by omega) L c1, ?_⟩
      refine ⟨(Ly.t141 L :), ?_⟩
      have H := H (Ly.wi L (a := 141) (k := 6) (x := ji h 141 6) (by decide))
      obtain ⟨x10, h7, e9, L8, H⟩ := H
      refine ⟨x10, h7, e9, ?_⟩
      refine ⟨fun c11 => ?_, fun c11 => ?_⟩
      · have H := H.1 c11
        exact H
      · have H := H.2 c11
        exact H
  · have c33 := Decidable.not_not.mp c33
    have H := H.1 c33
    refine ⟨(Ly.t141 L :), ?_⟩
    rw [show jr h 141 8 = 143 from (Ly.r141_8 L :)]
    refine ⟨(Ly.t141 L :), ?_⟩
    refine ⟨(Ly.t141 L :), ?_⟩
    obtain ⟨x15, h12, e14, L13, H⟩ := H
    refine ⟨x15, h12, e14, ?_⟩
    refine ⟨fun c32 => ?_, fun c32 => ?_⟩
    · have H := H.2 c32
      refine ⟨(Ly.t141 L13 :), ?_⟩
      obtain ⟨x19, h16, e18, L17, H⟩ := H
      refine ⟨x19, h16, e18, ?_⟩
      refine ⟨fun c20 => ?_, fun c20 => ?_⟩
      · have H := H.1 c20
        exact H
      · have H := H.2 c20
        exact H
    · have c32 := Decidable.not_not.mp c32
      have H := H.1 c32
      refine ⟨(Ly.t141 L13 :), ?_⟩
      refine ⟨(Ly.t141 L13 :), ?_⟩
      by_cases c21 : (ji h12 141 6) = -1
      · have H := H.1 c21
        refine ⟨_, m_119y (d := d) (by omega) L13 c21, ?_⟩
        refine ⟨(Ly.t141 L13 :), ?_⟩
        have H := H (Ly.wi L13 (a := 141) (k := 6) (x := ji h12 141 3) (by decide))
        obtain ⟨x25, h22, e24, L23, H⟩ := H
        refine ⟨x25, h22, e24, ?_⟩
        refine ⟨fun c26 => ?_, fun c26 => ?_⟩
        · have H := H.1 c26
          exact H
        · have H := H.2 c26
          exact H
      · have H := H.2 c21
        refine ⟨_, m_119n (d := d) (by omega) L13 c21, ?_⟩
        refine ⟨(Ly.t141 L13 :), ?_⟩
        have H := H (Ly.wi L13 (a := 141) (k := 6) (x := ji h12 141 6) (by decide))
        obtain ⟨x30, h27, e29, L28, H⟩ := H
        refine ⟨x30, h27, e29, ?_⟩
        refine ⟨fun c31 => ?_, fun c31 => ?_⟩
        · have H := H.1 c31
          exact H
        · have H := H.2 c31
          exact H
set_option maxRecDepth 100000 in
theorem c_128_0 {p : Lpar} {d : Nat} {h : AH} {Q : Option AV → AH → Prop}  (hd : 9 ≤ d) (L : Ly p h) (H : ((ji h 141 6) = -1 → ((ji h 141 2) = 145 → ∃ h7, jE d 118 [jP 141] h none h7 ∧ Ly p h7 ∧ ∃ x13 h10, jE d 120 [jP 141, jI 2] h7 (some (jI x13)) h10 ∧ Ly p h10 ∧ (x13 = (0 : Int) → Q (some (jI 0)) h10) ∧ (¬ (x13 = (0 : Int)) → Q (some (jI (w32 ((-1) * (ji h7 141 5))))) h10)) ∧ (¬ (ji h 141 2) = 145 → ∃ x5 h2, jE d 120 [jP 141, jI 2] h (some (jI x5)) h2 ∧ Ly p h2 ∧ (x5 = (0 : Int) → Q (some (jI 0)) h2) ∧ (¬ (x5 = (0 : Int)) → Q (some (jI (w32 (1 * (ji h 141 5))))) h2))) ∧ (¬ ((ji h 141 6) = -1) → ∃ x19 h16, jE d 120 [jP 141, jI 2] h (some (jI x19)) h16 ∧ Ly p h16 ∧ (x19 = (0 : Int) → Q (some (jI 0)) h16) ∧ (¬ (x19 = (0 : Int)) → Q (some (jI (w32 (1 * (ji h 141 5))))) h16))) : WF d 128 0 [jP 141, jU, jU] [] h Q := by
  refine b_128_0 ?_
  refine ⟨(Ly.t141 L :), ?_⟩
  by_cases c1 : (ji h 141 6) = -1
  · have H := H.1 c1
    refine ⟨1, _, by have := m_122 (d := d) (by omega) L; rw [if_pos c1] at this; exact this, ?_⟩
    refine ⟨fun c => absurd c (by decide), fun _ => ?_⟩
    refine ⟨(Ly.t141 L :), ?_⟩
    refine ⟨fun c15 => ?_, fun c15 => ?_⟩
    · have H := H.2 c15
      refine ⟨(Ly.t141 L :), ?_⟩
      refine ⟨(Ly.t141 L :), ?_⟩
      obtain ⟨x5, h2, e4, L3, H⟩ := H
      refine ⟨x5, h2, e4, ?_⟩
      refine ⟨fun c6 => ?_, fun c6 => ?_⟩
      · have H := H.1 c6
        exact H
      · have H := H.2 c6
        exact H
    · have c15 := Decidable.not_not.mp c15
      have H := H.1 c15
      refine ⟨(Ly.t141 L :), ?_⟩
      obtain ⟨h7, e9, L8, H⟩ := H
      refine ⟨h7, e9, ?_⟩
      refine ⟨(Ly.t141 L8 :), ?_⟩
      refine ⟨(Ly.t141 L8 :), ?_⟩
      obtain ⟨x13, h10, e12, L11, H⟩ := H
      refine ⟨x13, h10, e12, ?_⟩
      refine ⟨fun c14 => ?_, fun c14 => ?_⟩
      · have H := H.1 c14
        exact H
      · have H := H.2 c14
        exact H
  · have H := H.2 c1
    refine ⟨0, _, by have := m_122 (d := d) (by omega) L; rw [if_neg c1] at this; exact this, ?_⟩
    refine ⟨fun _ => ?_, fun c => absurd (by decide) c⟩
    refine ⟨(Ly.t141 L :), ?_⟩
    refine ⟨(Ly.t141 L :), ?_⟩
    obtain ⟨x19, h16, e18, L17, H⟩ := H
    refine ⟨x19, h16, e18, ?_⟩
    refine ⟨fun c20 => ?_, fun c20 => ?_⟩
    · have H := H.1 c20
      exact H
    · have H := H.2 c20
      exact H
set_option maxRecDepth 100000 in
theorem c_129_0 {p : Lpar} {d : Nat} {h : AH} {Q : Option AV → AH → Prop}  (hd : 9 ≤ d) (L : Ly p h) (H : ∃ h1, jE d 118 [jP 141] h none h1 ∧ Ly p h1 ∧ WF d 129 4 [jP 141, jU, jU, jU] [] h1 Q) : WF d 129 0 [jP 141, jU, jU, jU] [] h Q := by
  refine b_129_0 ?_
  refine ⟨(Ly.t141 L :), ?_⟩
  obtain ⟨h1, e3, L2, H⟩ := H
  refine ⟨h1, e3, ?_⟩
  exact H
set_option maxRecDepth 100000 in
theorem c_129_4 {p : Lpar} {d : Nat} {h : AH} {Q : Option AV → AH → Prop} {z1 : AV} {z2 : AV} {z3 : AV} (hd : 9 ≤ d) (L : Ly p h) (H : ((ji h 141 7) = 6 → ((ji h 141 6) = -1 → (Ly p (wi h 141 6 (ji h 141 3)) → WF d 129 21 [jP 141, z1, z2, z3] [] (wi h 141 6 (ji h 141 3)) Q)) ∧ (¬ ((ji h 141 6) = -1) → (Ly p (wi h 141 6 (ji h 141 6)) → WF d 129 21 [jP 141, z1, z2, z3] [] (wi h 141 6 (ji h 141 6)) Q))) ∧ (¬ (ji h 141 7) = 6 → WF d 129 21 [jP 141, z1, z2, z3] [] h Q)) : WF d 129 4 [jP 141, z1, z2, z3] [] h Q := by
  refine b_129_4 ?_
  refine ⟨(Ly.t141 L :), ?_⟩
  refine ⟨fun c2 => ?_, fun c2 => ?_⟩
  · have H := H.2 c2
    exact H
  · have c2 := Decidable.not_not.mp c2
    have H := H.1 c2
    refine ⟨(Ly.t141 L :), ?_⟩
    refine ⟨(Ly.t141 L :), ?_⟩
    by_cases c1 : (ji h 141 6) = -1
    · have H := H.1 c1
      refine ⟨_, m_119y (d := d) (by omega) L c1, ?_⟩
      exact H (Ly.wi L (a := 141) (k := 6) (x := ji h 141 3) (by decide))
    · have H := H.2 c1
      refine ⟨_, m_119n (d := d) (by omega) L c1, ?_⟩
      exact H (Ly.wi L (a := 141) (k := 6) (x := ji h 141 6) (by decide))
set_option maxRecDepth 100000 in
theorem c_129_21 {p : Lpar} {d : Nat} {h : AH} {Q : Option AV → AH → Prop} {z1 : AV} {z2 : AV} {z3 : AV} (hd : 9 ≤ d) (L : Ly p h) (H : ∃ x4 h1, jE d 124 [jP 141] h (some (jI x4)) h1 ∧ Ly p h1 ∧ WF d 129 26 [jP 141, jI x4, z2, z3] [] h1 Q) : WF d 129 21 [jP 141, z1, z2, z3] [] h Q := by
  refine b_129_21 ?_
  refine ⟨(Ly.t141 L :), ?_⟩
  obtain ⟨x4, h1, e3, L2, H⟩ := H
  refine ⟨x4, h1, e3, ?_⟩
  exact H
set_option maxRecDepth 100000 in
theorem c_129_26 {p : Lpar} {d : Nat} {h : AH} {Q : Option AV → AH → Prop} {v1 : Int} {z2 : AV} {z3 : AV} (hd : 9 ≤ d) (L : Ly p h) (H : ∃ x4 h1, jE d 121 [jP 141, jI 61] h (some (jI x4)) h1 ∧ Ly p h1 ∧ WF d 129 33 [jP 141, jI v1, z2, z3] [] h1 Q) : WF d 129 26 [jP 141, jI v1, z2, z3] [] h Q := by
  refine b_129_26 ?_
  refine ⟨(Ly.t141 L :), ?_⟩
  obtain ⟨x4, h1, e3, L2, H⟩ := H
  refine ⟨x4, h1, e3, ?_⟩
  exact H
set_option maxRecDepth 100000 in
theorem c_129_33 {p : Lpar} {d : Nat} {h : AH} {Q : Option AV → AH → Prop} {v1 : Int} {z2 : AV} {z3 : AV} (hd : 9 ≤ d) (L : Ly p h) (H : WF d 129 38 [jP 141, jI v1, jI (ji h 141 5), z3] [] h Q) : WF d 129 33 [jP 141, jI v1, z2, z3] [] h Q := by
  refine b_129_33 ?_
  refine ⟨(Ly.t141 L :), ?_⟩
  exact H
set_option maxRecDepth 100000 in
theorem c_129_38 {p : Lpar} {d : Nat} {h : AH} {Q : Option AV → AH → Prop} {v1 : Int} {v2 : Int} {z3 : AV} (hd : 9 ≤ d) (L : Ly p h) (H : ∃ x4 h1, jE d 120 [jP 141, jI 2] h (some (jI x4)) h1 ∧ Ly p h1 ∧ WF d 129 44 [jP 141, jI v1, jI v2, z3] [] h1 Q) : WF d 129 38 [jP 141, jI v1, jI v2, z3] [] h Q := by
  refine b_129_38 ?_
  refine ⟨(Ly.t141 L :), ?_⟩
  obtain ⟨x4, h1, e3, L2, H⟩ := H
  refine ⟨x4, h1, e3, ?_⟩
  exact H
set_option maxRecDepth 100000 in
theorem c_129_44 {p : Lpar} {d : Nat} {h : AH} {Q : Option AV → AH → Prop} {v1 : Int} {v2 : Int} {z3 : AV} (hd : 9 ≤ d) (L : Ly p h) (H : ∃ x4 h1, jE d 120 [jP 141, jI 22] h (some (jI x4)) h1 ∧ Ly p h1 ∧ WF d 129 51 [jP 141, jI v1, jI v2, z3] [] h1 Q) : WF d 129 44 [jP 141, jI v1, jI v2, z3] [] h Q := by
  refine b_129_44 ?_
  refine ⟨(Ly.t141 L :), ?_⟩
  obtain ⟨x4, h1, e3, L2, H⟩ := H
  refine ⟨x4, h1, e3, ?_⟩
  exact H
set_option maxRecDepth 100000 in
theorem c_129_51 {p : Lpar} {d : Nat} {h : AH} {Q : Option AV → AH → Prop} {v1 : Int} {v2 : Int} {z3 : AV} (hd : 9 ≤ d) (L : Ly p h) (H : ((ji h 141 6) = -1 → ((ji h 141 2) = 2 → ((ji h 141 5) < (w32 (v2 - 1)) → ((ji h 141 6) = -1 → (Ly p (wi h 141 6 (ji h 141 3)) → WF d 129 97 [jP 141, jI v1, jI v2, z3] [] (wi h 141 6 (ji h 141 3)) Q)) ∧ (¬ ((ji h 141 6) = -1) → (Ly p (wi h 141 6 (ji h 141 6)) → WF d 129 97 [jP 141, jI v1, jI v2, z3] [] (wi h 141 6 (ji h 141 6)) Q))) ∧ (¬ ((ji h 141 5) < (w32 (v2 - 1))) → ((w32 ((w32 ((ji h 141 5) - v2)) + 1)) ≤ 8 → WF d 129 97 [jP 141, jI v1, jI v2, z3] [] h Q) ∧ (¬ ((w32 ((w32 ((ji h 141 5) - v2)) + 1)) ≤ 8) → ((ji h 141 6) = -1 → (Ly p (wi h 141 6 (ji h 141 3)) → WF d 129 97 [jP 141, jI v1, jI v2, z3] [] (wi h 141 6 (ji h 141 3)) Q)) ∧ (¬ ((ji h 141 6) = -1) → (Ly p (wi h 141 6 (ji h 141 6)) → WF d 129 97 [jP 141, jI v1, jI v2, z3] [] (wi h 141 6 (ji h 141 6)) Q))))) ∧ (¬ (ji h 141 2) = 2 → WF d 129 97 [jP 141, jI v1, jI v2, z3] [] h Q)) ∧ (¬ ((ji h 141 6) = -1) → WF d 129 97 [jP 141, jI v1, jI v2, z3] [] h Q)) : WF d 129 51 [jP 141, jI v1, jI v2, z3] [] h Q := by
  refine b_129_51 ?_
  refine ⟨(Ly.t141 L :), ?_⟩
  by_cases c1 : (ji h 141 6) = -1
  · have H := H.1 c1
    refine ⟨1, _, by have := m_122 (d := d) (by omega) L; rw [if_pos c1] at this; exact this, ?_⟩
    refine ⟨fun c => absurd c (by decide), fun _ => ?_⟩
    refine ⟨(Ly.t141 L :), ?_⟩
    refine ⟨fun c6 => ?_, fun c6 => ?_⟩
    · have H := H.2 c6
      exact H
    · have c6 := Decidable.not_not.mp c6
      have H := H.1 c6
      refine ⟨(Ly.t141 L :), ?_⟩
      refine ⟨fun c5 => ?_, fun c5 => ?_⟩
      · have H := H.1 c5
        refine ⟨(Ly.t141 L :), ?_⟩
        refine ⟨(Ly.t141 L :), ?_⟩
        by_cases c2 : (ji h 141 6) = -1
        · have H := H.1 c2
          refine ⟨_, m_119y (d := d) (by omega) L c2, ?_⟩
          exact H (Ly.wi L (a := 141) (k := 6) (x := ji h 141 3) (by decide))
        · have H := H.2 c2
          refine ⟨_, m_119n (d := d) (by omega) L c2, ?_⟩
          exact H (Ly.wi L (a := 141) (k := 6) (x := ji h 141 6) (by decide))
      · have H := H.2 c5
        refine ⟨(Ly.t141 L :), ?_⟩
        refine ⟨fun c4 => ?_, fun c4 => ?_⟩
        · have H := H.1 c4
          exact H
        · have H := H.2 c4
          refine ⟨(Ly.t141 L :), ?_⟩
          refine ⟨(Ly.t141 L :), ?_⟩
          by_cases c3 : (ji h 141 6) = -1
          · have H := H.1 c3
            refine ⟨_, m_119y (d := d) (by omega) L c3, ?_⟩
            exact H (Ly.wi L (a := 141) (k := 6) (x := ji h 141 3) (by decide))
          · have H := H.2 c3
            refine ⟨_, m_119n (d := d) (by omega) L c3, ?_⟩
            exact H (Ly.wi L (a := 141) (k := 6) (x := ji h 141 6) (by decide))
  · have H := H.2 c1
    refine ⟨0, _, by have := m_122 (d := d) (by omega) L; rw [if_neg c1] at this; exact this, ?_⟩
    refine ⟨fun _ => ?_, fun c => absurd (by decide) c⟩
    exact H
set_option maxRecDepth 100000 in
theorem c_129_97 {p : Lpar} {d : Nat} {h : AH} {Q : Option AV → AH → Prop} {v1 : Int} {v2 : Int} {z3 : AV} (hd : 9 ≤ d) (L : Ly p h) (H : WF d 129 102 [jP 141, jI v1, jI v2, jI (ji h 141 5)] [] h Q) : WF d 129 97 [jP 141, jI v1, jI v2, z3] [] h Q := by
  refine b_129_97 ?_
  refine ⟨(Ly.t141 L :), ?_⟩
  exact H
set_option maxRecDepth 100000 in
theorem c_129_102 {p : Lpar} {d : Nat} {h : AH} {Q : Option AV → AH → Prop} {v1 : Int} {v2 : Int} {v3 : Int} (hd : 9 ≤ d) (L : Ly p h) (H : ∃ x4 h1, jE d 120 [jP 141, jI 2] h (some (jI x4)) h1 ∧ Ly p h1 ∧ WF d 129 108 [jP 141, jI v1, jI v2, jI v3] [] h1 Q) : WF d 129 102 [jP 141, jI v1, jI v2, jI v3] [] h Q := by
  refine b_129_102 ?_
  refine ⟨(Ly.t141 L :), ?_⟩
  obtain ⟨x4, h1, e3, L2, H⟩ := H
  refine ⟨x4, h1, e3, ?_⟩
  exact H
set_option maxRecDepth 100000 in
theorem c_129_108 {p : Lpar} {d : Nat} {h : AH} {Q : Option AV → AH → Prop} {v1 : Int} {v2 : Int} {v3 : Int} (hd : 9 ≤ d) (L : Ly p h) (H : ∃ x4 h1, jE d 121 [jP 141, jI 59] h (some (jI x4)) h1 ∧ Ly p h1 ∧ (x4 = (0 : Int) → WF d 129 161 [jP 141, jI v1, jI v2, jI v3] [] h1 Q) ∧ (¬ (x4 = (0 : Int)) → 0 ≤ (ji h1 141 7) ∧ (ji h1 141 7) < 6 ∧ (Ly p (wi h1 143 (Int.toNat (ji h1 141 7)) v1) → WF d 129 127 [jP 141, jI v1, jI v2, jI v3] [] (wi h1 143 (Int.toNat (ji h1 141 7)) v1) Q))) : WF d 129 108 [jP 141, jI v1, jI v2, jI v3] [] h Q := by
  refine b_129_108 ?_
  refine ⟨(Ly.t141 L :), ?_⟩
  obtain ⟨x4, h1, e3, L2, H⟩ := H
  refine ⟨x4, h1, e3, ?_⟩
  refine ⟨fun c7 => ?_, fun c7 => ?_⟩
  · have H := H.1 c7
    exact H
  · have H := H.2 c7
    refine ⟨(Ly.t141 L2 :), ?_⟩
    rw [show jr h1 141 8 = 143 from (Ly.r141_8 L2 :)]
    refine ⟨(Ly.t141 L2 :), ?_⟩
    obtain ⟨z5, z6, H⟩ := H
    refine ⟨inW_mk (N := 6) (Ly.t143 L2 :) (Ly.n143 L2 :) z5 z6, ?_⟩
    exact H (Ly.wi L2 (a := 143) (k := Int.toNat (ji h1 141 7)) (x := v1) (by decide))
set_option maxRecDepth 100000 in
theorem c_129_127 {p : Lpar} {d : Nat} {h : AH} {Q : Option AV → AH → Prop} {v1 : Int} {v2 : Int} {v3 : Int} (hd : 9 ≤ d) (L : Ly p h) (H : 0 ≤ (ji h 141 7) ∧ (ji h 141 7) < 6 ∧ (Ly p (wi h 144 (Int.toNat (ji h 141 7)) v2) → WF d 129 137 [jP 141, jI v1, jI v2, jI v3] [] (wi h 144 (Int.toNat (ji h 141 7)) v2) Q)) : WF d 129 127 [jP 141, jI v1, jI v2, jI v3] [] h Q := by
  refine b_129_127 ?_
  refine ⟨(Ly.t141 L :), ?_⟩
  rw [show jr h 141 9 = 144 from (Ly.r141_9 L :)]
  refine ⟨(Ly.t141 L :), ?_⟩
  obtain ⟨z1, z2, H⟩ := H
  refine ⟨inW_mk (N := 6) (Ly.t144 L :) (Ly.n144 L :) z1 z2, ?_⟩
  exact H (Ly.wi L (a := 144) (k := Int.toNat (ji h 141 7)) (x := v2) (by decide))
set_option maxRecDepth 100000 in
theorem c_129_137 {p : Lpar} {d : Nat} {h : AH} {Q : Option AV → AH → Prop} {v1 : Int} {v2 : Int} {v3 : Int} (hd : 9 ≤ d) (L : Ly p h) (H : 0 ≤ (ji h 141 7) ∧ (ji h 141 7) < 6 ∧ (Ly p (wi h 145 (Int.toNat (ji h 141 7)) (w32 ((w32 (v3 - v2)) + 1))) → WF d 129 151 [jP 141, jI v1, jI v2, jI v3] [] (wi h 145 (Int.toNat (ji h 141 7)) (w32 ((w32 (v3 - v2)) + 1))) Q)) : WF d 129 137 [jP 141, jI v1, jI v2, jI v3] [] h Q := by
  refine b_129_137 ?_
  refine ⟨(Ly.t141 L :), ?_⟩
  rw [show jr h 141 10 = 145 from (Ly.r141_10 L :)]
  refine ⟨(Ly.t141 L :), ?_⟩
  obtain ⟨z1, z2, H⟩ := H
  refine ⟨inW_mk (N := 6) (Ly.t145 L :) (Ly.n145 L :) z1 z2, ?_⟩
  exact H (Ly.wi L (a := 145) (k := Int.toNat (ji h 141 7)) (x := w32 ((w32 (v3 - v2)) + 1)) (by decide))
set_option maxRecDepth 100000 in
theorem c_129_151 {p : Lpar} {d : Nat} {h : AH} {Q : Option AV → AH → Prop} {v1 : Int} {v2 : Int} {v3 : Int} (hd : 9 ≤ d) (L : Ly p h) (H : (Ly p (wi h 141 7 (w32 ((ji h 141 7) + 1))) → WF d 129 161 [jP 141, jI v1, jI v2, jI v3] [] (wi h 141 7 (w32 ((ji h 141 7) + 1))) Q)) : WF d 129 151 [jP 141, jI v1, jI v2, jI v3] [] h Q := by
  refine b_129_151 ?_
  refine ⟨(Ly.t141 L :), ?_⟩
  refine ⟨(Ly.t141 L :), ?_⟩
  exact H (Ly.wi L (a := 141) (k := 7) (x := w32 ((ji h 141 7) + 1)) (by decide))
set_option maxRecDepth 100000 in
theorem c_129_161 {p : Lpar} {d : Nat} {h : AH} {Q : Option AV → AH → Prop} {v1 : Int} {v2 : Int} {v3 : Int} (hd : 9 ≤ d) (L : Ly p h) (H : Q none h) : WF d 129 161 [jP 141, jI v1, jI v2, jI v3] [] h Q := by
  refine b_129_161 ?_
  exact H
