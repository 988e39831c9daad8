-- needs: 20.num 21.lay 22.spec 23.va 24.leaf 25.tbls 26.thg 27.tok
set_option maxRecDepth 100000 in
theorem c_65_0 {p : Lpar} {d : Nat} {h : AH} {Q : Option AV → AH → Prop}  (hd : 9 ≤ d) (L : Ly p h) (H : (Ly p (wi (wi (wi h 37 3 0) 37 4 0) 37 5 0) → WF d 65 17 [jP 37, jP 33, jU, jI 0, jU] [] (wi (wi (wi h 37 3 0) 37 4 0) 37 5 0) Q)) : WF d 65 0 [jP 37, jP 33, jU, jU, jU] [] h Q := by
  refine b_65_0 ?_
  refine ⟨(Ly.t37 L :), ?_⟩
  refine b_65_5 ?_
  refine ⟨(Ly.t37 L :), ?_⟩
  refine b_65_10 ?_
  refine ⟨(Ly.t37 L :), ?_⟩
  refine b_65_15 ?_
  exact H (Ly.wi (Ly.wi (Ly.wi L (a := 37) (k := 3) (x := 0) (by decide)) (a := 37) (k := 4) (x := 0) (by decide)) (a := 37) (k := 5) (x := 0) (by decide))
set_option maxRecDepth 100000 in
theorem c_65_17 {p : Lpar} {d : Nat} {h : AH} {Q : Option AV → AH → Prop} {z2 : AV} {v3 : Int} {z4 : AV} (hd : 9 ≤ d) (L : Ly p h) (H : ((ji h 33 1) ≤ v3 → ∃ h1, jE d 69 [jP 37, jI 1, jI (ji h 33 1), jI 0] h none h1 ∧ Ly p h1 ∧ Q none h1) ∧ (¬ ((ji h 33 1) ≤ v3) → ∃ x7 h4, jE d 1 [jP 33, jI v3] h (some (jI x7)) h4 ∧ Ly p h4 ∧ (97 ≤ x7 ∧ x7 ≤ 122 → ∃ x12 h9, jE d 66 [jP 37, jP 33, jI v3] h4 (some (jI x12)) h9 ∧ Ly p h9 ∧ WF d 65 17 [jP 37, jP 33, jI x12, jI (w32 (v3 + (if 1 < x12 then x12 else 1))), jI x7] [] h9 Q) ∧ (¬ (97 ≤ x7 ∧ x7 ≤ 122) → (48 ≤ x7 ∧ x7 ≤ 57 → ∃ x17 h14, jE d 67 [jP 37, jP 33, jI v3] h4 (some (jI x17)) h14 ∧ Ly p h14 ∧ WF d 65 17 [jP 37, jP 33, jI x17, jI (w32 (v3 + (if 1 < x17 then x17 else 1))), jI x7] [] h14 Q) ∧ (¬ (48 ≤ x7 ∧ x7 ≤ 57) → (x7 = 32 → WF d 65 17 [jP 37, jP 33, jI 1, jI (w32 (v3 + (if 1 < 1 then 1 else 1))), jI x7] [] h4 Q) ∧ (¬ (x7 = 32) → (x7 = 10 → WF d 65 17 [jP 37, jP 33, jI 1, jI (w32 (v3 + (if 1 < 1 then 1 else 1))), jI x7] [] h4 Q) ∧ (¬ x7 = 10 → ∃ x21 h18, jE d 68 [jP 37, jP 33, jI v3] h4 (some (jI x21)) h18 ∧ Ly p h18 ∧ WF d 65 17 [jP 37, jP 33, jI x21, jI (w32 (v3 + (if 1 < x21 then x21 else 1))), jI x7] [] h18 Q)))))) : WF d 65 17 [jP 37, jP 33, z2, jI v3, z4] [] h Q := by
  refine b_65_17 ?_
  refine ⟨(Ly.t33 L :), ?_⟩
  refine ⟨fun c24 => ?_, fun c24 => ?_⟩
  · have H := H.1 c24
    refine ⟨(Ly.t33 L :), ?_⟩
    refine ⟨(Ly.t37 L :), ?_⟩
    obtain ⟨h1, e3, L2, H⟩ := H
    refine ⟨h1, e3, ?_⟩
    refine b_65_115 ?_
    exact H
  · have H := H.2 c24
    refine ⟨(Ly.t33 L :), ?_⟩
    obtain ⟨x7, h4, e6, L5, H⟩ := H
    refine ⟨x7, h4, e6, ?_⟩
    refine b_65_32 ?_
    by_cases c8 : 97 ≤ x7 ∧ x7 ≤ 122
    · have H := H.1 c8
      refine ⟨1, _, by have := m_78 (d := d) (c := x7) (by omega) L5; rw [if_pos c8] at this; exact this, ?_⟩
      refine ⟨fun c => absurd c (by decide), fun _ => ?_⟩
      refine ⟨(Ly.t37 L5 :), ?_⟩
      obtain ⟨x12, h9, e11, L10, H⟩ := H
      refine ⟨x12, h9, e11, ?_⟩
      refine b_65_47 ?_
      refine b_65_94 ?_
      refine b_65_102 ?_
      exact H
    · have H := H.2 c8
      refine ⟨0, _, by have := m_78 (d := d) (c := x7) (by omega) L5; rw [if_neg c8] at this; exact this, ?_⟩
      refine ⟨fun _ => ?_, fun c => absurd (by decide) c⟩
      by_cases c13 : 48 ≤ x7 ∧ x7 ≤ 57
      · have H := H.1 c13
        refine ⟨1, _, by have := m_79 (d := d) (c := x7) (by omega) L5; rw [if_pos c13] at this; exact this, ?_⟩
        refine ⟨fun c => absurd c (by decide), fun _ => ?_⟩
        refine ⟨(Ly.t37 L5 :), ?_⟩
        obtain ⟨x17, h14, e16, L15, H⟩ := H
        refine ⟨x17, h14, e16, ?_⟩
        refine b_65_65 ?_
        refine b_65_94 ?_
        refine b_65_102 ?_
        exact H
      · have H := H.2 c13
        refine ⟨0, _, by have := m_79 (d := d) (c := x7) (by omega) L5; rw [if_neg c13] at this; exact this, ?_⟩
        refine ⟨fun _ => ?_, fun c => absurd (by decide) c⟩
        refine ⟨fun c23 => ?_, fun c23 => ?_⟩
        · have H := H.1 c23
          refine b_65_84 ?_
          refine b_65_94 ?_
          refine b_65_102 ?_
          exact H
        · have H := H.2 c23
          refine ⟨fun c22 => ?_, fun c22 => ?_⟩
          · have H := H.2 c22
            refine ⟨(Ly.t37 L5 :), ?_⟩
            obtain ⟨x21, h18, e20, L19, H⟩ := H
            refine ⟨x21, h18, e20, ?_⟩
            refine b_65_94 ?_
            refine b_65_102 ?_
            exact H
          · have c22 := Decidable.not_not.mp c22
            have H := H.1 c22
            refine b_65_84 ?_
            refine b_65_94 ?_
            refine b_65_102 ?_
            exact H
set_option maxRecDepth 100000 in
theorem c_66_0 {p : Lpar} {d : Nat} {h : AH} {Q : Option AV → AH → Prop} {v2 : Int} (hd : 9 ≤ d) (L : Ly p h) (H : WF d 66 5 [jP 37, jP 33, jI v2, jI 0, jI v2, jU, jU] [] h Q) : WF d 66 0 [jP 37, jP 33, jI v2, jU, jU, jU, jU] [] h Q := by
  refine b_66_0 ?_
  exact H
set_option maxRecDepth 100000 in
theorem c_66_5 {p : Lpar} {d : Nat} {h : AH} {Q : Option AV → AH → Prop} {v2 : Int} {v3 : Int} {v4 : Int} {z5 : AV} {z6 : AV} (hd : 9 ≤ d) (L : Ly p h) (H : ((ji h 33 1) ≤ v4 → WF d 66 50 [jP 37, jP 33, jI v2, jI v3, jI v4, jI 3, jI 0] [] h Q) ∧ (¬ ((ji h 33 1) ≤ v4) → ∃ x4 h1, jE d 1 [jP 33, jI v4] h (some (jI x4)) h1 ∧ Ly p h1 ∧ (97 ≤ x4 ∧ x4 ≤ 122 → ∃ x9 h6, jE d 1 [jP 33, jI v4] h1 (some (jI x9)) h6 ∧ Ly p h6 ∧ WF d 66 5 [jP 37, jP 33, jI v2, jI (jor (jshl v3 8) x9), jI (w32 (v4 + 1)), z5, z6] [] h6 Q) ∧ (¬ (97 ≤ x4 ∧ x4 ≤ 122) → WF d 66 50 [jP 37, jP 33, jI v2, jI v3, jI v4, jI 3, jI 0] [] h1 Q))) : WF d 66 5 [jP 37, jP 33, jI v2, jI v3, jI v4, z5, z6] [] h Q := by
  refine b_66_5 ?_
  refine ⟨(Ly.t33 L :), ?_⟩
  refine ⟨fun c10 => ?_, fun c10 => ?_⟩
  · have H := H.1 c10
    exact H
  · have H := H.2 c10
    refine ⟨(Ly.t33 L :), ?_⟩
    obtain ⟨x4, h1, e3, L2, H⟩ := H
    refine ⟨x4, h1, e3, ?_⟩
    by_cases c5 : 97 ≤ x4 ∧ x4 ≤ 122
    · have H := H.1 c5
      refine ⟨1, _, by have := m_78 (d := d) (c := x4) (by omega) L2; rw [if_pos c5] at this; exact this, ?_⟩
      refine ⟨fun c => absurd c (by decide), fun _ => ?_⟩
      refine ⟨(Ly.t33 L2 :), ?_⟩
      obtain ⟨x9, h6, e8, L7, H⟩ := H
      refine ⟨x9, h6, e8, ?_⟩
      exact H
    · have H := H.2 c5
      refine ⟨0, _, by have := m_78 (d := d) (c := x4) (by omega) L2; rw [if_neg c5] at this; exact this, ?_⟩
      refine ⟨fun _ => ?_, fun c => absurd (by decide) c⟩
      exact H
set_option maxRecDepth 100000 in
theorem c_66_50 {p : Lpar} {d : Nat} {h : AH} {Q : Option AV → AH → Prop} {v2 : Int} {v3 : Int} {v4 : Int} {v5 : Int} {v6 : Int} (hd : 9 ≤ d) (L : Ly p h) (H : 20 ≤ jt h 3 ∧ jt h 3 < 60 ∧ ((jn h 3 : Int) ≤ v6 → ((w32 (v4 - v2)) ≤ 4 → ∃ h1, jE d 69 [jP 37, jI v5, jI v2, jI v3] h none h1 ∧ Ly p h1 ∧ Q (some (jI (w32 (v4 - v2)))) h1) ∧ (¬ ((w32 (v4 - v2)) ≤ 4) → ∃ h4, jE d 69 [jP 37, jI 2, jI v2, jI v3] h none h4 ∧ Ly p h4 ∧ Q (some (jI (w32 (v4 - v2)))) h4)) ∧ (¬ ((jn h 3 : Int) ≤ v6) → inA h 3 0 v6 ∧ ((ji h 3 (Int.toNat v6)) = v3 → WF d 66 50 [jP 37, jP 33, jI v2, jI v3, jI v4, jI v3, jI (w32 (v6 + 1))] [] h Q) ∧ (¬ (ji h 3 (Int.toNat v6)) = v3 → WF d 66 50 [jP 37, jP 33, jI v2, jI v3, jI v4, jI v5, jI (w32 (v6 + 1))] [] h Q))) : WF d 66 50 [jP 37, jP 33, jI v2, jI v3, jI v4, jI v5, jI v6] [] h Q := by
  refine b_66_50 ?_
  obtain ⟨z11, z12, H⟩ := H
  refine ⟨z11, z12, ?_⟩
  refine ⟨fun c10 => ?_, fun c10 => ?_⟩
  · have H := H.1 c10
    refine ⟨fun c7 => ?_, fun c7 => ?_⟩
    · have H := H.1 c7
      refine ⟨(Ly.t37 L :), ?_⟩
      obtain ⟨h1, e3, L2, H⟩ := H
      refine ⟨h1, e3, ?_⟩
      exact H
    · have H := H.2 c7
      refine ⟨(Ly.t37 L :), ?_⟩
      obtain ⟨h4, e6, L5, H⟩ := H
      refine ⟨h4, e6, ?_⟩
      exact H
  · have H := H.2 c10
    obtain ⟨z9, H⟩ := H
    refine ⟨z9, ?_⟩
    refine ⟨fun c8 => ?_, fun c8 => ?_⟩
    · have H := H.2 c8
      exact H
    · have c8 := Decidable.not_not.mp c8
      have H := H.1 c8
      exact H
set_option maxRecDepth 100000 in
theorem c_67_0 {p : Lpar} {d : Nat} {h : AH} {Q : Option AV → AH → Prop} {v2 : Int} (hd : 9 ≤ d) (L : Ly p h) (H : WF d 67 5 [jP 37, jP 33, jI v2, jI 0, jI v2] [] h Q) : WF d 67 0 [jP 37, jP 33, jI v2, jU, jU] [] h Q := by
  refine b_67_0 ?_
  exact H
set_option maxRecDepth 100000 in
theorem c_67_5 {p : Lpar} {d : Nat} {h : AH} {Q : Option AV → AH → Prop} {v2 : Int} {v3 : Int} {v4 : Int} (hd : 9 ≤ d) (L : Ly p h) (H : ((ji h 33 1) ≤ v4 → ((w32 (v4 - v2)) ≤ 4 → ∃ h1, jE d 69 [jP 37, jI 4, jI v2, jI v3] h none h1 ∧ Ly p h1 ∧ Q (some (jI (w32 (v4 - v2)))) h1) ∧ (¬ ((w32 (v4 - v2)) ≤ 4) → ∃ h4, jE d 69 [jP 37, jI 2, jI v2, jI v3] h none h4 ∧ Ly p h4 ∧ Q (some (jI (w32 (v4 - v2)))) h4)) ∧ (¬ ((ji h 33 1) ≤ v4) → ∃ x11 h8, jE d 1 [jP 33, jI v4] h (some (jI x11)) h8 ∧ Ly p h8 ∧ (48 ≤ x11 ∧ x11 ≤ 57 → ∃ x16 h13, jE d 1 [jP 33, jI v4] h8 (some (jI x16)) h13 ∧ Ly p h13 ∧ WF d 67 5 [jP 37, jP 33, jI v2, jI (w32 ((w32 ((w32 (v3 * 10)) + x16)) - 48)), jI (w32 (v4 + 1))] [] h13 Q) ∧ (¬ (48 ≤ x11 ∧ x11 ≤ 57) → ((w32 (v4 - v2)) ≤ 4 → ∃ h17, jE d 69 [jP 37, jI 4, jI v2, jI v3] h8 none h17 ∧ Ly p h17 ∧ Q (some (jI (w32 (v4 - v2)))) h17) ∧ (¬ ((w32 (v4 - v2)) ≤ 4) → ∃ h20, jE d 69 [jP 37, jI 2, jI v2, jI v3] h8 none h20 ∧ Ly p h20 ∧ Q (some (jI (w32 (v4 - v2)))) h20)))) : WF d 67 5 [jP 37, jP 33, jI v2, jI v3, jI v4] [] h Q := by
  refine b_67_5 ?_
  refine ⟨(Ly.t33 L :), ?_⟩
  refine ⟨fun c24 => ?_, fun c24 => ?_⟩
  · have H := H.1 c24
    refine ⟨fun c7 => ?_, fun c7 => ?_⟩
    · have H := H.1 c7
      refine ⟨(Ly.t37 L :), ?_⟩
      obtain ⟨h1, e3, L2, H⟩ := H
      refine ⟨h1, e3, ?_⟩
      exact H
    · have H := H.2 c7
      refine ⟨(Ly.t37 L :), ?_⟩
      obtain ⟨h4, e6, L5, H⟩ := H
      refine ⟨h4, e6, ?_⟩
      exact H
  · have H := H.2 c24
    refine ⟨(Ly.t33 L :), ?_⟩
    obtain ⟨x11, h8, e10, L9, H⟩ := H
    refine ⟨x11, h8, e10, ?_⟩
    by_cases c12 : 48 ≤ x11 ∧ x11 ≤ 57
    · have H := H.1 c12
      refine ⟨1, _, by have := m_79 (d := d) (c := x11) (by omega) L9; rw [if_pos c12] at this; exact this, ?_⟩
      refine ⟨fun c => absurd c (by decide), fun _ => ?_⟩
      refine ⟨(Ly.t33 L9 :), ?_⟩
      obtain ⟨x16, h13, e15, L14, H⟩ := H
      refine ⟨x16, h13, e15, ?_⟩
      exact H
    · have H := H.2 c12
      refine ⟨0, _, by have := m_79 (d := d) (c := x11) (by omega) L9; rw [if_neg c12] at this; exact this, ?_⟩
      refine ⟨fun _ => ?_, fun c => absurd (by decide) c⟩
      refine ⟨fun c23 => ?_, fun c23 => ?_⟩
      · have H := H.1 c23
        refine ⟨(Ly.t37 L9 :), ?_⟩
        obtain ⟨h17, e19, L18, H⟩ := H
        refine ⟨h17, e19, ?_⟩
        exact H
      · have H := H.2 c23
        refine ⟨(Ly.t37 L9 :), ?_⟩
        obtain ⟨h20, e22, L21, H⟩ := H
        refine ⟨h20, e22, ?_⟩
        exact H
set_option maxRecDepth 100000 in
theorem c_68_0 {p : Lpar} {d : Nat} {h : AH} {Q : Option AV → AH → Prop} {v2 : Int} (hd : 9 ≤ d) (L : Ly p h) (H : ∃ x4 h1, jE d 1 [jP 33, jI v2] h (some (jI x4)) h1 ∧ Ly p h1 ∧ ∃ x8 h5, jE d 1 [jP 33, jI (w32 (v2 + 1))] h1 (some (jI x8)) h5 ∧ Ly p h5 ∧ (x4 = 60 → (x8 = 61 → ∃ h135, jE d 69 [jP 37, jI 5, jI v2, jI 0] h5 none h135 ∧ Ly p h135 ∧ Q (some (jI 2)) h135) ∧ (¬ x8 = 61 → (x4 = 62 → (x8 = 61 → ∃ h130, jE d 69 [jP 37, jI 6, jI v2, jI 0] h5 none h130 ∧ Ly p h130 ∧ Q (some (jI 2)) h130) ∧ (¬ x8 = 61 → (x4 = 46 → (x8 = 46 → ∃ h125, jE d 69 [jP 37, jI 7, jI v2, jI 0] h5 none h125 ∧ Ly p h125 ∧ Q (some (jI 2)) h125) ∧ (¬ x8 = 46 → jt h5 4 = 60 ∧ ∃ x116 h113, jE d 191 [jP 4, jI (ji2c x4)] h5 (some (jI x116)) h113 ∧ Ly p h113 ∧ (0 ≤ x116 → ∃ h117, jE d 69 [jP 37, jI x4, jI v2, jI 0] h113 none h117 ∧ Ly p h117 ∧ Q (some (jI 1)) h117) ∧ (¬ (0 ≤ x116) → ∃ h120, jE d 69 [jP 37, jI 2, jI v2, jI 0] h113 none h120 ∧ Ly p h120 ∧ Q (some (jI 1)) h120))) ∧ (¬ x4 = 46 → jt h5 4 = 60 ∧ ∃ x104 h101, jE d 191 [jP 4, jI (ji2c x4)] h5 (some (jI x104)) h101 ∧ Ly p h101 ∧ (0 ≤ x104 → ∃ h105, jE d 69 [jP 37, jI x4, jI v2, jI 0] h101 none h105 ∧ Ly p h105 ∧ Q (some (jI 1)) h105) ∧ (¬ (0 ≤ x104) → ∃ h108, jE d 69 [jP 37, jI 2, jI v2, jI 0] h101 none h108 ∧ Ly p h108 ∧ Q (some (jI 1)) h108)))) ∧ (¬ x4 = 62 → (x4 = 46 → (x8 = 46 → ∃ h96, jE d 69 [jP 37, jI 7, jI v2, jI 0] h5 none h96 ∧ Ly p h96 ∧ Q (some (jI 2)) h96) ∧ (¬ x8 = 46 → jt h5 4 = 60 ∧ ∃ x87 h84, jE d 191 [jP 4, jI (ji2c x4)] h5 (some (jI x87)) h84 ∧ Ly p h84 ∧ (0 ≤ x87 → ∃ h88, jE d 69 [jP 37, jI x4, jI v2, jI 0] h84 none h88 ∧ Ly p h88 ∧ Q (some (jI 1)) h88) ∧ (¬ (0 ≤ x87) → ∃ h91, jE d 69 [jP 37, jI 2, jI v2, jI 0] h84 none h91 ∧ Ly p h91 ∧ Q (some (jI 1)) h91))) ∧ (¬ x4 = 46 → jt h5 4 = 60 ∧ ∃ x75 h72, jE d 191 [jP 4, jI (ji2c x4)] h5 (some (jI x75)) h72 ∧ Ly p h72 ∧ (0 ≤ x75 → ∃ h76, jE d 69 [jP 37, jI x4, jI v2, jI 0] h72 none h76 ∧ Ly p h76 ∧ Q (some (jI 1)) h76) ∧ (¬ (0 ≤ x75) → ∃ h79, jE d 69 [jP 37, jI 2, jI v2, jI 0] h72 none h79 ∧ Ly p h79 ∧ Q (some (jI 1)) h79))))) ∧ (¬ x4 = 60 → (x4 = 62 → (x8 = 61 → ∃ h67, jE d 69 [jP 37, jI 6, jI v2, jI 0] h5 none h67 ∧ Ly p h67 ∧ Q (some (jI 2)) h67) ∧ (¬ x8 = 61 → (x4 = 46 → (x8 = 46 → ∃ h62, jE d 69 [jP 37, jI 7, jI v2, jI 0] h5 none h62 ∧ Ly p h62 ∧ Q (some (jI 2)) h62) ∧ (¬ x8 = 46 → jt h5 4 = 60 ∧ ∃ x53 h50, jE d 191 [jP 4, jI (ji2c x4)] h5 (some (jI x53)) h50 ∧ Ly p h50 ∧ (0 ≤ x53 → ∃ h54, jE d 69 [jP 37, jI x4, jI v2, jI 0] h50 none h54 ∧ Ly p h54 ∧ Q (some (jI 1)) h54) ∧ (¬ (0 ≤ x53) → ∃ h57, jE d 69 [jP 37, jI 2, jI v2, jI 0] h50 none h57 ∧ Ly p h57 ∧ Q (some (jI 1)) h57))) ∧ (¬ x4 = 46 → jt h5 4 = 60 ∧ ∃ x41 h38, jE d 191 [jP 4, jI (ji2c x4)] h5 (some (jI x41)) h38 ∧ Ly p h38 ∧ (0 ≤ x41 → ∃ h42, jE d 69 [jP 37, jI x4, jI v2, jI 0] h38 none h42 ∧ Ly p h42 ∧ Q (some (jI 1)) h42) ∧ (¬ (0 ≤ x41) → ∃ h45, jE d 69 [jP 37, jI 2, jI v2, jI 0] h38 none h45 ∧ Ly p h45 ∧ Q (some (jI 1)) h45)))) ∧ (¬ x4 = 62 → (x4 = 46 → (x8 = 46 → ∃ h33, jE d 69 [jP 37, jI 7, jI v2, jI 0] h5 none h33 ∧ Ly p h33 ∧ Q (some (jI 2)) h33) ∧ (¬ x8 = 46 → jt h5 4 = 60 ∧ ∃ x24 h21, jE d 191 [jP 4, jI (ji2c x4)] h5 (some (jI x24)) h21 ∧ Ly p h21 ∧ (0 ≤ x24 → ∃ h25, jE d 69 [jP 37, jI x4, jI v2, jI 0] h21 none h25 ∧ Ly p h25 ∧ Q (some (jI 1)) h25) ∧ (¬ (0 ≤ x24) → ∃ h28, jE d 69 [jP 37, jI 2, jI v2, jI 0] h21 none h28 ∧ Ly p h28 ∧ Q (some (jI 1)) h28))) ∧ (¬ x4 = 46 → jt h5 4 = 60 ∧ ∃ x12 h9, jE d 191 [jP 4, jI (ji2c x4)] h5 (some (jI x12)) h9 ∧ Ly p h9 ∧ (0 ≤ x12 → ∃ h13, jE d 69 [jP 37, jI x4, jI v2, jI 0] h9 none h13 ∧ Ly p h13 ∧ Q (some (jI 1)) h13) ∧ (¬ (0 ≤ x12) → ∃ h16, jE d 69 [jP 37, jI 2, jI v2, jI 0] h9 none h16 ∧ Ly p h16 ∧ Q (some (jI 1)) h16))))) : WF d 68 0 [jP 37, jP 33, jI v2, jU, jU] [] h Q := by
  refine b_68_0 ?_
  refine ⟨(Ly.t33 L :), ?_⟩
  obtain ⟨x4, h1, e3, L2, H⟩ := H
  refine ⟨x4, h1, e3, ?_⟩
  refine ⟨(Ly.t33 L2 :), ?_⟩
  obtain ⟨x8, h5, e7, L6, H⟩ := H
  refine ⟨x8, h5, e7, ?_⟩
  refine ⟨fun c139 => ?_, fun c139 => ?_⟩
  · have H := H.2 c139
    refine ⟨fun c71 => ?_, fun c71 => ?_⟩
    · have H := H.2 c71
      refine ⟨fun c37 => ?_, fun c37 => ?_⟩
      · have H := H.2 c37
        obtain ⟨z20, H⟩ := H
        refine ⟨z20, ?_⟩
        obtain ⟨x12, h9, e11, L10, H⟩ := H
        refine ⟨x12, h9, e11, ?_⟩
        refine ⟨fun c19 => ?_, fun c19 => ?_⟩
        · have H := H.1 c19
          refine ⟨(Ly.t37 L10 :), ?_⟩
          obtain ⟨h13, e15, L14, H⟩ := H
          refine ⟨h13, e15, ?_⟩
          exact H
        · have H := H.2 c19
          refine ⟨(Ly.t37 L10 :), ?_⟩
          obtain ⟨h16, e18, L17, H⟩ := H
          refine ⟨h16, e18, ?_⟩
          exact H
      · have c37 := Decidable.not_not.mp c37
        have H := H.1 c37
        refine ⟨fun c36 => ?_, fun c36 => ?_⟩
        · have H := H.2 c36
          obtain ⟨z32, H⟩ := H
          refine ⟨z32, ?_⟩
          obtain ⟨x24, h21, e23, L22, H⟩ := H
          refine ⟨x24, h21, e23, ?_⟩
          refine ⟨fun c31 => ?_, fun c31 => ?_⟩
          · have H := H.1 c31
            refine ⟨(Ly.t37 L22 :), ?_⟩
            obtain ⟨h25, e27, L26, H⟩ := H
            refine ⟨h25, e27, ?_⟩
            exact H
          · have H := H.2 c31
            refine ⟨(Ly.t37 L22 :), ?_⟩
            obtain ⟨h28, e30, L29, H⟩ := H
            refine ⟨h28, e30, ?_⟩
            exact H
        · have c36 := Decidable.not_not.mp c36
          have H := H.1 c36
          refine ⟨(Ly.t37 L6 :), ?_⟩
          obtain ⟨h33, e35, L34, H⟩ := H
          refine ⟨h33, e35, ?_⟩
          exact H
    · have c71 := Decidable.not_not.mp c71
      have H := H.1 c71
      refine ⟨fun c70 => ?_, fun c70 => ?_⟩
      · have H := H.2 c70
        refine ⟨fun c66 => ?_, fun c66 => ?_⟩
        · have H := H.2 c66
          obtain ⟨z49, H⟩ := H
          refine ⟨z49, ?_⟩
          obtain ⟨x41, h38, e40, L39, H⟩ := H
          refine ⟨x41, h38, e40, ?_⟩
          refine ⟨fun c48 => ?_, fun c48 => ?_⟩
          · have H := H.1 c48
            refine ⟨(Ly.t37 L39 :), ?_⟩
            obtain ⟨h42, e44, L43, H⟩ := H
            refine ⟨h42, e44, ?_⟩
            exact H
          · have H := H.2 c48
            refine ⟨(Ly.t37 L39 :), ?_⟩
            obtain ⟨h45, e47, L46, H⟩ := H
            refine ⟨h45, e47, ?_⟩
            exact H
        · have c66 := Decidable.not_not.mp c66
          have H := H.1 c66
          refine ⟨fun c65 => ?_, fun c65 => ?_⟩
          · have H := H.2 c65
            obtain ⟨z61, H⟩ := H
            refine ⟨z61, ?_⟩
            obtain ⟨x53, h50, e52, L51, H⟩ := H
            refine ⟨x53, h50, e52, ?_⟩
            refine ⟨fun c60 => ?_, fun c60 => ?_⟩
            · have H := H.1 c60
              refine ⟨(Ly.t37 L51 :), ?_⟩
              obtain ⟨h54, e56, L55, H⟩ := H
              refine ⟨h54, e56, ?_⟩
              exact H
            · have H := H.2 c60
              refine ⟨(Ly.t37 L51 :), ?_⟩
              obtain ⟨h57, e59, L58, H⟩ := H
              refine ⟨h57, e59, ?_⟩
              exact H
          · have c65 := Decidable.not_not.mp c65
            have H := H.1 c65
            refine ⟨(Ly.t37 L6 :), ?_⟩
            obtain ⟨h62, e64, L63, H⟩ := H
            refine ⟨h62, e64, ?_⟩
            exact H
      · have c70 := Decidable.not_not.mp c70
        have H := H.1 c70
        refine ⟨(Ly.t37 L6 :), ?_⟩
        obtain ⟨h67, e69, L68, H⟩ := H
        refine ⟨h67, e69, ?_⟩
        exact H
  · have c139 := Decidable.not_not.mp c139
    have H := H.1 c139
    refine ⟨fun c138 => ?_, fun c138 => ?_⟩
    · have H := H.2 c138
      refine ⟨fun c134 => ?_, fun c134 => ?_⟩
      · have H := H.2 c134
        refine ⟨fun c100 => ?_, fun c100 => ?_⟩
        · have H := H.2 c100
          obtain ⟨z83, H⟩ := H
          refine ⟨z83, ?_⟩
          obtain ⟨x75, h72, e74, L73, H⟩ := H
          refine ⟨x75, h72, e74, ?_⟩
          refine ⟨fun c82 => ?_, fun c82 => ?_⟩
          · have H := H.1 c82
            refine ⟨(Ly.t37 L73 :), ?_⟩
            obtain ⟨h76, e78, L77, H⟩ := H
            refine ⟨h76, e78, ?_⟩
            exact H
          · have H := H.2 c82
            refine ⟨(Ly.t37 L73 :), ?_⟩
            obtain ⟨h79, e81, L80, H⟩ := H
            refine ⟨h79, e81, ?_⟩
            exact H
        · have c100 := Decidable.not_not.mp c100
          have H := H.1 c100
          refine ⟨fun c99 => ?_, fun c99 => ?_⟩
          · have H := H.2 c99
            obtain ⟨z95, H⟩ := H
            refine ⟨z95, ?_⟩
            obtain ⟨x87, h84, e86, L85, H⟩ := H
            refine ⟨x87, h84, e86, ?_⟩
            refine ⟨fun c94 => ?_, fun c94 => ?_⟩
            · have H := H.1 c94
              refine ⟨(Ly.t37 L85 :), ?_⟩
              obtain ⟨h88, e90, L89, H⟩ := H
              refine ⟨h88, e90, ?_⟩
              exact H
            · have H := H.2 c94
              refine ⟨(Ly.t37 L85 :), ?_⟩
              obtain ⟨h91, e93, L92, H⟩ := H
              refine ⟨h91, e93, ?_⟩
              exact H
          · have c99 := Decidable.not_not.mp c99
            have H := H.1 c99
            refine ⟨(Ly.t37 L6 :), ?_⟩
            obtain ⟨h96, e98, L97, H⟩ := H
            refine ⟨h96, e98, ?_⟩
            exact H
      · have c134 := Decidable.not_not.mp c134
        have H := H.1 c134
        refine ⟨fun c133 => ?_, fun c133 => ?_⟩
        · have H := H.2 c133
          refine ⟨fun c129 => ?_, fun c129 => ?_⟩
          · have H := H.2 c129
            obtain ⟨z112, H⟩ := H
            refine ⟨z112, ?_⟩
            obtain ⟨x104, h101, e103, L102, H⟩ := H
            refine ⟨x104, h101, e103, ?_⟩
            refine ⟨fun c111 => ?_, fun c111 => ?_⟩
            · have H := H.1 c111
              refine ⟨(Ly.t37 L102 :), ?_⟩
              obtain ⟨h105, e107, L106, H⟩ := H
              refine ⟨h105, e107, ?_⟩
              exact H
            · have H := H.2 c111
              refine ⟨(Ly.t37 L102 :), ?_⟩
              obtain ⟨h108, e110, L109, H⟩ := H
              refine ⟨h108, e110, ?_⟩
              exact H
          · have c129 := Decidable.not_not.mp c129
            have H := H.1 c129
            refine ⟨fun c128 => ?_, fun c128 => ?_⟩
            · have H := H.2 c128
              obtain ⟨z124, H⟩ := H
              refine ⟨z124, ?_⟩
              obtain ⟨x116, h113, e115, L114, H⟩ := H
              refine ⟨x116, h113, e115, ?_⟩
              refine ⟨fun c123 => ?_, fun c123 => ?_⟩
              · have H := H.1 c123
                refine ⟨(Ly.t37 L114 :), ?_⟩
                obtain ⟨h117, e119, L118, H⟩ := H
                refine ⟨h117, e119, ?_⟩
                exact H
              · have H := H.2 c123
                refine ⟨(Ly.t37 L114 :), ?_⟩
                obtain ⟨h120, e122, L121, H⟩ := H
                refine ⟨h120, e122, ?_⟩
                exact H
            · have c128 := Decidable.not_not.mp c128
              have H := H.1 c128
              refine ⟨(Ly.t37 L6 :), ?_⟩
              obtain ⟨h125, e127, L126, H⟩ := H
              refine ⟨h125, e127, ?_⟩
              exact H
        · have c133 := Decidable.not_not.mp c133
          have H := H.1 c133
          refine ⟨(Ly.t37 L6 :), ?_⟩
          obtain ⟨h130, e132, L131, H⟩ := H
          refine ⟨h130, e132, ?_⟩
          exact H
    · have c138 := Decidable.not_not.mp c138
      have H := H.1 c138
      refine ⟨(Ly.t37 L6 :), ?_⟩
      obtain ⟨h135, e137, L136, H⟩ := H
      refine ⟨h135, e137, ?_⟩
      exact H
