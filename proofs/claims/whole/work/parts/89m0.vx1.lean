set_option maxRecDepth 100000 in
theorem c_81_0 {p : Lpar} {d : Nat} {h : AH} {Q : Option AV → AH → Prop} {v1 : Int} {v2 : Int} (hd : 9 ≤ d) (L : Ly p h) (H : (v1 < 1 → Q (some (jI (-100002))) h) ∧ (¬ (v1 < 1) → (v1 ≤ 8 → ((w32 ((ji h 33 1) + v1)) ≤ 400 → WF d 81 37 [jP 32, jI v1, jL v2, jU, jI (w32 (v1 - 1))] [] h Q) ∧ (¬ ((w32 ((ji h 33 1) + v1)) ≤ 400) → Q (some (jI (-100004))) h)) ∧ (¬ (v1 ≤ 8) → Q (some (jI (-100002))) h))) : WF d 81 0 [jP 32, jI v1, jL v2, jU, jU] [] h Q := by
  refine b_81_0 ?_
  refine ⟨fun c3 => ?_, fun c3 => ?_⟩
  · have H := H.1 c3
    exact H
  · have H := H.2 c3
    refine ⟨fun c2 => ?_, fun c2 => ?_⟩
    · have H := H.1 c2
      refine ⟨(Ly.t32 L :), ?_⟩
      rw [show jr h 32 0 = 33 from (Ly.r32_0 L :)]
      refine ⟨(Ly.t33 L :), ?_⟩
      refine ⟨fun c1 => ?_, fun c1 => ?_⟩
      · have H := H.1 c1
        exact H
      · have H := H.2 c1
        exact H
    · have H := H.2 c2
      exact H
set_option maxRecDepth 100000 in
theorem c_81_37 {p : Lpar} {d : Nat} {h : AH} {Q : Option AV → AH → Prop} {v1 : Int} {v2 : Int} {v4 : Int} (hd : 9 ≤ d) (L : Ly p h) (H : (v4 < 0 → Q (some (jI (ji h 33 1))) h) ∧ (¬ (v4 < 0) → ∃ h1, jE d 2 [jP 33, jI (jand (w32 (jushL v2 (w32 (8 * v4)))) 255)] h none h1 ∧ Ly p h1 ∧ WF d 81 37 [jP 32, jI v1, jL v2, jU, jI (w32 (v4 + (-1)))] [] h1 Q)) : WF d 81 37 [jP 32, jI v1, jL v2, jU, jI v4] [] h Q := by
  refine b_81_37 ?_
  refine ⟨fun c4 => ?_, fun c4 => ?_⟩
  · have H := H.1 c4
    refine ⟨(Ly.t32 L :), ?_⟩
    rw [show jr h 32 0 = 33 from (Ly.r32_0 L :)]
    refine ⟨(Ly.t33 L :), ?_⟩
    exact H
  · have H := H.2 c4
    refine ⟨(Ly.t32 L :), ?_⟩
    rw [show jr h 32 0 = 33 from (Ly.r32_0 L :)]
    refine ⟨(Ly.t33 L :), ?_⟩
    obtain ⟨h1, e3, L2, H⟩ := H
    refine ⟨h1, e3, ?_⟩
    exact H
set_option maxRecDepth 100000 in
theorem c_82_0 {p : Lpar} {d : Nat} {h : AH} {Q : Option AV → AH → Prop} {v1 : Int} (hd : 9 ≤ d) (L : Ly p h) (H : (v1 < 0 → Q (some (jI (-100002))) h) ∧ (¬ (v1 < 0) → (v1 ≤ (ji h 33 1) → (Ly p (wi h 33 1 v1) → Q (some (jI (w32 ((ji h 33 1) - v1)))) (wi h 33 1 v1))) ∧ (¬ (v1 ≤ (ji h 33 1)) → Q (some (jI (-100002))) h))) : WF d 82 0 [jP 32, jI v1, jU] [] h Q := by
  refine b_82_0 ?_
  refine ⟨fun c2 => ?_, fun c2 => ?_⟩
  · have H := H.1 c2
    exact H
  · have H := H.2 c2
    refine ⟨(Ly.t32 L :), ?_⟩
    rw [show jr h 32 0 = 33 from (Ly.r32_0 L :)]
    refine ⟨(Ly.t33 L :), ?_⟩
    refine ⟨fun c1 => ?_, fun c1 => ?_⟩
    · have H := H.1 c1
      refine ⟨(Ly.t32 L :), ?_⟩
      refine ⟨(Ly.t33 L :), ?_⟩
      refine ⟨(Ly.t32 L :), ?_⟩
      refine ⟨(Ly.t33 L :), ?_⟩
      exact H (Ly.wi L (a := 33) (k := 1) (x := v1) (by decide))
    · have H := H.2 c1
      exact H
set_option maxRecDepth 100000 in
theorem c_83_0 {p : Lpar} {d : Nat} {h : AH} {Q : Option AV → AH → Prop}  (hd : 9 ≤ d) (L : Ly p h) (H : ∃ h1, jE d 65 [jP 37, jP 33] h none h1 ∧ Ly p h1 ∧ WF d 83 11 [jP 32, jU] [] h1 Q) : WF d 83 0 [jP 32, jU] [] h Q := by
  refine b_83_0 ?_
  refine ⟨(Ly.t32 L :), ?_⟩
  rw [show jr h 32 2 = 37 from (Ly.r32_2 L :)]
  refine ⟨(Ly.t32 L :), ?_⟩
  rw [show jr h 32 0 = 33 from (Ly.r32_0 L :)]
  refine ⟨(Ly.t37 L :), ?_⟩
  obtain ⟨h1, e3, L2, H⟩ := H
  refine ⟨h1, e3, ?_⟩
  exact H
set_option maxRecDepth 100000 in
theorem c_83_11 {p : Lpar} {d : Nat} {h : AH} {Q : Option AV → AH → Prop} {z1 : AV} (hd : 9 ≤ d) (L : Ly p h) (H : (Ly p (wi h 33 1 0) → WF d 83 19 [jP 32, z1] [] (wi h 33 1 0) Q)) : WF d 83 11 [jP 32, z1] [] h Q := by
  refine b_83_11 ?_
  refine ⟨(Ly.t32 L :), ?_⟩
  rw [show jr h 32 0 = 33 from (Ly.r32_0 L :)]
  refine ⟨(Ly.t33 L :), ?_⟩
  exact H (Ly.wi L (a := 33) (k := 1) (x := 0) (by decide))
set_option maxRecDepth 100000 in
theorem c_84_0 {p : Lpar} {d : Nat} {h : AH} {Q : Option AV → AH → Prop} {v1 : Int} {v2 : Int} {v3 : Int} (hd : 9 ≤ d) (L : Ly p h) (H : (v1 < 0 → Q (some (jI (-100001))) h) ∧ (¬ (v1 < 0) → (v1 ≤ 3 → ∃ x4 h1, jE d 27 [jP (pD p + 1), jI v1, jI v2] h (some (jI x4)) h1 ∧ Ly p h1 ∧ ∃ x8 h5, jE d 28 [jP (pD p + 1), jI x4, jI v3] h1 (some (jI x8)) h5 ∧ Ly p h5 ∧ (x8 = (-1) → Q (some (jI (-100001))) h5) ∧ (¬ x8 = (-1) → Q (some (jI x8)) h5)) ∧ (¬ (v1 ≤ 3) → Q (some (jI (-100001))) h))) : WF d 84 0 [jP 32, jI v1, jI v2, jI v3, jU] [] h Q := by
  refine b_84_0 ?_
  refine ⟨fun c11 => ?_, fun c11 => ?_⟩
  · have H := H.1 c11
    exact H
  · have H := H.2 c11
    refine ⟨fun c10 => ?_, fun c10 => ?_⟩
    · have H := H.1 c10
      refine ⟨(Ly.t32 L :), ?_⟩
      rw [show jr h 32 5 = pD p from (Ly.r32_5 L :)]
      refine ⟨(Ly.dt0 L (Ly.iD L) :), ?_⟩
      rw [show jr h (pD p) 0 = (pD p + 1) from (Ly.dr0_0 L (Ly.iD L) :)]
      refine ⟨(Ly.t32 L :), ?_⟩
      refine ⟨(Ly.dt0 L (Ly.iD L) :), ?_⟩
      refine ⟨(Ly.dt1 L (Ly.iD L) :), ?_⟩
      obtain ⟨x4, h1, e3, L2, H⟩ := H
      refine ⟨x4, h1, e3, ?_⟩
      refine ⟨(Ly.dt1 L2 (Ly.iD L2) :), ?_⟩
      obtain ⟨x8, h5, e7, L6, H⟩ := H
      refine ⟨x8, h5, e7, ?_⟩
      refine ⟨fun c9 => ?_, fun c9 => ?_⟩
      · have H := H.2 c9
        exact H
      · have c9 := Decidable.not_not.mp c9
        have H := H.1 c9
        exact H
    · have H := H.2 c10
      exact H
set_option maxRecDepth 100000 in
theorem c_85_0 {p : Lpar} {d : Nat} {h : AH} {Q : Option AV → AH → Prop} {v1 : Int} {v2 : Int} (hd : 9 ≤ d) (L : Ly p h) (H : (v1 < 0 → Q (some (jI (-100001))) h) ∧ (¬ (v1 < 0) → (v1 < (ji h (pD p + 5) 2) → (v2 = 0 → 0 ≤ v1 ∧ v1 < 6 ∧ Q (some (jI (ji h (pD p + 7) (Int.toNat v1)))) h) ∧ (¬ v2 = 0 → (v2 = 1 → 0 ≤ v1 ∧ v1 < 6 ∧ Q (some (jI (ji h (pD p + 6) (Int.toNat v1)))) h) ∧ (¬ v2 = 1 → Q (some (jI (-100001))) h))) ∧ (¬ (v1 < (ji h (pD p + 5) 2)) → Q (some (jI (-100001))) h))) : WF d 85 0 [jP 32, jI v1, jI v2] [] h Q := by
  refine b_85_0 ?_
  refine ⟨fun c8 => ?_, fun c8 => ?_⟩
  · have H := H.1 c8
    exact H
  · have H := H.2 c8
    refine ⟨(Ly.t32 L :), ?_⟩
    rw [show jr h 32 5 = pD p from (Ly.r32_5 L :)]
    refine ⟨(Ly.dt0 L (Ly.iD L) :), ?_⟩
    rw [show jr h (pD p) 1 = (pD p + 5) from (Ly.dr0_1 L (Ly.iD L) :)]
    refine ⟨(Ly.dt5 L (Ly.iD L) :), ?_⟩
    refine ⟨fun c7 => ?_, fun c7 => ?_⟩
    · have H := H.1 c7
      refine ⟨fun c6 => ?_, fun c6 => ?_⟩
      · have H := H.1 c6
        refine ⟨(Ly.t32 L :), ?_⟩
        refine ⟨(Ly.dt0 L (Ly.iD L) :), ?_⟩
        refine ⟨(Ly.dt5 L (Ly.iD L) :), ?_⟩
        rw [show jr h (pD p + 5) 1 = (pD p + 7) from (Ly.dr5_1 L (Ly.iD L) :)]
        obtain ⟨z1, z2, H⟩ := H
        refine ⟨inA_mk (N := 6) (Ly.dt7 L (Ly.iD L) :) (Ly.dn7 L (Ly.iD L) :) z1 z2, ?_⟩
        exact H
      · have H := H.2 c6
        refine ⟨fun c5 => ?_, fun c5 => ?_⟩
        · have H := H.1 c5
          refine ⟨(Ly.t32 L :), ?_⟩
          refine ⟨(Ly.dt0 L (Ly.iD L) :), ?_⟩
          refine ⟨(Ly.dt5 L (Ly.iD L) :), ?_⟩
          rw [show jr h (pD p + 5) 0 = (pD p + 6) from (Ly.dr5_0 L (Ly.iD L) :)]
          obtain ⟨z3, z4, H⟩ := H
          refine ⟨inA_mk (N := 6) (Ly.dt6 L (Ly.iD L) :) (Ly.dn6 L (Ly.iD L) :) z3 z4, ?_⟩
          exact H
        · have H := H.2 c5
          exact H
    · have H := H.2 c7
      exact H
set_option maxRecDepth 100000 in
theorem c_86_0 {p : Lpar} {d : Nat} {h : AH} {Q : Option AV → AH → Prop} {v1 : Int} {v2 : Int} {v3 : Int} (hd : 9 ≤ d) (L : Ly p h) (H : ∃ x4 h1, jE d 60 [jP (pD p + 14), jI v1, jI v2, jI v3] h (some (jI x4)) h1 ∧ Ly p h1 ∧ (x4 = (-1) → Q (some (jI (-100001))) h1) ∧ (¬ x4 = (-1) → ∃ x8 h5, jE d 9 [jP (pD p), jI x4] h1 (some (jI x8)) h5 ∧ Ly p h5 ∧ Q (some (jI x8)) h5)) : WF d 86 0 [jP 32, jI v1, jI v2, jI v3, jU] [] h Q := by
  refine b_86_0 ?_
  refine ⟨(Ly.t32 L :), ?_⟩
  rw [show jr h 32 5 = pD p from (Ly.r32_5 L :)]
  refine ⟨(Ly.dt0 L (Ly.iD L) :), ?_⟩
  rw [show jr h (pD p) 2 = (pD p + 14) from (Ly.dr0_2 L (Ly.iD L) :)]
  refine ⟨(Ly.dt14 L (Ly.iD L) :), ?_⟩
  obtain ⟨x4, h1, e3, L2, H⟩ := H
  refine ⟨x4, h1, e3, ?_⟩
  refine ⟨fun c9 => ?_, fun c9 => ?_⟩
  · have H := H.2 c9
    refine ⟨(Ly.t32 L2 :), ?_⟩
    rw [show jr h1 32 5 = pD p from (Ly.r32_5 L2 :)]
    refine ⟨(Ly.dt0 L2 (Ly.iD L2) :), ?_⟩
    obtain ⟨x8, h5, e7, L6, H⟩ := H
    refine ⟨x8, h5, e7, ?_⟩
    exact H
  · have c9 := Decidable.not_not.mp c9
    have H := H.1 c9
    exact H
set_option maxRecDepth 100000 in
theorem c_87_0 {p : Lpar} {d : Nat} {h : AH} {Q : Option AV → AH → Prop} {v1 : Int} {v2 : Int} {v3 : Int} (hd : 9 ≤ d) (L : Ly p h) (H : ∃ x4 h1, jE d 60 [jP (pD p + 18), jI v1, jI v2, jI v3] h (some (jI x4)) h1 ∧ Ly p h1 ∧ (x4 = (-1) → Q (some (jI (-100001))) h1) ∧ (¬ x4 = (-1) → Q (some (jI x4)) h1)) : WF d 87 0 [jP 32, jI v1, jI v2, jI v3, jU] [] h Q := by
  refine b_87_0 ?_
  refine ⟨(Ly.t32 L :), ?_⟩
  rw [show jr h 32 5 = pD p from (Ly.r32_5 L :)]
  refine ⟨(Ly.dt0 L (Ly.iD L) :), ?_⟩
  rw [show jr h (pD p) 3 = (pD p + 18) from (Ly.dr0_3 L (Ly.iD L) :)]
  refine ⟨(Ly.dt18 L (Ly.iD L) :), ?_⟩
  obtain ⟨x4, h1, e3, L2, H⟩ := H
  refine ⟨x4, h1, e3, ?_⟩
  refine ⟨fun c5 => ?_, fun c5 => ?_⟩
  · have H := H.2 c5
    exact H
  · have c5 := Decidable.not_not.mp c5
    have H := H.1 c5
    exact H
set_option maxRecDepth 100000 in
theorem c_88_0 {p : Lpar} {d : Nat} {h : AH} {Q : Option AV → AH → Prop} {v1 : Int} {v2 : Int} (hd : 9 ≤ d) (L : Ly p h) (H : ∃ x4 h1, jE d 61 [jP (pD p + 18), jI v1] h (some (jI x4)) h1 ∧ Ly p h1 ∧ (x4 = (-1) → Q (some (jI (-100001))) h1) ∧ (¬ x4 = (-1) → ((v2 < 0 ∨ 5 < v2) → WF d 88 116 [jP 32, jI v1, jI v2, jI x4] [] h1 Q) ∧ (v2 = 0 → WF d 88 60 [jP 32, jI v1, jI v2, jI x4] [] h1 Q) ∧ (v2 = 1 → WF d 88 62 [jP 32, jI v1, jI v2, jI x4] [] h1 Q) ∧ (v2 = 2 → WF d 88 74 [jP 32, jI v1, jI v2, jI x4] [] h1 Q) ∧ (v2 = 3 → WF d 88 86 [jP 32, jI v1, jI v2, jI x4] [] h1 Q) ∧ (v2 = 4 → WF d 88 96 [jP 32, jI v1, jI v2, jI x4] [] h1 Q) ∧ (v2 = 5 → WF d 88 106 [jP 32, jI v1, jI v2, jI x4] [] h1 Q))) : WF d 88 0 [jP 32, jI v1, jI v2, jU] [] h Q := by
  refine b_88_0 ?_
  refine ⟨(Ly.t32 L :), ?_⟩
  rw [show jr h 32 5 = pD p from (Ly.r32_5 L :)]
  refine ⟨(Ly.dt0 L (Ly.iD L) :), ?_⟩
  rw [show jr h (pD p) 3 = (pD p + 18) from (Ly.dr0_3 L (Ly.iD L) :)]
  refine ⟨(Ly.dt18 L (Ly.iD L) :), ?_⟩
  obtain ⟨x4, h1, e3, L2, H⟩ := H
  refine ⟨x4, h1, e3, ?_⟩
  refine ⟨fun c6 => ?_, fun c6 => ?_⟩
  · have H := H.2 c6
    obtain ⟨H0, H1, H2, H3, H4, H5, H6⟩ := H
    refine ⟨fun c5 => ?_, fun c5 => ?_, fun c5 => ?_, fun c5 => ?_, fun c5 => ?_, fun c5 => ?_, fun c5 => ?_, trivial⟩
    · have H := H0 c5
      exact H
    · have H := H1 c5
      exact H
    · have H := H2 c5
      exact H
    · have H := H3 c5
      exact H
    · have H := H4 c5
      exact H
    · have H := H5 c5
      exact H
    · have H := H6 c5
      exact H
  · have c6 := Decidable.not_not.mp c6
    have H := H.1 c6
    exact H
set_option maxRecDepth 100000 in
theorem c_88_60 {p : Lpar} {d : Nat} {h : AH} {Q : Option AV → AH → Prop} {v1 : Int} {v2 : Int} {v3 : Int} (hd : 9 ≤ d) (L : Ly p h) (H : Q (some (jI v3)) h) : WF d 88 60 [jP 32, jI v1, jI v2, jI v3] [] h Q := by
  refine b_88_60 ?_
  exact H
set_option maxRecDepth 100000 in
theorem c_88_62 {p : Lpar} {d : Nat} {h : AH} {Q : Option AV → AH → Prop} {v1 : Int} {v2 : Int} {v3 : Int} (hd : 9 ≤ d) (L : Ly p h) (H : ∃ x4 h1, jE d 62 [jP (pD p + 18), jI v1] h (some (jI x4)) h1 ∧ Ly p h1 ∧ Q (some (jI x4)) h1) : WF d 88 62 [jP 32, jI v1, jI v2, jI v3] [] h Q := by
  refine b_88_62 ?_
  refine ⟨(Ly.t32 L :), ?_⟩
  rw [show jr h 32 5 = pD p from (Ly.r32_5 L :)]
  refine ⟨(Ly.dt0 L (Ly.iD L) :), ?_⟩
  rw [show jr h (pD p) 3 = (pD p + 18) from (Ly.dr0_3 L (Ly.iD L) :)]
  refine ⟨(Ly.dt18 L (Ly.iD L) :), ?_⟩
  obtain ⟨x4, h1, e3, L2, H⟩ := H
  refine ⟨x4, h1, e3, ?_⟩
  exact H
set_option maxRecDepth 100000 in
theorem c_88_74 {p : Lpar} {d : Nat} {h : AH} {Q : Option AV → AH → Prop} {v1 : Int} {v2 : Int} {v3 : Int} (hd : 9 ≤ d) (L : Ly p h) (H : ∃ x4 h1, jE d 63 [jP (pD p + 18), jI v1] h (some (jI x4)) h1 ∧ Ly p h1 ∧ Q (some (jI x4)) h1) : WF d 88 74 [jP 32, jI v1, jI v2, jI v3] [] h Q := by
  refine b_88_74 ?_
  refine ⟨(Ly.t32 L :), ?_⟩
  rw [show jr h 32 5 = pD p from (Ly.r32_5 L :)]
  refine ⟨(Ly.dt0 L (Ly.iD L) :), ?_⟩
  rw [show jr h (pD p) 3 = (pD p + 18) from (Ly.dr0_3 L (Ly.iD L) :)]
  refine ⟨(Ly.dt18 L (Ly.iD L) :), ?_⟩
  obtain ⟨x4, h1, e3, L2, H⟩ := H
  refine ⟨x4, h1, e3, ?_⟩
  exact H
set_option maxRecDepth 100000 in
theorem c_88_86 {p : Lpar} {d : Nat} {h : AH} {Q : Option AV → AH → Prop} {v1 : Int} {v2 : Int} {v3 : Int} (hd : 9 ≤ d) (L : Ly p h) (H : 0 ≤ v3 ∧ v3 < 6 ∧ Q (some (jI (ji h (pD p + 9) (Int.toNat v3)))) h) : WF d 88 86 [jP 32, jI v1, jI v2, jI v3] [] h Q := by
  refine b_88_86 ?_
  refine ⟨(Ly.t32 L :), ?_⟩
  rw [show jr h 32 5 = pD p from (Ly.r32_5 L :)]
  refine ⟨(Ly.dt0 L (Ly.iD L) :), ?_⟩
  rw [show jr h (pD p) 7 = (pD p + 9) from (Ly.dr0_7 L (Ly.iD L) :)]
  obtain ⟨z1, z2, H⟩ := H
  refine ⟨inA_mk (N := 6) (Ly.dt9 L (Ly.iD L) :) (Ly.dn9 L (Ly.iD L) :) z1 z2, ?_⟩
  exact H
set_option maxRecDepth 100000 in
theorem c_88_96 {p : Lpar} {d : Nat} {h : AH} {Q : Option AV → AH → Prop} {v1 : Int} {v2 : Int} {v3 : Int} (hd : 9 ≤ d) (L : Ly p h) (H : 0 ≤ v3 ∧ v3 < 6 ∧ Q (some (jI (ji h (pD p + 10) (Int.toNat v3)))) h) : WF d 88 96 [jP 32, jI v1, jI v2, jI v3] [] h Q := by
  refine b_88_96 ?_
  refine ⟨(Ly.t32 L :), ?_⟩
  rw [show jr h 32 5 = pD p from (Ly.r32_5 L :)]
  refine ⟨(Ly.dt0 L (Ly.iD L) :), ?_⟩
  rw [show jr h (pD p) 8 = (pD p + 10) from (Ly.dr0_8 L (Ly.iD L) :)]
  obtain ⟨z1, z2, H⟩ := H
  refine ⟨inA_mk (N := 6) (Ly.dt10 L (Ly.iD L) :) (Ly.dn10 L (Ly.iD L) :) z1 z2, ?_⟩
  exact H
set_option maxRecDepth 100000 in
theorem c_88_106 {p : Lpar} {d : Nat} {h : AH} {Q : Option AV → AH → Prop} {v1 : Int} {v2 : Int} {v3 : Int} (hd : 9 ≤ d) (L : Ly p h) (H : 0 ≤ v1 ∧ v1 < 40 ∧ Q (some (jI (ji h 139 (Int.toNat v1)))) h) : WF d 88 106 [jP 32, jI v1, jI v2, jI v3] [] h Q := by
  refine b_88_106 ?_
  refine ⟨(Ly.t32 L :), ?_⟩
  rw [show jr h 32 4 = 95 from (Ly.r32_4 L :)]
  refine ⟨(Ly.t95 L :), ?_⟩
  rw [show jr h 95 5 = 139 from (Ly.r95_5 L :)]
  obtain ⟨z1, z2, H⟩ := H
  refine ⟨inA_mk (N := 40) (Ly.t139 L :) (Ly.n139 L :) z1 z2, ?_⟩
  exact H
set_option maxRecDepth 100000 in
theorem c_88_116 {p : Lpar} {d : Nat} {h : AH} {Q : Option AV → AH → Prop} {v1 : Int} {v2 : Int} {v3 : Int} (hd : 9 ≤ d) (L : Ly p h) (H : Q (some (jI (-100001))) h) : WF d 88 116 [jP 32, jI v1, jI v2, jI v3] [] h Q := by
  refine b_88_116 ?_
  exact H
set_option maxRecDepth 100000 in
theorem c_89_0 {p : Lpar} {d : Nat} {h : AH} {Q : Option AV → AH → Prop} {v1 : Int} {v2 : Int} (hd : 9 ≤ d) (L : Ly p h) (H : ∃ x4 h1, jE d 61 [jP (pD p + 22), jI v1] h (some (jI x4)) h1 ∧ Ly p h1 ∧ (x4 = (-1) → Q (some (jI (-100001))) h1) ∧ (¬ x4 = (-1) → ((v2 < 0 ∨ 3 < v2) → WF d 89 88 [jP 32, jI v1, jI v2, jI x4] [] h1 Q) ∧ (v2 = 0 → WF d 89 52 [jP 32, jI v1, jI v2, jI x4] [] h1 Q) ∧ (v2 = 1 → WF d 89 54 [jP 32, jI v1, jI v2, jI x4] [] h1 Q) ∧ (v2 = 2 → WF d 89 66 [jP 32, jI v1, jI v2, jI x4] [] h1 Q) ∧ (v2 = 3 → WF d 89 78 [jP 32, jI v1, jI v2, jI x4] [] h1 Q))) : WF d 89 0 [jP 32, jI v1, jI v2, jU] [] h Q := by
  refine b_89_0 ?_
  refine ⟨(Ly.t32 L :), ?_⟩
  rw [show jr h 32 5 = pD p from (Ly.r32_5 L :)]
  refine ⟨(Ly.dt0 L (Ly.iD L) :), ?_⟩
  rw [show jr h (pD p) 4 = (pD p + 22) from (Ly.dr0_4 L (Ly.iD L) :)]
  refine ⟨(Ly.dt22 L (Ly.iD L) :), ?_⟩
  obtain ⟨x4, h1, e3, L2, H⟩ := H
  refine ⟨x4, h1, e3, ?_⟩
  refine ⟨fun c6 => ?_, fun c6 => ?_⟩
  · have H := H.2 c6
    obtain ⟨H0, H1, H2, H3, H4⟩ := H
    refine ⟨fun c5 => ?_, fun c5 => ?_, fun c5 => ?_, fun c5 => ?_, fun c5 => ?_, trivial⟩
    · have H := H0 c5
      exact H
    · have H := H1 c5
      exact H
    · have H := H2 c5
      exact H
    · have H := H3 c5
      exact H
    · have H := H4 c5
      exact H
  · have c6 := Decidable.not_not.mp c6
    have H := H.1 c6
    exact H
set_option maxRecDepth 100000 in
theorem c_89_52 {p : Lpar} {d : Nat} {h : AH} {Q : Option AV → AH → Prop} {v1 : Int} {v2 : Int} {v3 : Int} (hd : 9 ≤ d) (L : Ly p h) (H : Q (some (jI v3)) h) : WF d 89 52 [jP 32, jI v1, jI v2, jI v3] [] h Q := by
  refine b_89_52 ?_
  exact H
set_option maxRecDepth 100000 in
theorem c_89_54 {p : Lpar} {d : Nat} {h : AH} {Q : Option AV → AH → Prop} {v1 : Int} {v2 : Int} {v3 : Int} (hd : 9 ≤ d) (L : Ly p h) (H : ∃ x4 h1, jE d 62 [jP (pD p + 22), jI v1] h (some (jI x4)) h1 ∧ Ly p h1 ∧ Q (some (jI x4)) h1) : WF d 89 54 [jP 32, jI v1, jI v2, jI v3] [] h Q := by
  refine b_89_54 ?_
  refine ⟨(Ly.t32 L :), ?_⟩
  rw [show jr h 32 5 = pD p from (Ly.r32_5 L :)]
  refine ⟨(Ly.dt0 L (Ly.iD L) :), ?_⟩
  rw [show jr h (pD p) 4 = (pD p + 22) from (Ly.dr0_4 L (Ly.iD L) :)]
  refine ⟨(Ly.dt22 L (Ly.iD L) :), ?_⟩
  obtain ⟨x4, h1, e3, L2, H⟩ := H
  refine ⟨x4, h1, e3, ?_⟩
  exact H
set_option maxRecDepth 100000 in
theorem c_89_66 {p : Lpar} {d : Nat} {h : AH} {Q : Option AV → AH → Prop} {v1 : Int} {v2 : Int} {v3 : Int} (hd : 9 ≤ d) (L : Ly p h) (H : ∃ x4 h1, jE d 63 [jP (pD p + 22), jI v1] h (some (jI x4)) h1 ∧ Ly p h1 ∧ Q (some (jI x4)) h1) : WF d 89 66 [jP 32, jI v1, jI v2, jI v3] [] h Q := by
  refine b_89_66 ?_
  refine ⟨(Ly.t32 L :), ?_⟩
  rw [show jr h 32 5 = pD p from (Ly.r32_5 L :)]
  refine ⟨(Ly.dt0 L (Ly.iD L) :), ?_⟩
  rw [show jr h (pD p) 4 = (pD p + 22) from (Ly.dr0_4 L (Ly.iD L) :)]
  refine ⟨(Ly.dt22 L (Ly.iD L) :), ?_⟩
  obtain ⟨x4, h1, e3, L2, H⟩ := H
  refine ⟨x4, h1, e3, ?_⟩
  exact H
set_option maxRecDepth 100000 in
theorem c_89_78 {p : Lpar} {d : Nat} {h : AH} {Q : Option AV → AH → Prop} {v1 : Int} {v2 : Int} {v3 : Int} (hd : 9 ≤ d) (L : Ly p h) (H : 0 ≤ v3 ∧ v3 < 10 ∧ Q (some (jI (ji h (pD p + 11) (Int.toNat v3)))) h) : WF d 89 78 [jP 32, jI v1, jI v2, jI v3] [] h Q := by
  refine b_89_78 ?_
  refine ⟨(Ly.t32 L :), ?_⟩
  rw [show jr h 32 5 = pD p from (Ly.r32_5 L :)]
  refine ⟨(Ly.dt0 L (Ly.iD L) :), ?_⟩
  rw [show jr h (pD p) 9 = (pD p + 11) from (Ly.dr0_9 L (Ly.iD L) :)]
  obtain ⟨z1, z2, H⟩ := H
  refine ⟨inA_mk (N := 10) (Ly.dt11 L (Ly.iD L) :) (Ly.dn11 L (Ly.iD L) :) z1 z2, ?_⟩
  exact H
set_option maxRecDepth 100000 in
theorem c_89_88 {p : Lpar} {d : Nat} {h : AH} {Q : Option AV → AH → Prop} {v1 : Int} {v2 : Int} {v3 : Int} (hd : 9 ≤ d) (L : Ly p h) (H : Q (some (jI (-100001))) h) : WF d 89 88 [jP 32, jI v1, jI v2, jI v3] [] h Q := by
  refine b_89_88 ?_
  exact H
set_option maxRecDepth 100000 in
theorem c_90_0 {p : Lpar} {d : Nat} {h : AH} {Q : Option AV → AH → Prop} {v1 : Int} {v2 : Int} (hd : 9 ≤ d) (L : Ly p h) (H : ∃ x4 h1, jE d 102 [jP 32, jI v1] h (some (jI x4)) h1 ∧ Ly p h1 ∧ (x4 = (0 : Int) → Q (some (jL (-100001))) h1) ∧ (¬ (x4 = (0 : Int)) → ∃ x8 h5, jE d 101 [jP 32, jI v2] h1 (some (jI x8)) h5 ∧ Ly p h5 ∧ (x8 = (0 : Int) → Q (some (jL (-100001))) h5) ∧ (¬ (x8 = (0 : Int)) → 0 ≤ v1 ∧ v1 < 40 ∧ 0 ≤ v2 ∧ v2 < 40 ∧ Q (some (jL (jl h5 (97 + Int.toNat v1) (Int.toNat v2)))) h5))) : WF d 90 0 [jP 32, jI v1, jI v2] [] h Q := by
  refine b_90_0 ?_
  refine ⟨(Ly.t32 L :), ?_⟩
  obtain ⟨x4, h1, e3, L2, H⟩ := H
  refine ⟨x4, h1, e3, ?_⟩
  refine ⟨fun c14 => ?_, fun c14 => ?_⟩
  · have H := H.1 c14
    exact H
  · have H := H.2 c14
    refine ⟨(Ly.t32 L2 :), ?_⟩
    obtain ⟨x8, h5, e7, L6, H⟩ := H
    refine ⟨x8, h5, e7, ?_⟩
    refine ⟨fun c13 => ?_, fun c13 => ?_⟩
    · have H := H.1 c13
      exact H
    · have H := H.2 c13
      refine ⟨(Ly.t32 L6 :), ?_⟩
      rw [show jr h5 32 4 = 95 from (Ly.r32_4 L6 :)]
      refine ⟨(Ly.t95 L6 :), ?_⟩
      rw [show jr h5 95 1 = 96 from (Ly.r95_1 L6 :)]
      obtain ⟨z9, z10, H⟩ := H
      refine ⟨Or.inr (inA_mk (N := 40) (Ly.t96 L6 :) (Ly.n96 L6 :) z9 z10), ?_⟩
      rw [show jr h5 96 (Int.toNat v1) = (97 + Int.toNat v1) from (Ly.row L6 (k := Int.toNat v1) (by omega) :)]
      obtain ⟨z11, z12, H⟩ := H
      refine ⟨inA_mk (N := 40) (Ly.trow L6 (k := Int.toNat v1) (by omega) :) (Ly.nrow L6 (k := Int.toNat v1) (by omega) :) z11 z12, ?_⟩
      exact H
set_option maxRecDepth 100000 in
theorem c_91_0 {p : Lpar} {d : Nat} {h : AH} {Q : Option AV → AH → Prop} {v1 : Int} (hd : 9 ≤ d) (L : Ly p h) (H : ∃ x4 h1, jE d 102 [jP 32, jI v1] h (some (jI x4)) h1 ∧ Ly p h1 ∧ (x4 = (0 : Int) → Q (some (jL (-100001))) h1) ∧ (¬ (x4 = (0 : Int)) → 0 ≤ v1 ∧ v1 < 40 ∧ Q (some (jL (jl h1 137 (Int.toNat v1)))) h1)) : WF d 91 0 [jP 32, jI v1] [] h Q := by
  refine b_91_0 ?_
  refine ⟨(Ly.t32 L :), ?_⟩
  obtain ⟨x4, h1, e3, L2, H⟩ := H
  refine ⟨x4, h1, e3, ?_⟩
  refine ⟨fun c7 => ?_, fun c7 => ?_⟩
  · have H := H.1 c7
    exact H
  · have H := H.2 c7
    refine ⟨(Ly.t32 L2 :), ?_⟩
    rw [show jr h1 32 4 = 95 from (Ly.r32_4 L2 :)]
    refine ⟨(Ly.t95 L2 :), ?_⟩
    rw [show jr h1 95 2 = 137 from (Ly.r95_2 L2 :)]
    obtain ⟨z5, z6, H⟩ := H
    refine ⟨inA_mk (N := 40) (Ly.t137 L2 :) (Ly.n137 L2 :) z5 z6, ?_⟩
    exact H
set_option maxRecDepth 100000 in
theorem c_92_0 {p : Lpar} {d : Nat} {h : AH} {Q : Option AV → AH → Prop} {v1 : Int} (hd : 9 ≤ d) (L : Ly p h) (H : (v1 = (-1) → ((ji h (pD p) 12) = (0 : Int) → Q (some (jL (-100003))) h) ∧ (¬ (ji h (pD p) 12) = (0 : Int) → (v1 = (-1) → Q (some (jL (jl h 95 4))) h) ∧ (¬ v1 = (-1) → 0 ≤ v1 ∧ v1 < 40 ∧ Q (some (jL (jl h 138 (Int.toNat v1)))) h))) ∧ (¬ (v1 = (-1)) → ∃ x8 h5, jE d 101 [jP 32, jI v1] h (some (jI x8)) h5 ∧ Ly p h5 ∧ (x8 = (0 : Int) → Q (some (jL (-100001))) h5) ∧ (¬ x8 = (0 : Int) → ((ji h5 (pD p) 12) = (0 : Int) → Q (some (jL (-100003))) h5) ∧ (¬ (ji h5 (pD p) 12) = (0 : Int) → (v1 = (-1) → Q (some (jL (jl h5 95 4))) h5) ∧ (¬ v1 = (-1) → 0 ≤ v1 ∧ v1 < 40 ∧ Q (some (jL (jl h5 138 (Int.toNat v1)))) h5))))) : WF d 92 0 [jP 32, jI v1] [] h Q := by
  refine b_92_0 ?_
  refine ⟨fun c14 => ?_, fun c14 => ?_⟩
  · have H := H.1 c14
    refine ⟨(Ly.t32 L :), ?_⟩
    rw [show jr h 32 5 = pD p from (Ly.r32_5 L :)]
    refine ⟨(Ly.dt0 L (Ly.iD L) :), ?_⟩
    refine ⟨fun c4 => ?_, fun c4 => ?_⟩
    · have H := H.2 c4
      refine ⟨fun c3 => ?_, fun c3 => ?_⟩
      · have H := H.2 c3
        refine ⟨(Ly.t32 L :), ?_⟩
        rw [show jr h 32 4 = 95 from (Ly.r32_4 L :)]
        refine ⟨(Ly.t95 L :), ?_⟩
        rw [show jr h 95 3 = 138 from (Ly.r95_3 L :)]
        obtain ⟨z1, z2, H⟩ := H
        refine ⟨inA_mk (N := 40) (Ly.t138 L :) (Ly.n138 L :) z1 z2, ?_⟩
        exact H
      · have c3 := Decidable.not_not.mp c3
        have H := H.1 c3
        refine ⟨(Ly.t32 L :), ?_⟩
        rw [show jr h 32 4 = 95 from (Ly.r32_4 L :)]
        refine ⟨(Ly.t95 L :), ?_⟩
        exact H
    · have c4 := Decidable.not_not.mp c4
      have H := H.1 c4
      exact H
  · have H := H.2 c14
    refine ⟨(Ly.t32 L :), ?_⟩
    obtain ⟨x8, h5, e7, L6, H⟩ := H
    refine ⟨x8, h5, e7, ?_⟩
    refine ⟨fun c13 => ?_, fun c13 => ?_⟩
    · have H := H.2 c13
      refine ⟨(Ly.t32 L6 :), ?_⟩
      rw [show jr h5 32 5 = pD p from (Ly.r32_5 L6 :)]
      refine ⟨(Ly.dt0 L6 (Ly.iD L6) :), ?_⟩
      refine ⟨fun c12 => ?_, fun c12 => ?_⟩
      · have H := H.2 c12
        refine ⟨fun c11 => ?_, fun c11 => ?_⟩
        · have H := H.2 c11
          refine ⟨(Ly.t32 L6 :), ?_⟩
          rw [show jr h5 32 4 = 95 from (Ly.r32_4 L6 :)]
          refine ⟨(Ly.t95 L6 :), ?_⟩
          rw [show jr h5 95 3 = 138 from (Ly.r95_3 L6 :)]
          obtain ⟨z9, z10, H⟩ := H
          refine ⟨inA_mk (N := 40) (Ly.t138 L6 :) (Ly.n138 L6 :) z9 z10, ?_⟩
          exact H
        · have c11 := Decidable.not_not.mp c11
          have H := H.1 c11
          refine ⟨(Ly.t32 L6 :), ?_⟩
          rw [show jr h5 32 4 = 95 from (Ly.r32_4 L6 :)]
          refine ⟨(Ly.t95 L6 :), ?_⟩
          exact H
      · have c12 := Decidable.not_not.mp c12
        have H := H.1 c12
        exact H
    · have c13 := Decidable.not_not.mp c13
      have H := H.1 c13
      exact H
set_option maxRecDepth 100000 in
theorem c_93_0 {p : Lpar} {d : Nat} {h : AH} {Q : Option AV → AH → Prop} {v1 : Int} (hd : 9 ≤ d) (L : Ly p h) (H : ((v1 < 0 ∨ 9 < v1) → WF d 93 155 [jP 32, jI v1] [] h Q) ∧ (v1 = 0 → WF d 93 56 [jP 32, jI v1] [] h Q) ∧ (v1 = 1 → WF d 93 67 [jP 32, jI v1] [] h Q) ∧ (v1 = 2 → WF d 93 78 [jP 32, jI v1] [] h Q) ∧ (v1 = 3 → WF d 93 89 [jP 32, jI v1] [] h Q) ∧ (v1 = 4 → WF d 93 100 [jP 32, jI v1] [] h Q) ∧ (v1 = 5 → WF d 93 111 [jP 32, jI v1] [] h Q) ∧ (v1 = 6 → WF d 93 122 [jP 32, jI v1] [] h Q) ∧ (v1 = 7 → WF d 93 131 [jP 32, jI v1] [] h Q) ∧ (v1 = 8 → WF d 93 139 [jP 32, jI v1] [] h Q) ∧ (v1 = 9 → WF d 93 147 [jP 32, jI v1] [] h Q)) : WF d 93 0 [jP 32, jI v1] [] h Q := by
  refine b_93_0 ?_
  obtain ⟨H0, H1, H2, H3, H4, H5, H6, H7, H8, H9, H10⟩ := H
  refine ⟨fun c1 => ?_, fun c1 => ?_, fun c1 => ?_, fun c1 => ?_, fun c1 => ?_, fun c1 => ?_, fun c1 => ?_, fun c1 => ?_, fun c1 => ?_, fun c1 => ?_, fun c1 => ?_, trivial⟩
  · have H := H0 c1
    exact H
  · have H := H1 c1
    exact H
  · have H := H2 c1
    exact H
  · have H := H3 c1
    exact H
  · have H := H4 c1
    exact H
  · have H := H5 c1
    exact H
  · have H := H6 c1
    exact H
  · have H := H7 c1
    exact H
  · have H := H8 c1
    exact H
  · have H := H9 c1
    exact H
  · have H := H10 c1
    exact H
set_option maxRecDepth 100000 in
theorem c_93_56 {p : Lpar} {d : Nat} {h : AH} {Q : Option AV → AH → Prop} {v1 : Int} (hd : 9 ≤ d) (L : Ly p h) (H : Q (some (jI (ji h (pD p + 5) 2))) h) : WF d 93 56 [jP 32, jI v1] [] h Q := by
  refine b_93_56 ?_
  refine ⟨(Ly.t32 L :), ?_⟩
  rw [show jr h 32 5 = pD p from (Ly.r32_5 L :)]
  refine ⟨(Ly.dt0 L (Ly.iD L) :), ?_⟩
  rw [show jr h (pD p) 1 = (pD p + 5) from (Ly.dr0_1 L (Ly.iD L) :)]
  refine ⟨(Ly.dt5 L (Ly.iD L) :), ?_⟩
  exact H
set_option maxRecDepth 100000 in
theorem c_93_67 {p : Lpar} {d : Nat} {h : AH} {Q : Option AV → AH → Prop} {v1 : Int} (hd : 9 ≤ d) (L : Ly p h) (H : Q (some (jI (ji h (pD p + 14) 4))) h) : WF d 93 67 [jP 32, jI v1] [] h Q := by
  refine b_93_67 ?_
  refine ⟨(Ly.t32 L :), ?_⟩
  rw [show jr h 32 5 = pD p from (Ly.r32_5 L :)]
  refine ⟨(Ly.dt0 L (Ly.iD L) :), ?_⟩
  rw [show jr h (pD p) 2 = (pD p + 14) from (Ly.dr0_2 L (Ly.iD L) :)]
  refine ⟨(Ly.dt14 L (Ly.iD L) :), ?_⟩
  exact H
set_option maxRecDepth 100000 in
theorem c_93_78 {p : Lpar} {d : Nat} {h : AH} {Q : Option AV → AH → Prop} {v1 : Int} (hd : 9 ≤ d) (L : Ly p h) (H : Q (some (jI (ji h (pD p + 18) 4))) h) : WF d 93 78 [jP 32, jI v1] [] h Q := by
  refine b_93_78 ?_
  refine ⟨(Ly.t32 L :), ?_⟩
  rw [show jr h 32 5 = pD p from (Ly.r32_5 L :)]
  refine ⟨(Ly.dt0 L (Ly.iD L) :), ?_⟩
  rw [show jr h (pD p) 3 = (pD p + 18) from (Ly.dr0_3 L (Ly.iD L) :)]
  refine ⟨(Ly.dt18 L (Ly.iD L) :), ?_⟩
  exact H
set_option maxRecDepth 100000 in
theorem c_93_89 {p : Lpar} {d : Nat} {h : AH} {Q : Option AV → AH → Prop} {v1 : Int} (hd : 9 ≤ d) (L : Ly p h) (H : Q (some (jI (ji h (pD p + 22) 4))) h) : WF d 93 89 [jP 32, jI v1] [] h Q := by
  refine b_93_89 ?_
  refine ⟨(Ly.t32 L :), ?_⟩
  rw [show jr h 32 5 = pD p from (Ly.r32_5 L :)]
  refine ⟨(Ly.dt0 L (Ly.iD L) :), ?_⟩
  rw [show jr h (pD p) 4 = (pD p + 22) from (Ly.dr0_4 L (Ly.iD L) :)]
  refine ⟨(Ly.dt22 L (Ly.iD L) :), ?_⟩
  exact H
set_option maxRecDepth 100000 in
theorem c_93_100 {p : Lpar} {d : Nat} {h : AH} {Q : Option AV → AH → Prop} {v1 : Int} (hd : 9 ≤ d) (L : Ly p h) (H : Q (some (jI (ji h (pD p + 18) 5))) h) : WF d 93 100 [jP 32, jI v1] [] h Q := by
  refine b_93_100 ?_
  refine ⟨(Ly.t32 L :), ?_⟩
  rw [show jr h 32 5 = pD p from (Ly.r32_5 L :)]
  refine ⟨(Ly.dt0 L (Ly.iD L) :), ?_⟩
  rw [show jr h (pD p) 3 = (pD p + 18) from (Ly.dr0_3 L (Ly.iD L) :)]
  refine ⟨(Ly.dt18 L (Ly.iD L) :), ?_⟩
  exact H
set_option maxRecDepth 100000 in
theorem c_93_111 {p : Lpar} {d : Nat} {h : AH} {Q : Option AV → AH → Prop} {v1 : Int} (hd : 9 ≤ d) (L : Ly p h) (H : Q (some (jI (ji h (pD p + 22) 5))) h) : WF d 93 111 [jP 32, jI v1] [] h Q := by
  refine b_93_111 ?_
  refine ⟨(Ly.t32 L :), ?_⟩
  rw [show jr h 32 5 = pD p from (Ly.r32_5 L :)]
  refine ⟨(Ly.dt0 L (Ly.iD L) :), ?_⟩
  rw [show jr h (pD p) 4 = (pD p + 22) from (Ly.dr0_4 L (Ly.iD L) :)]
  refine ⟨(Ly.dt22 L (Ly.iD L) :), ?_⟩
  exact H
set_option maxRecDepth 100000 in
theorem c_93_122 {p : Lpar} {d : Nat} {h : AH} {Q : Option AV → AH → Prop} {v1 : Int} (hd : 9 ≤ d) (L : Ly p h) (H : Q (some (jI (w32 (jl h (pD p) 14)))) h) : WF d 93 122 [jP 32, jI v1] [] h Q := by
  refine b_93_122 ?_
  refine ⟨(Ly.t32 L :), ?_⟩
  rw [show jr h 32 5 = pD p from (Ly.r32_5 L :)]
  refine ⟨(Ly.dt0 L (Ly.iD L) :), ?_⟩
  exact H
set_option maxRecDepth 100000 in
theorem c_93_131 {p : Lpar} {d : Nat} {h : AH} {Q : Option AV → AH → Prop} {v1 : Int} (hd : 9 ≤ d) (L : Ly p h) (H : Q (some (jI (ji h (pD p) 12))) h) : WF d 93 131 [jP 32, jI v1] [] h Q := by
  refine b_93_131 ?_
  refine ⟨(Ly.t32 L :), ?_⟩
  rw [show jr h 32 5 = pD p from (Ly.r32_5 L :)]
  refine ⟨(Ly.dt0 L (Ly.iD L) :), ?_⟩
  exact H
set_option maxRecDepth 100000 in
theorem c_93_139 {p : Lpar} {d : Nat} {h : AH} {Q : Option AV → AH → Prop} {v1 : Int} (hd : 9 ≤ d) (L : Ly p h) (H : Q (some (jI (ji h 33 1))) h) : WF d 93 139 [jP 32, jI v1] [] h Q := by
  refine b_93_139 ?_
  refine ⟨(Ly.t32 L :), ?_⟩
  rw [show jr h 32 0 = 33 from (Ly.r32_0 L :)]
  refine ⟨(Ly.t33 L :), ?_⟩
  exact H
set_option maxRecDepth 100000 in
theorem c_93_147 {p : Lpar} {d : Nat} {h : AH} {Q : Option AV → AH → Prop} {v1 : Int} (hd : 9 ≤ d) (L : Ly p h) (H : Q (some (jI (ji h 35 1))) h) : WF d 93 147 [jP 32, jI v1] [] h Q := by
  refine b_93_147 ?_
  refine ⟨(Ly.t32 L :), ?_⟩
  rw [show jr h 32 1 = 35 from (Ly.r32_1 L :)]
  refine ⟨(Ly.t35 L :), ?_⟩
  exact H
set_option maxRecDepth 100000 in
theorem c_93_155 {p : Lpar} {d : Nat} {h : AH} {Q : Option AV → AH → Prop} {v1 : Int} (hd : 9 ≤ d) (L : Ly p h) (H : Q (some (jI (-100001))) h) : WF d 93 155 [jP 32, jI v1] [] h Q := by
  refine b_93_155 ?_
  exact H
set_option maxRecDepth 100000 in
theorem c_94_0 {p : Lpar} {d : Nat} {h : AH} {Q : Option AV → AH → Prop} {v1 : Int} {v2 : Int} (hd : 9 ≤ d) (L : Ly p h) (H : ∃ x4 h1, jE d 61 [jP (pD p + 18), jI v1] h (some (jI x4)) h1 ∧ Ly p h1 ∧ (x4 = (-1) → Q (some (jI (-100001))) h1) ∧ (¬ x4 = (-1) → 0 ≤ x4 ∧ x4 < 6 ∧ (v2 < (ji h1 (pD p + 9) (Int.toNat x4)) → Q (some (jI (-100002))) h1) ∧ (¬ (v2 < (ji h1 (pD p + 9) (Int.toNat x4))) → 0 ≤ x4 ∧ x4 < 6 ∧ (v2 ≤ (ji h1 (pD p + 10) (Int.toNat x4)) → 0 ≤ v1 ∧ v1 < 40 ∧ 0 ≤ v1 ∧ v1 < 40 ∧ (Ly p (wi h1 139 (Int.toNat v1) v2) → Q (some (jI (ji h1 139 (Int.toNat v1)))) (wi h1 139 (Int.toNat v1) v2))) ∧ (¬ (v2 ≤ (ji h1 (pD p + 10) (Int.toNat x4))) → Q (some (jI (-100002))) h1)))) : WF d 94 0 [jP 32, jI v1, jI v2, jU, jU] [] h Q := by
  refine b_94_0 ?_
  refine ⟨(Ly.t32 L :), ?_⟩
  rw [show jr h 32 5 = pD p from (Ly.r32_5 L :)]
  refine ⟨(Ly.dt0 L (Ly.iD L) :), ?_⟩
  rw [show jr h (pD p) 3 = (pD p + 18) from (Ly.dr0_3 L (Ly.iD L) :)]
  refine ⟨(Ly.dt18 L (Ly.iD L) :), ?_⟩
  obtain ⟨x4, h1, e3, L2, H⟩ := H
  refine ⟨x4, h1, e3, ?_⟩
  refine ⟨fun c15 => ?_, fun c15 => ?_⟩
  · have H := H.2 c15
    refine ⟨(Ly.t32 L2 :), ?_⟩
    rw [show jr h1 32 5 = pD p from (Ly.r32_5 L2 :)]
    refine ⟨(Ly.dt0 L2 (Ly.iD L2) :), ?_⟩
    rw [show jr h1 (pD p) 7 = (pD p + 9) from (Ly.dr0_7 L2 (Ly.iD L2) :)]
    obtain ⟨z5, z6, H⟩ := H
    refine ⟨inA_mk (N := 6) (Ly.dt9 L2 (Ly.iD L2) :) (Ly.dn9 L2 (Ly.iD L2) :) z5 z6, ?_⟩
    refine ⟨fun c14 => ?_, fun c14 => ?_⟩
    · have H := H.1 c14
      exact H
    · have H := H.2 c14
      refine ⟨(Ly.t32 L2 :), ?_⟩
      refine ⟨(Ly.dt0 L2 (Ly.iD L2) :), ?_⟩
      rw [show jr h1 (pD p) 8 = (pD p + 10) from (Ly.dr0_8 L2 (Ly.iD L2) :)]
      obtain ⟨z7, z8, H⟩ := H
      refine ⟨inA_mk (N := 6) (Ly.dt10 L2 (Ly.iD L2) :) (Ly.dn10 L2 (Ly.iD L2) :) z7 z8, ?_⟩
      refine ⟨fun c13 => ?_, fun c13 => ?_⟩
      · have H := H.1 c13
        refine ⟨(Ly.t32 L2 :), ?_⟩
        rw [show jr h1 32 4 = 95 from (Ly.r32_4 L2 :)]
        refine ⟨(Ly.t95 L2 :), ?_⟩
        rw [show jr h1 95 5 = 139 from (Ly.r95_5 L2 :)]
        obtain ⟨z9, z10, H⟩ := H
        refine ⟨inA_mk (N := 40) (Ly.t139 L2 :) (Ly.n139 L2 :) z9 z10, ?_⟩
        refine ⟨(Ly.t32 L2 :), ?_⟩
        refine ⟨(Ly.t95 L2 :), ?_⟩
        obtain ⟨z11, z12, H⟩ := H
        refine ⟨inW_mk (N := 40) (Ly.t139 L2 :) (Ly.n139 L2 :) z11 z12, ?_⟩
        exact H (Ly.wi L2 (a := 139) (k := Int.toNat v1) (x := v2) (by decide))
      · have H := H.2 c13
        exact H
  · have c15 := Decidable.not_not.mp c15
    have H := H.1 c15
    exact H
set_option maxRecDepth 100000 in
theorem c_95_0 {p : Lpar} {d : Nat} {h : AH} {Q : Option AV → AH → Prop} {v1 : Int} (hd : 9 ≤ d) (L : Ly p h) (H : ∃ x4 h1, jE d 102 [jP 32, jI v1] h (some (jI x4)) h1 ∧ Ly p h1 ∧ (x4 = (0 : Int) → Q (some (jL (-100001))) h1) ∧ (¬ (x4 = (0 : Int)) → 0 ≤ v1 ∧ v1 < 40 ∧ ∃ l10 h7, jE d 22 [jP 95, jP (97 + Int.toNat v1)] h1 (some (jL l10)) h7 ∧ Ly p h7 ∧ Q (some (jL l10)) h7)) : WF d 95 0 [jP 32, jI v1] [] h Q := by
  refine b_95_0 ?_
  refine ⟨(Ly.t32 L :), ?_⟩
  obtain ⟨x4, h1, e3, L2, H⟩ := H
  refine ⟨x4, h1, e3, ?_⟩
  refine ⟨fun c11 => ?_, fun c11 => ?_⟩
  · have H := H.1 c11
    exact H
  · have H := H.2 c11
    refine ⟨(Ly.t32 L2 :), ?_⟩
    rw [show jr h1 32 4 = 95 from (Ly.r32_4 L2 :)]
    refine ⟨(Ly.t32 L2 :), ?_⟩
    refine ⟨(Ly.t95 L2 :), ?_⟩
    rw [show jr h1 95 1 = 96 from (Ly.r95_1 L2 :)]
    obtain ⟨z5, z6, H⟩ := H
    refine ⟨Or.inr (inA_mk (N := 40) (Ly.t96 L2 :) (Ly.n96 L2 :) z5 z6), ?_⟩
    rw [show jr h1 96 (Int.toNat v1) = (97 + Int.toNat v1) from (Ly.row L2 (k := Int.toNat v1) (by omega) :)]
    refine ⟨(Ly.t95 L2 :), ?_⟩
    obtain ⟨l10, h7, e9, L8, H⟩ := H
    refine ⟨l10, h7, e9, ?_⟩
    exact H
set_option maxRecDepth 100000 in
theorem c_96_0 {p : Lpar} {d : Nat} {h : AH} {Q : Option AV → AH → Prop} {v1 : Int} (hd : 9 ≤ d) (L : Ly p h) (H : ∃ x4 h1, jE d 102 [jP 32, jI v1] h (some (jI x4)) h1 ∧ Ly p h1 ∧ (x4 = (0 : Int) → Q (some (jI (-100001))) h1) ∧ (¬ x4 = (0 : Int) → ∃ x8 h5, jE d 103 [jP 32, jI v1] h1 (some (jI x8)) h5 ∧ Ly p h5 ∧ (x8 = (0 : Int) → Q (some (jI 0)) h5) ∧ (¬ (x8 = (0 : Int)) → Q (some (jI 1)) h5))) : WF d 96 0 [jP 32, jI v1] [] h Q := by
  refine b_96_0 ?_
  refine ⟨(Ly.t32 L :), ?_⟩
  obtain ⟨x4, h1, e3, L2, H⟩ := H
  refine ⟨x4, h1, e3, ?_⟩
  refine ⟨fun c10 => ?_, fun c10 => ?_⟩
  · have H := H.2 c10
    refine ⟨(Ly.t32 L2 :), ?_⟩
    obtain ⟨x8, h5, e7, L6, H⟩ := H
    refine ⟨x8, h5, e7, ?_⟩
    refine ⟨fun c9 => ?_, fun c9 => ?_⟩
    · have H := H.1 c9
      exact H
    · have H := H.2 c9
      exact H
  · have c10 := Decidable.not_not.mp c10
    have H := H.1 c10
    exact H
set_option maxRecDepth 100000 in
theorem c_97_0 {p : Lpar} {d : Nat} {h : AH} {Q : Option AV → AH → Prop} {v1 : Int} (hd : 9 ≤ d) (L : Ly p h) (H : (0 ≤ v1 → WF d 97 11 [jP 32, jI v1, jI 0, jI 0] [] h Q) ∧ (¬ (0 ≤ v1) → Q (some (jI (-100001))) h)) : WF d 97 0 [jP 32, jI v1, jU, jU] [] h Q := by
  refine b_97_0 ?_
  refine ⟨fun c1 => ?_, fun c1 => ?_⟩
  · have H := H.1 c1
    exact H
  · have H := H.2 c1
    exact H
set_option maxRecDepth 100000 in
theorem c_97_11 {p : Lpar} {d : Nat} {h : AH} {Q : Option AV → AH → Prop} {v1 : Int} {v2 : Int} {v3 : Int} (hd : 9 ≤ d) (L : Ly p h) (H : ((ji h (pD p + 22) 5) ≤ v3 → Q (some (jI (-1))) h) ∧ (¬ ((ji h (pD p + 22) 5) ≤ v3) → ∃ x4 h1, jE d 103 [jP 32, jI v3] h (some (jI x4)) h1 ∧ Ly p h1 ∧ (x4 = (0 : Int) → (v2 = v1 → Q (some (jI v3)) h1) ∧ (¬ v2 = v1 → WF d 97 11 [jP 32, jI v1, jI (w32 (v2 + 1)), jI (w32 (v3 + 1))] [] h1 Q)) ∧ (¬ x4 = (0 : Int) → WF d 97 11 [jP 32, jI v1, jI v2, jI (w32 (v3 + 1))] [] h1 Q))) : WF d 97 11 [jP 32, jI v1, jI v2, jI v3] [] h Q := by
  refine b_97_11 ?_
  refine ⟨(Ly.t32 L :), ?_⟩
  rw [show jr h 32 5 = pD p from (Ly.r32_5 L :)]
  refine ⟨(Ly.dt0 L (Ly.iD L) :), ?_⟩
  rw [show jr h (pD p) 4 = (pD p + 22) from (Ly.dr0_4 L (Ly.iD L) :)]
  refine ⟨(Ly.dt22 L (Ly.iD L) :), ?_⟩
  refine ⟨fun c7 => ?_, fun c7 => ?_⟩
  · have H := H.1 c7
    exact H
  · have H := H.2 c7
    refine ⟨(Ly.t32 L :), ?_⟩
    obtain ⟨x4, h1, e3, L2, H⟩ := H
    refine ⟨x4, h1, e3, ?_⟩
    refine ⟨fun c6 => ?_, fun c6 => ?_⟩
    · have H := H.2 c6
      exact H
    · have c6 := Decidable.not_not.mp c6
      have H := H.1 c6
      refine ⟨fun c5 => ?_, fun c5 => ?_⟩
      · have H := H.2 c5
        exact H
      · have c5 := Decidable.not_not.mp c5
        have H := H.1 c5
        exact H
set_option maxRecDepth 100000 in
theorem c_98_0 {p : Lpar} {d : Nat} {h : AH} {Q : Option AV → AH → Prop}  (hd : 9 ≤ d) (L : Ly p h) (H : ((ji h (pD p) 12) = (0 : Int) → Q (some (jL (-100003))) h) ∧ (¬ (ji h (pD p) 12) = (0 : Int) → ∃ l4 h1, jE d 22 [jP 95, jP 138] h (some (jL l4)) h1 ∧ Ly p h1 ∧ Q (some (jL (w64 (l4 + (jl h1 95 4))))) h1)) : WF d 98 0 [jP 32] [] h Q := by
  refine b_98_0 ?_
  refine ⟨(Ly.t32 L :), ?_⟩
  rw [show jr h 32 5 = pD p from (Ly.r32_5 L :)]
  refine ⟨(Ly.dt0 L (Ly.iD L) :), ?_⟩
  refine ⟨fun c5 => ?_, fun c5 => ?_⟩
  · have H := H.2 c5
    refine ⟨(Ly.t32 L :), ?_⟩
    rw [show jr h 32 4 = 95 from (Ly.r32_4 L :)]
    refine ⟨(Ly.t32 L :), ?_⟩
    refine ⟨(Ly.t95 L :), ?_⟩
    rw [show jr h 95 3 = 138 from (Ly.r95_3 L :)]
    refine ⟨(Ly.t95 L :), ?_⟩
    obtain ⟨l4, h1, e3, L2, H⟩ := H
    refine ⟨l4, h1, e3, ?_⟩
    refine ⟨(Ly.t32 L2 :), ?_⟩
    rw [show jr h1 32 4 = 95 from (Ly.r32_4 L2 :)]
    refine ⟨(Ly.t95 L2 :), ?_⟩
    exact H
  · have c5 := Decidable.not_not.mp c5
    have H := H.1 c5
    exact H
set_option maxRecDepth 100000 in
theorem c_100_0 {p : Lpar} {d : Nat} {h : AH} {Q : Option AV → AH → Prop} {v1 : Int} (hd : 9 ≤ d) (L : Ly p h) (H : ∃ x4 h1, jE d 1 [jP 35, jI v1] h (some (jI x4)) h1 ∧ Ly p h1 ∧ Q (some (jI x4)) h1) : WF d 100 0 [jP 32, jI v1] [] h Q := by
  refine b_100_0 ?_
  refine ⟨(Ly.t32 L :), ?_⟩
  rw [show jr h 32 1 = 35 from (Ly.r32_1 L :)]
  refine ⟨(Ly.t35 L :), ?_⟩
  obtain ⟨x4, h1, e3, L2, H⟩ := H
  refine ⟨x4, h1, e3, ?_⟩
  exact H
set_option maxRecDepth 100000 in
theorem c_101_0 {p : Lpar} {d : Nat} {h : AH} {Q : Option AV → AH → Prop} {v1 : Int} (hd : 9 ≤ d) (L : Ly p h) (H : (v1 < 0 → Q (some (jI 0)) h) ∧ (¬ (v1 < 0) → ((ji h (pD p + 18) 5) ≤ v1 → Q (some (jI 0)) h) ∧ (¬ ((ji h (pD p + 18) 5) ≤ v1) → Q (some (jI 1)) h))) : WF d 101 0 [jP 32, jI v1] [] h Q := by
  refine b_101_0 ?_
  refine ⟨fun c2 => ?_, fun c2 => ?_⟩
  · have H := H.1 c2
    refine ⟨Or.inl rfl, ?_⟩
    exact H
  · have H := H.2 c2
    refine ⟨(Ly.t32 L :), ?_⟩
    rw [show jr h 32 5 = pD p from (Ly.r32_5 L :)]
    refine ⟨(Ly.dt0 L (Ly.iD L) :), ?_⟩
    rw [show jr h (pD p) 3 = (pD p + 18) from (Ly.dr0_3 L (Ly.iD L) :)]
    refine ⟨(Ly.dt18 L (Ly.iD L) :), ?_⟩
    refine ⟨fun c1 => ?_, fun c1 => ?_⟩
    · have H := H.1 c1
      refine ⟨Or.inl rfl, ?_⟩
      exact H
    · have H := H.2 c1
      refine ⟨Or.inr rfl, ?_⟩
      exact H
set_option maxRecDepth 100000 in
theorem c_102_0 {p : Lpar} {d : Nat} {h : AH} {Q : Option AV → AH → Prop} {v1 : Int} (hd : 9 ≤ d) (L : Ly p h) (H : (v1 < 0 → Q (some (jI 0)) h) ∧ (¬ (v1 < 0) → ((ji h (pD p + 22) 5) ≤ v1 → Q (some (jI 0)) h) ∧ (¬ ((ji h (pD p + 22) 5) ≤ v1) → Q (some (jI 1)) h))) : WF d 102 0 [jP 32, jI v1] [] h Q := by
  refine b_102_0 ?_
  refine ⟨fun c2 => ?_, fun c2 => ?_⟩
  · have H := H.1 c2
    refine ⟨Or.inl rfl, ?_⟩
    exact H
  · have H := H.2 c2
    refine ⟨(Ly.t32 L :), ?_⟩
    rw [show jr h 32 5 = pD p from (Ly.r32_5 L :)]
    refine ⟨(Ly.dt0 L (Ly.iD L) :), ?_⟩
    rw [show jr h (pD p) 4 = (pD p + 22) from (Ly.dr0_4 L (Ly.iD L) :)]
    refine ⟨(Ly.dt22 L (Ly.iD L) :), ?_⟩
    refine ⟨fun c1 => ?_, fun c1 => ?_⟩
    · have H := H.1 c1
      refine ⟨Or.inl rfl, ?_⟩
      exact H
    · have H := H.2 c1
      refine ⟨Or.inr rfl, ?_⟩
      exact H
set_option maxRecDepth 100000 in
theorem c_103_0 {p : Lpar} {d : Nat} {h : AH} {Q : Option AV → AH → Prop} {v1 : Int} (hd : 9 ≤ d) (L : Ly p h) (H : ∃ x4 h1, jE d 61 [jP (pD p + 22), jI v1] h (some (jI x4)) h1 ∧ Ly p h1 ∧ (x4 = (-1) → 0 ≤ v1 ∧ v1 < 40 ∧ ∃ l31 h28, jE d 22 [jP 95, jP (97 + Int.toNat v1)] h1 (some (jL l31)) h28 ∧ Ly p h28 ∧ 0 ≤ v1 ∧ v1 < 40 ∧ ∃ x37 h34, jE d 188 [jL l31, jL (jl h28 137 (Int.toNat v1))] h28 (some (jI x37)) h34 ∧ Ly p h34 ∧ (x37 = (0 : Int) → Q (some (jI 1)) h34) ∧ (¬ (x37 = (0 : Int)) → Q (some (jI 0)) h34)) ∧ (¬ x4 = (-1) → 0 ≤ x4 ∧ x4 < 10 ∧ 0 ≤ v1 ∧ v1 < 40 ∧ ∃ l12 h9, jE d 22 [jP 95, jP (97 + Int.toNat v1)] h1 (some (jL l12)) h9 ∧ Ly p h9 ∧ 0 ≤ v1 ∧ v1 < 40 ∧ ∃ x18 h15, jE d 188 [jL l12, jL (jl h9 137 (Int.toNat v1))] h9 (some (jI x18)) h15 ∧ Ly p h15 ∧ (x18 = (0 : Int) → Q (some (jI 1)) h15) ∧ (¬ (x18 = (0 : Int)) → (0 ≤ (ji h1 (pD p + 11) (Int.toNat x4)) → ((ji h1 (pD p + 11) (Int.toNat x4)) ≤ 0 → Q (some (jI 0)) h15) ∧ (¬ ((ji h1 (pD p + 11) (Int.toNat x4)) ≤ 0) → (x18 ≤ 0 → Q (some (jI 0)) h15) ∧ (¬ (x18 ≤ 0) → Q (some (jI 1)) h15))) ∧ (¬ (0 ≤ (ji h1 (pD p + 11) (Int.toNat x4))) → (x18 < 0 → Q (some (jI 1)) h15) ∧ (¬ (x18 < 0) → ((ji h1 (pD p + 11) (Int.toNat x4)) ≤ 0 → Q (some (jI 0)) h15) ∧ (¬ ((ji h1 (pD p + 11) (Int.toNat x4)) ≤ 0) → (x18 ≤ 0 → Q (some (jI 0)) h15) ∧ (¬ (x18 ≤ 0) → Q (some (jI 1)) h15))))))) : WF d 103 0 [jP 32, jI v1, jU, jU, jU] [] h Q := by
  refine b_103_0 ?_
  refine ⟨(Ly.t32 L :), ?_⟩
  rw [show jr h 32 5 = pD p from (Ly.r32_5 L :)]
  refine ⟨(Ly.dt0 L (Ly.iD L) :), ?_⟩
  rw [show jr h (pD p) 4 = (pD p + 22) from (Ly.dr0_4 L (Ly.iD L) :)]
  refine ⟨(Ly.dt22 L (Ly.iD L) :), ?_⟩
  obtain ⟨x4, h1, e3, L2, H⟩ := H
  refine ⟨x4, h1, e3, ?_⟩
  refine ⟨fun c39 => ?_, fun c39 => ?_⟩
  · have H := H.2 c39
    refine ⟨(Ly.t32 L2 :), ?_⟩
    rw [show jr h1 32 5 = pD p from (Ly.r32_5 L2 :)]
    refine ⟨(Ly.dt0 L2 (Ly.iD L2) :), ?_⟩
    rw [show jr h1 (pD p) 9 = (pD p + 11) from (Ly.dr0_9 L2 (Ly.iD L2) :)]
    obtain ⟨z5, z6, H⟩ := H
    refine ⟨inA_mk (N := 10) (Ly.dt11 L2 (Ly.iD L2) :) (Ly.dn11 L2 (Ly.iD L2) :) z5 z6, ?_⟩
    refine ⟨(Ly.t32 L2 :), ?_⟩
    rw [show jr h1 32 4 = 95 from (Ly.r32_4 L2 :)]
    refine ⟨(Ly.t32 L2 :), ?_⟩
    refine ⟨(Ly.t95 L2 :), ?_⟩
    rw [show jr h1 95 1 = 96 from (Ly.r95_1 L2 :)]
    obtain ⟨z7, z8, H⟩ := H
    refine ⟨Or.inr (inA_mk (N := 40) (Ly.t96 L2 :) (Ly.n96 L2 :) z7 z8), ?_⟩
    rw [show jr h1 96 (Int.toNat v1) = (97 + Int.toNat v1) from (Ly.row L2 (k := Int.toNat v1) (by omega) :)]
    refine ⟨(Ly.t95 L2 :), ?_⟩
    obtain ⟨l12, h9, e11, L10, H⟩ := H
    refine ⟨l12, h9, e11, ?_⟩
    refine ⟨(Ly.t32 L10 :), ?_⟩
    rw [show jr h9 32 4 = 95 from (Ly.r32_4 L10 :)]
    refine ⟨(Ly.t95 L10 :), ?_⟩
    rw [show jr h9 95 2 = 137 from (Ly.r95_2 L10 :)]
    obtain ⟨z13, z14, H⟩ := H
    refine ⟨inA_mk (N := 40) (Ly.t137 L10 :) (Ly.n137 L10 :) z13 z14, ?_⟩
    obtain ⟨x18, h15, e17, L16, H⟩ := H
    refine ⟨x18, h15, e17, ?_⟩
    refine ⟨fun c25 => ?_, fun c25 => ?_⟩
    · have H := H.1 c25
      refine ⟨Or.inr rfl, ?_⟩
      exact H
    · have H := H.2 c25
      refine ⟨fun c24 => ?_, fun c24 => ?_⟩
      · have H := H.1 c24
        refine ⟨fun c20 => ?_, fun c20 => ?_⟩
        · have H := H.1 c20
          refine ⟨Or.inl rfl, ?_⟩
          exact H
        · have H := H.2 c20
          refine ⟨fun c19 => ?_, fun c19 => ?_⟩
          · have H := H.1 c19
            refine ⟨Or.inl rfl, ?_⟩
            exact H
          · have H := H.2 c19
            refine ⟨Or.inr rfl, ?_⟩
            exact H
      · have H := H.2 c24
        refine ⟨fun c23 => ?_, fun c23 => ?_⟩
        · have H := H.1 c23
          refine ⟨Or.inr rfl, ?_⟩
          exact H
        · have H := H.2 c23
          refine ⟨fun c22 => ?_, fun c22 => ?_⟩
          · have H := H.1 c22
            refine ⟨Or.inl rfl, ?_⟩
            exact H
          · have H := H.2 c22
            refine ⟨fun c21 => ?_, fun c21 => ?_⟩
            · have H := H.1 c21
              refine ⟨Or.inl rfl, ?_⟩
              exact H
            · have H := H.2 c21
              refine ⟨Or.inr rfl, ?_⟩
              exact H
  · have c39 := Decidable.not_not.mp c39
    have H := H.1 c39
    refine ⟨(Ly.t32 L2 :), ?_⟩
    rw [show jr h1 32 4 = 95 from (Ly.r32_4 L2 :)]
    refine ⟨(Ly.t32 L2 :), ?_⟩
    refine ⟨(Ly.t95 L2 :), ?_⟩
    rw [show jr h1 95 1 = 96 from (Ly.r95_1 L2 :)]
    obtain ⟨z26, z27, H⟩ := H
    refine ⟨Or.inr (inA_mk (N := 40) (Ly.t96 L2 :) (Ly.n96 L2 :) z26 z27), ?_⟩
    rw [show jr h1 96 (Int.toNat v1) = (97 + Int.toNat v1) from (Ly.row L2 (k := Int.toNat v1) (by omega) :)]
    refine ⟨(Ly.t95 L2 :), ?_⟩
    obtain ⟨l31, h28, e30, L29, H⟩ := H
    refine ⟨l31, h28, e30, ?_⟩
    refine ⟨(Ly.t32 L29 :), ?_⟩
    rw [show jr h28 32 4 = 95 from (Ly.r32_4 L29 :)]
    refine ⟨(Ly.t95 L29 :), ?_⟩
    rw [show jr h28 95 2 = 137 from (Ly.r95_2 L29 :)]
    obtain ⟨z32, z33, H⟩ := H
    refine ⟨inA_mk (N := 40) (Ly.t137 L29 :) (Ly.n137 L29 :) z32 z33, ?_⟩
    obtain ⟨x37, h34, e36, L35, H⟩ := H
    refine ⟨x37, h34, e36, ?_⟩
    refine ⟨fun c38 => ?_, fun c38 => ?_⟩
    · have H := H.1 c38
      refine ⟨Or.inr rfl, ?_⟩
      exact H
    · have H := H.2 c38
      refine ⟨fun _ => ?_, fun c => absurd (by decide) c⟩
      refine ⟨fun _ => ?_, fun c => absurd (by decide) c⟩
      refine ⟨Or.inl rfl, ?_⟩
      exact H
set_option maxRecDepth 100000 in
theorem c_28_0 {p : Lpar} {d : Nat} {h : AH} {Q : Option AV → AH → Prop} {v1 : Int} {v2 : Int} (hd : 9 ≤ d) (L : Ly p h) {D : Nat} (hD : isD D) (H : WF d 28 2 [jP (D + 1), jI v1, jI v2, jI 0] [] h Q) : WF d 28 0 [jP (D + 1), jI v1, jI v2, jU] [] h Q := by
  refine b_28_0 ?_
  exact H
set_option maxRecDepth 100000 in
theorem c_28_2 {p : Lpar} {d : Nat} {h : AH} {Q : Option AV → AH → Prop} {v1 : Int} {v2 : Int} {v3 : Int} (hd : 9 ≤ d) (L : Ly p h) {D : Nat} (hD : isD D) (H : (4 ≤ v3 → (v2 < 0 → Q (some (jI (-1))) h) ∧ (¬ (v2 < 0) → (v2 < v3 → Q (some (jI (jand (jush v1 (w32 (8 * (w32 ((w32 (v3 - 1)) - v2))))) 255))) h) ∧ (¬ (v2 < v3) → Q (some (jI (-1))) h))) ∧ (¬ (4 ≤ v3) → ((jush v1 (w32 (8 * v3))) = (0 : Int) → (v2 < 0 → Q (some (jI (-1))) h) ∧ (¬ (v2 < 0) → (v2 < v3 → Q (some (jI (jand (jush v1 (w32 (8 * (w32 ((w32 (v3 - 1)) - v2))))) 255))) h) ∧ (¬ (v2 < v3) → Q (some (jI (-1))) h))) ∧ (¬ ((jush v1 (w32 (8 * v3))) = (0 : Int)) → WF d 28 2 [jP (D + 1), jI v1, jI v2, jI (w32 (v3 + 1))] [] h Q))) : WF d 28 2 [jP (D + 1), jI v1, jI v2, jI v3] [] h Q := by
  refine b_28_2 ?_
  refine ⟨fun c6 => ?_, fun c6 => ?_⟩
  · have H := H.1 c6
    refine ⟨fun c2 => ?_, fun c2 => ?_⟩
    · have H := H.1 c2
      exact H
    · have H := H.2 c2
      refine ⟨fun c1 => ?_, fun c1 => ?_⟩
      · have H := H.1 c1
        exact H
      · have H := H.2 c1
        exact H
  · have H := H.2 c6
    refine ⟨fun c5 => ?_, fun c5 => ?_⟩
    · have H := H.1 c5
      refine ⟨fun c4 => ?_, fun c4 => ?_⟩
      · have H := H.1 c4
        exact H
      · have H := H.2 c4
        refine ⟨fun c3 => ?_, fun c3 => ?_⟩
        · have H := H.1 c3
          exact H
        · have H := H.2 c3
          exact H
    · have H := H.2 c5
      exact H
