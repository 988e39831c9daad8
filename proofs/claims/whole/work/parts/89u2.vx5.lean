set_option maxRecDepth 100000 in
theorem c_183_0 {p : Lpar} {d : Nat} {h : AH} {Q : Option AV → AH → Prop} {v1 : Int} (hd : 9 ≤ d) (L : Ly p h) (H : WF d 183 2 [jP 141, jI v1, jI 0] [] h Q) : WF d 183 0 [jP 141, jI v1, jU] [] h Q := by
  refine b_183_0 ?_
  exact H
set_option maxRecDepth 100000 in
theorem c_183_2 {p : Lpar} {d : Nat} {h : AH} {Q : Option AV → AH → Prop} {v1 : Int} {v2 : Int} (hd : 9 ≤ d) (L : Ly p h) (H : ∃ x4 h1, jE d 160 [jI v1, jI v2] h (some (jI x4)) h1 ∧ Ly p h1 ∧ (x4 = (-100001) → Q none h1) ∧ (¬ (x4 = (-100001)) → ∃ x8 h5, jE d 160 [jI v1, jI v2] h1 (some (jI x8)) h5 ∧ Ly p h5 ∧ 0 ≤ (ji h5 141 81) ∧ (ji h5 141 81) < 2400 ∧ (Ly p (wi (wi h5 195 (Int.toNat (ji h5 141 81)) x8) 141 81 ((ji h5 141 81) + 1)) → WF d 183 2 [jP 141, jI v1, jI (w32 (v2 + 1))] [] (wi (wi h5 195 (Int.toNat (ji h5 141 81)) x8) 141 81 ((ji h5 141 81) + 1)) Q))) : WF d 183 2 [jP 141, jI v1, jI v2] [] h Q := by
  refine b_183_2 ?_
  obtain ⟨x4, h1, e3, L2, H⟩ := H
  refine ⟨x4, h1, e3, ?_⟩
  refine ⟨fun c12 => ?_, fun c12 => ?_⟩
  · have H := H.1 c12
    exact H
  · have H := H.2 c12
    obtain ⟨x8, h5, e7, L6, H⟩ := H
    refine ⟨x8, h5, e7, ?_⟩
    refine ⟨(Ly.t141 L6 :), ?_⟩
    obtain ⟨z9, z10, H⟩ := H
    refine ⟨_, m_182 (d := d) (by omega) L6 z9 z10, ?_⟩
    exact H (Ly.wi (Ly.wi L6 (a := 195) (k := Int.toNat (ji h5 141 81)) (x := x8) (by decide)) (a := 141) (k := 81) (x := (ji h5 141 81) + 1) (by decide))
set_option maxRecDepth 100000 in
theorem c_184_0 {p : Lpar} {d : Nat} {h : AH} {Q : Option AV → AH → Prop} {v1 : Int} (hd : 9 ≤ d) (L : Ly p h) (H : ((jcmp v1 0) ≤ 0 → WF d 184 16 [jP 141, jL v1, jU, jL v1, jU, jI 0, jU] [] h Q) ∧ (¬ ((jcmp v1 0) ≤ 0) → WF d 184 16 [jP 141, jL v1, jU, jL (w64 (-v1)), jU, jI 0, jU] [] h Q)) : WF d 184 0 [jP 141, jL v1, jU, jU, jU, jU, jU] [] h Q := by
  refine b_184_0 ?_
  refine ⟨fun c1 => ?_, fun c1 => ?_⟩
  · have H := H.1 c1
    exact H
  · have H := H.2 c1
    exact H
set_option maxRecDepth 100000 in
theorem c_184_16 {p : Lpar} {d : Nat} {h : AH} {Q : Option AV → AH → Prop} {v1 : Int} {v3 : Int} {v5 : Int} {z6 : AV} (hd : 9 ≤ d) (L : Ly p h) (H : ((jcmp v3 0) = (0 : Int) → (v5 = (0 : Int) → 0 ≤ v5 ∧ v5 < 20 ∧ (Ly p (wi h 196 (Int.toNat v5) (w32 (w64 (-(w64 (Int.tmod v3 10)))))) → WF d 184 16 [jP 141, jL v1, jU, jL (w64 (Int.tdiv v3 10)), jU, jI (w32 (v5 + 1)), z6] [] (wi h 196 (Int.toNat v5) (w32 (w64 (-(w64 (Int.tmod v3 10)))))) Q)) ∧ (¬ v5 = (0 : Int) → WF d 184 59 [jP 141, jL v1, jU, jL v3, jU, jI v5, jI (w32 (v5 - 1))] [] h Q)) ∧ (¬ (jcmp v3 0) = (0 : Int) → 0 ≤ v5 ∧ v5 < 20 ∧ (Ly p (wi h 196 (Int.toNat v5) (w32 (w64 (-(w64 (Int.tmod v3 10)))))) → WF d 184 16 [jP 141, jL v1, jU, jL (w64 (Int.tdiv v3 10)), jU, jI (w32 (v5 + 1)), z6] [] (wi h 196 (Int.toNat v5) (w32 (w64 (-(w64 (Int.tmod v3 10)))))) Q))) : WF d 184 16 [jP 141, jL v1, jU, jL v3, jU, jI v5, z6] [] h Q := by
  refine b_184_16 ?_
  refine ⟨fun c6 => ?_, fun c6 => ?_⟩
  · have H := H.2 c6
    refine ⟨(Ly.t141 L :), ?_⟩
    rw [show jr h 141 83 = 196 from (Ly.r141_83 L :)]
    refine ⟨by decide, ?_⟩
    obtain ⟨z1, z2, H⟩ := H
    refine ⟨inW_mk (N := 20) (Ly.t196 L :) (Ly.n196 L :) z1 z2, ?_⟩
    refine ⟨by decide, ?_⟩
    exact H (Ly.wi L (a := 196) (k := Int.toNat v5) (x := w32 (w64 (-(w64 (Int.tmod v3 10))))) (by decide))
  · have c6 := Decidable.not_not.mp c6
    have H := H.1 c6
    refine ⟨fun c5 => ?_, fun c5 => ?_⟩
    · have H := H.2 c5
      exact H
    · have c5 := Decidable.not_not.mp c5
      have H := H.1 c5
      refine ⟨(Ly.t141 L :), ?_⟩
      rw [show jr h 141 83 = 196 from (Ly.r141_83 L :)]
      refine ⟨by decide, ?_⟩
      obtain ⟨z3, z4, H⟩ := H
      refine ⟨inW_mk (N := 20) (Ly.t196 L :) (Ly.n196 L :) z3 z4, ?_⟩
      refine ⟨by decide, ?_⟩
      exact H (Ly.wi L (a := 196) (k := Int.toNat v5) (x := w32 (w64 (-(w64 (Int.tmod v3 10))))) (by decide))
set_option maxRecDepth 100000 in
theorem c_184_59 {p : Lpar} {d : Nat} {h : AH} {Q : Option AV → AH → Prop} {v1 : Int} {v3 : Int} {v5 : Int} {v6 : Int} (hd : 9 ≤ d) (L : Ly p h) (H : (v6 < 0 → Q none h) ∧ (¬ (v6 < 0) → 0 ≤ v6 ∧ v6 < 20 ∧ 0 ≤ (ji h 141 81) ∧ (ji h 141 81) < 2400 ∧ (Ly p (wi (wi h 195 (Int.toNat (ji h 141 81)) (w32 (48 + (ji h 196 (Int.toNat v6))))) 141 81 ((ji h 141 81) + 1)) → WF d 184 59 [jP 141, jL v1, jU, jL v3, jU, jI v5, jI (w32 (v6 + (-1)))] [] (wi (wi h 195 (Int.toNat (ji h 141 81)) (w32 (48 + (ji h 196 (Int.toNat v6))))) 141 81 ((ji h 141 81) + 1)) Q))) : WF d 184 59 [jP 141, jL v1, jU, jL v3, jU, jI v5, jI v6] [] h Q := by
  refine b_184_59 ?_
  refine ⟨fun c6 => ?_, fun c6 => ?_⟩
  · have H := H.1 c6
    exact H
  · have H := H.2 c6
    refine ⟨(Ly.t141 L :), ?_⟩
    rw [show jr h 141 83 = 196 from (Ly.r141_83 L :)]
    obtain ⟨z1, z2, H⟩ := H
    refine ⟨inA_mk (N := 20) (Ly.t196 L :) (Ly.n196 L :) z1 z2, ?_⟩
    refine ⟨(Ly.t141 L :), ?_⟩
    obtain ⟨z3, z4, H⟩ := H
    refine ⟨_, m_182 (d := d) (by omega) L z3 z4, ?_⟩
    exact H (Ly.wi (Ly.wi L (a := 195) (k := Int.toNat (ji h 141 81)) (x := w32 (48 + (ji h 196 (Int.toNat v6)))) (by decide)) (a := 141) (k := 81) (x := (ji h 141 81) + 1) (by decide))
set_option maxRecDepth 100000 in
theorem c_185_0 {p : Lpar} {d : Nat} {h : AH} {Q : Option AV → AH → Prop} {v1 : Int} {v2 : Int} {v4 : Int} (hd : 9 ≤ d) (L : Ly p h) (H : (v4 = (0 : Int) → 0 ≤ (ji h 141 81) ∧ (ji h 141 81) < 2400 ∧ (Ly p (wi (wi h 195 (Int.toNat (ji h 141 81)) (32 : Int)) 141 81 ((ji h 141 81) + 1)) → WF d 185 11 [jP 141, jI v1, jL v2, jU, jI v4] [] (wi (wi h 195 (Int.toNat (ji h 141 81)) (32 : Int)) 141 81 ((ji h 141 81) + 1)) Q)) ∧ (¬ v4 = (0 : Int) → (0 ≤ (jcmp v2 0) → WF d 185 49 [jP 141, jI v1, jL v2, jU, jI v4] [] h Q) ∧ (¬ (0 ≤ (jcmp v2 0)) → 0 ≤ (ji h 141 81) ∧ (ji h 141 81) < 2400 ∧ (Ly p (wi (wi h 195 (Int.toNat (ji h 141 81)) (45 : Int)) 141 81 ((ji h 141 81) + 1)) → WF d 185 49 [jP 141, jI v1, jL v2, jU, jI v4] [] (wi (wi h 195 (Int.toNat (ji h 141 81)) (45 : Int)) 141 81 ((ji h 141 81) + 1)) Q)))) : WF d 185 0 [jP 141, jI v1, jL v2, jU, jI v4] [] h Q := by
  refine b_185_0 ?_
  refine ⟨fun c8 => ?_, fun c8 => ?_⟩
  · have H := H.2 c8
    refine ⟨fun c4 => ?_, fun c4 => ?_⟩
    · have H := H.1 c4
      exact H
    · have H := H.2 c4
      refine ⟨(Ly.t141 L :), ?_⟩
      obtain ⟨z1, z2, H⟩ := H
      refine ⟨_, m_182 (d := d) (by omega) L z1 z2, ?_⟩
      exact H (Ly.wi (Ly.wi L (a := 195) (k := Int.toNat (ji h 141 81)) (x := 45) (by decide)) (a := 141) (k := 81) (x := (ji h 141 81) + 1) (by decide))
  · have c8 := Decidable.not_not.mp c8
    have H := H.1 c8
    refine ⟨(Ly.t141 L :), ?_⟩
    obtain ⟨z5, z6, H⟩ := H
    refine ⟨_, m_182 (d := d) (by omega) L z5 z6, ?_⟩
    exact H (Ly.wi (Ly.wi L (a := 195) (k := Int.toNat (ji h 141 81)) (x := 32) (by decide)) (a := 141) (k := 81) (x := (ji h 141 81) + 1) (by decide))
set_option maxRecDepth 100000 in
theorem c_185_11 {p : Lpar} {d : Nat} {h : AH} {Q : Option AV → AH → Prop} {v1 : Int} {v2 : Int} {v4 : Int} (hd : 9 ≤ d) (L : Ly p h) (H : (0 ≤ (jcmp v2 0) → 0 ≤ (ji h 141 81) ∧ (ji h 141 81) < 2400 ∧ (Ly p (wi (wi h 195 (Int.toNat (ji h 141 81)) (43 : Int)) 141 81 ((ji h 141 81) + 1)) → WF d 185 28 [jP 141, jI v1, jL v2, jU, jI v4] [] (wi (wi h 195 (Int.toNat (ji h 141 81)) (43 : Int)) 141 81 ((ji h 141 81) + 1)) Q)) ∧ (¬ (0 ≤ (jcmp v2 0)) → 0 ≤ (ji h 141 81) ∧ (ji h 141 81) < 2400 ∧ (Ly p (wi (wi h 195 (Int.toNat (ji h 141 81)) (45 : Int)) 141 81 ((ji h 141 81) + 1)) → WF d 185 28 [jP 141, jI v1, jL v2, jU, jI v4] [] (wi (wi h 195 (Int.toNat (ji h 141 81)) (45 : Int)) 141 81 ((ji h 141 81) + 1)) Q))) : WF d 185 11 [jP 141, jI v1, jL v2, jU, jI v4] [] h Q := by
  refine b_185_11 ?_
  refine ⟨fun c7 => ?_, fun c7 => ?_⟩
  · have H := H.1 c7
    refine ⟨(Ly.t141 L :), ?_⟩
    obtain ⟨z1, z2, H⟩ := H
    refine ⟨_, m_182 (d := d) (by omega) L z1 z2, ?_⟩
    exact H (Ly.wi (Ly.wi L (a := 195) (k := Int.toNat (ji h 141 81)) (x := 43) (by decide)) (a := 141) (k := 81) (x := (ji h 141 81) + 1) (by decide))
  · have H := H.2 c7
    refine ⟨(Ly.t141 L :), ?_⟩
    obtain ⟨z4, z5, H⟩ := H
    refine ⟨_, m_182 (d := d) (by omega) L z4 z5, ?_⟩
    exact H (Ly.wi (Ly.wi L (a := 195) (k := Int.toNat (ji h 141 81)) (x := 45) (by decide)) (a := 141) (k := 81) (x := (ji h 141 81) + 1) (by decide))
set_option maxRecDepth 100000 in
theorem c_185_28 {p : Lpar} {d : Nat} {h : AH} {Q : Option AV → AH → Prop} {v1 : Int} {v2 : Int} {v4 : Int} (hd : 9 ≤ d) (L : Ly p h) (H : 0 ≤ (ji h 141 81) ∧ (ji h 141 81) < 2400 ∧ (Ly p (wi (wi h 195 (Int.toNat (ji h 141 81)) (32 : Int)) 141 81 ((ji h 141 81) + 1)) → WF d 185 34 [jP 141, jI v1, jL v2, jU, jI v4] [] (wi (wi h 195 (Int.toNat (ji h 141 81)) (32 : Int)) 141 81 ((ji h 141 81) + 1)) Q)) : WF d 185 28 [jP 141, jI v1, jL v2, jU, jI v4] [] h Q := by
  refine b_185_28 ?_
  refine ⟨(Ly.t141 L :), ?_⟩
  obtain ⟨z1, z2, H⟩ := H
  refine ⟨_, m_182 (d := d) (by omega) L z1 z2, ?_⟩
  exact H (Ly.wi (Ly.wi L (a := 195) (k := Int.toNat (ji h 141 81)) (x := 32) (by decide)) (a := 141) (k := 81) (x := (ji h 141 81) + 1) (by decide))
set_option maxRecDepth 100000 in
theorem c_185_34 {p : Lpar} {d : Nat} {h : AH} {Q : Option AV → AH → Prop} {v1 : Int} {v2 : Int} {v4 : Int} (hd : 9 ≤ d) (L : Ly p h) (H : WF d 185 49 [jP 141, jI v1, jL v2, jU, jI v4] [] h Q) : WF d 185 34 [jP 141, jI v1, jL v2, jU, jI v4] [] h Q := by
  refine b_185_34 ?_
  exact H
set_option maxRecDepth 100000 in
theorem c_185_49 {p : Lpar} {d : Nat} {h : AH} {Q : Option AV → AH → Prop} {v1 : Int} {v2 : Int} {v4 : Int} (hd : 9 ≤ d) (L : Ly p h) (H : ((jcmp v2 1) = (0 : Int) → WF d 185 74 [jP 141, jI v1, jL v2, jU, jI v4] [] h Q) ∧ (¬ ((jcmp v2 1) = (0 : Int)) → ((jcmp v2 (-1)) = (0 : Int) → WF d 185 74 [jP 141, jI v1, jL v2, jU, jI v4] [] h Q) ∧ (¬ ((jcmp v2 (-1)) = (0 : Int)) → ∃ h1, jE d 184 [jP 141, jL v2] h none h1 ∧ Ly p h1 ∧ WF d 185 68 [jP 141, jI v1, jL v2, jU, jI v4] [] h1 Q))) : WF d 185 49 [jP 141, jI v1, jL v2, jU, jI v4] [] h Q := by
  refine b_185_49 ?_
  refine ⟨fun c5 => ?_, fun c5 => ?_⟩
  · have H := H.1 c5
    exact H
  · have H := H.2 c5
    refine ⟨fun c4 => ?_, fun c4 => ?_⟩
    · have H := H.1 c4
      exact H
    · have H := H.2 c4
      refine ⟨(Ly.t141 L :), ?_⟩
      obtain ⟨h1, e3, L2, H⟩ := H
      refine ⟨h1, e3, ?_⟩
      exact H
set_option maxRecDepth 100000 in
theorem c_185_68 {p : Lpar} {d : Nat} {h : AH} {Q : Option AV → AH → Prop} {v1 : Int} {v2 : Int} {v4 : Int} (hd : 9 ≤ d) (L : Ly p h) (H : 0 ≤ (ji h 141 81) ∧ (ji h 141 81) < 2400 ∧ (Ly p (wi (wi h 195 (Int.toNat (ji h 141 81)) (42 : Int)) 141 81 ((ji h 141 81) + 1)) → WF d 185 74 [jP 141, jI v1, jL v2, jU, jI v4] [] (wi (wi h 195 (Int.toNat (ji h 141 81)) (42 : Int)) 141 81 ((ji h 141 81) + 1)) Q)) : WF d 185 68 [jP 141, jI v1, jL v2, jU, jI v4] [] h Q := by
  refine b_185_68 ?_
  refine ⟨(Ly.t141 L :), ?_⟩
  obtain ⟨z1, z2, H⟩ := H
  refine ⟨_, m_182 (d := d) (by omega) L z1 z2, ?_⟩
  exact H (Ly.wi (Ly.wi L (a := 195) (k := Int.toNat (ji h 141 81)) (x := 42) (by decide)) (a := 141) (k := 81) (x := (ji h 141 81) + 1) (by decide))
set_option maxRecDepth 100000 in
theorem c_185_74 {p : Lpar} {d : Nat} {h : AH} {Q : Option AV → AH → Prop} {v1 : Int} {v2 : Int} {v4 : Int} (hd : 9 ≤ d) (L : Ly p h) (H : 0 ≤ v1 ∧ v1 < 40 ∧ 0 ≤ (w32 (20 + (ji h 183 (Int.toNat v1)))) ∧ (w32 (20 + (ji h 183 (Int.toNat v1)))) < 40 ∧ ∃ h5, jE d 183 [jP 141, jI (ji h 176 (Int.toNat (w32 (20 + (ji h 183 (Int.toNat v1))))))] h none h5 ∧ Ly p h5 ∧ WF d 185 92 [jP 141, jI v1, jL v2, jU, jI v4] [] h5 Q) : WF d 185 74 [jP 141, jI v1, jL v2, jU, jI v4] [] h Q := by
  refine b_185_74 ?_
  refine ⟨(Ly.t141 L :), ?_⟩
  rw [show jr h 141 58 = 176 from (Ly.r141_58 L :)]
  refine ⟨(Ly.t141 L :), ?_⟩
  rw [show jr h 141 66 = 183 from (Ly.r141_66 L :)]
  obtain ⟨z1, z2, H⟩ := H
  refine ⟨inA_mk (N := 40) (Ly.t183 L :) (Ly.n183 L :) z1 z2, ?_⟩
  obtain ⟨z3, z4, H⟩ := H
  refine ⟨inA_mk (N := 40) (Ly.t176 L :) (Ly.n176 L :) z3 z4, ?_⟩
  refine ⟨(Ly.t141 L :), ?_⟩
  obtain ⟨h5, e7, L6, H⟩ := H
  refine ⟨h5, e7, ?_⟩
  exact H
set_option maxRecDepth 100000 in
theorem c_185_92 {p : Lpar} {d : Nat} {h : AH} {Q : Option AV → AH → Prop} {v1 : Int} {v2 : Int} {v4 : Int} (hd : 9 ≤ d) (L : Ly p h) (H : 0 ≤ v1 ∧ v1 < 40 ∧ ((ji h 184 (Int.toNat v1)) = (-1) → WF d 185 152 [jP 141, jI v1, jL v2, jU, jI v4] [] h Q) ∧ (¬ ((ji h 184 (Int.toNat v1)) = (-1)) → 0 ≤ (ji h 141 81) ∧ (ji h 141 81) < 2400 ∧ (Ly p (wi (wi h 195 (Int.toNat (ji h 141 81)) (91 : Int)) 141 81 ((ji h 141 81) + 1)) → WF d 185 108 [jP 141, jI v1, jL v2, jU, jI v4] [] (wi (wi h 195 (Int.toNat (ji h 141 81)) (91 : Int)) 141 81 ((ji h 141 81) + 1)) Q))) : WF d 185 92 [jP 141, jI v1, jL v2, jU, jI v4] [] h Q := by
  refine b_185_92 ?_
  refine ⟨(Ly.t141 L :), ?_⟩
  rw [show jr h 141 67 = 184 from (Ly.r141_67 L :)]
  obtain ⟨z1, z2, H⟩ := H
  refine ⟨inA_mk (N := 40) (Ly.t184 L :) (Ly.n184 L :) z1 z2, ?_⟩
  refine ⟨fun c6 => ?_, fun c6 => ?_⟩
  · have H := H.1 c6
    exact H
  · have H := H.2 c6
    refine ⟨(Ly.t141 L :), ?_⟩
    obtain ⟨z3, z4, H⟩ := H
    refine ⟨_, m_182 (d := d) (by omega) L z3 z4, ?_⟩
    exact H (Ly.wi (Ly.wi L (a := 195) (k := Int.toNat (ji h 141 81)) (x := 91) (by decide)) (a := 141) (k := 81) (x := (ji h 141 81) + 1) (by decide))
set_option maxRecDepth 100000 in
theorem c_185_108 {p : Lpar} {d : Nat} {h : AH} {Q : Option AV → AH → Prop} {v1 : Int} {v2 : Int} {v4 : Int} (hd : 9 ≤ d) (L : Ly p h) (H : 0 ≤ v1 ∧ v1 < 40 ∧ ∃ h3, jE d 184 [jP 141, jL (ji h 184 (Int.toNat v1))] h none h3 ∧ Ly p h3 ∧ WF d 185 119 [jP 141, jI v1, jL v2, jU, jI v4] [] h3 Q) : WF d 185 108 [jP 141, jI v1, jL v2, jU, jI v4] [] h Q := by
  refine b_185_108 ?_
  refine ⟨(Ly.t141 L :), ?_⟩
  rw [show jr h 141 67 = 184 from (Ly.r141_67 L :)]
  obtain ⟨z1, z2, H⟩ := H
  refine ⟨inA_mk (N := 40) (Ly.t184 L :) (Ly.n184 L :) z1 z2, ?_⟩
  refine ⟨(Ly.t141 L :), ?_⟩
  obtain ⟨h3, e5, L4, H⟩ := H
  refine ⟨h3, e5, ?_⟩
  exact H
set_option maxRecDepth 100000 in
theorem c_185_119 {p : Lpar} {d : Nat} {h : AH} {Q : Option AV → AH → Prop} {v1 : Int} {v2 : Int} {v4 : Int} (hd : 9 ≤ d) (L : Ly p h) (H : 0 ≤ v1 ∧ v1 < 40 ∧ ((ji h 185 (Int.toNat v1)) = (-1) → WF d 185 146 [jP 141, jI v1, jL v2, jU, jI v4] [] h Q) ∧ (¬ ((ji h 185 (Int.toNat v1)) = (-1)) → 0 ≤ (ji h 141 81) ∧ (ji h 141 81) < 2400 ∧ (Ly p (wi (wi h 195 (Int.toNat (ji h 141 81)) (44 : Int)) 141 81 ((ji h 141 81) + 1)) → WF d 185 135 [jP 141, jI v1, jL v2, jU, jI v4] [] (wi (wi h 195 (Int.toNat (ji h 141 81)) (44 : Int)) 141 81 ((ji h 141 81) + 1)) Q))) : WF d 185 119 [jP 141, jI v1, jL v2, jU, jI v4] [] h Q := by
  refine b_185_119 ?_
  refine ⟨(Ly.t141 L :), ?_⟩
  rw [show jr h 141 68 = 185 from (Ly.r141_68 L :)]
  obtain ⟨z1, z2, H⟩ := H
  refine ⟨inA_mk (N := 40) (Ly.t185 L :) (Ly.n185 L :) z1 z2, ?_⟩
  refine ⟨fun c6 => ?_, fun c6 => ?_⟩
  · have H := H.1 c6
    exact H
  · have H := H.2 c6
    refine ⟨(Ly.t141 L :), ?_⟩
    obtain ⟨z3, z4, H⟩ := H
    refine ⟨_, m_182 (d := d) (by omega) L z3 z4, ?_⟩
    exact H (Ly.wi (Ly.wi L (a := 195) (k := Int.toNat (ji h 141 81)) (x := 44) (by decide)) (a := 141) (k := 81) (x := (ji h 141 81) + 1) (by decide))
set_option maxRecDepth 100000 in
theorem c_185_135 {p : Lpar} {d : Nat} {h : AH} {Q : Option AV → AH → Prop} {v1 : Int} {v2 : Int} {v4 : Int} (hd : 9 ≤ d) (L : Ly p h) (H : 0 ≤ v1 ∧ v1 < 40 ∧ ∃ h3, jE d 184 [jP 141, jL (ji h 185 (Int.toNat v1))] h none h3 ∧ Ly p h3 ∧ WF d 185 146 [jP 141, jI v1, jL v2, jU, jI v4] [] h3 Q) : WF d 185 135 [jP 141, jI v1, jL v2, jU, jI v4] [] h Q := by
  refine b_185_135 ?_
  refine ⟨(Ly.t141 L :), ?_⟩
  rw [show jr h 141 68 = 185 from (Ly.r141_68 L :)]
  obtain ⟨z1, z2, H⟩ := H
  refine ⟨inA_mk (N := 40) (Ly.t185 L :) (Ly.n185 L :) z1 z2, ?_⟩
  refine ⟨(Ly.t141 L :), ?_⟩
  obtain ⟨h3, e5, L4, H⟩ := H
  refine ⟨h3, e5, ?_⟩
  exact H
set_option maxRecDepth 100000 in
theorem c_185_146 {p : Lpar} {d : Nat} {h : AH} {Q : Option AV → AH → Prop} {v1 : Int} {v2 : Int} {v4 : Int} (hd : 9 ≤ d) (L : Ly p h) (H : 0 ≤ (ji h 141 81) ∧ (ji h 141 81) < 2400 ∧ (Ly p (wi (wi h 195 (Int.toNat (ji h 141 81)) (93 : Int)) 141 81 ((ji h 141 81) + 1)) → WF d 185 152 [jP 141, jI v1, jL v2, jU, jI v4] [] (wi (wi h 195 (Int.toNat (ji h 141 81)) (93 : Int)) 141 81 ((ji h 141 81) + 1)) Q)) : WF d 185 146 [jP 141, jI v1, jL v2, jU, jI v4] [] h Q := by
  refine b_185_146 ?_
  refine ⟨(Ly.t141 L :), ?_⟩
  obtain ⟨z1, z2, H⟩ := H
  refine ⟨_, m_182 (d := d) (by omega) L z1 z2, ?_⟩
  exact H (Ly.wi (Ly.wi L (a := 195) (k := Int.toNat (ji h 141 81)) (x := 93) (by decide)) (a := 141) (k := 81) (x := (ji h 141 81) + 1) (by decide))
set_option maxRecDepth 100000 in
theorem c_185_152 {p : Lpar} {d : Nat} {h : AH} {Q : Option AV → AH → Prop} {v1 : Int} {v2 : Int} {v4 : Int} (hd : 9 ≤ d) (L : Ly p h) (H : Q none h) : WF d 185 152 [jP 141, jI v1, jL v2, jU, jI v4] [] h Q := by
  refine b_185_152 ?_
  exact H
set_option maxRecDepth 100000 in
theorem c_186_0 {p : Lpar} {d : Nat} {h : AH} {Q : Option AV → AH → Prop} {v1 : Int} (hd : 9 ≤ d) (L : Ly p h) (H : ∃ x4 h1, jE d 168 [jP 141, jI v1] h (some (jI x4)) h1 ∧ Ly p h1 ∧ (x4 = (0 : Int) → Q (some (jI (-100001))) h1) ∧ (¬ x4 = (0 : Int) → (Ly p (wi h1 141 81 0) → WF d 186 17 [jP 141, jI v1, jU, jU] [] (wi h1 141 81 0) Q))) : WF d 186 0 [jP 141, jI v1, jU, jU] [] h Q := by
  refine b_186_0 ?_
  refine ⟨(Ly.t141 L :), ?_⟩
  obtain ⟨x4, h1, e3, L2, H⟩ := H
  refine ⟨x4, h1, e3, ?_⟩
  refine ⟨fun c5 => ?_, fun c5 => ?_⟩
  · have H := H.2 c5
    refine ⟨(Ly.t141 L2 :), ?_⟩
    exact H (Ly.wi L2 (a := 141) (k := 81) (x := 0) (by decide))
  · have c5 := Decidable.not_not.mp c5
    have H := H.1 c5
    exact H
set_option maxRecDepth 100000 in
theorem c_186_17 {p : Lpar} {d : Nat} {h : AH} {Q : Option AV → AH → Prop} {v1 : Int} {z2 : AV} {z3 : AV} (hd : 9 ≤ d) (L : Ly p h) (H : 0 ≤ v1 ∧ v1 < 40 ∧ 0 ≤ (w32 (30 + (ji h 189 (Int.toNat v1)))) ∧ (w32 (30 + (ji h 189 (Int.toNat v1)))) < 40 ∧ ∃ h5, jE d 183 [jP 141, jI (ji h 176 (Int.toNat (w32 (30 + (ji h 189 (Int.toNat v1))))))] h none h5 ∧ Ly p h5 ∧ WF d 186 35 [jP 141, jI v1, z2, z3] [] h5 Q) : WF d 186 17 [jP 141, jI v1, z2, z3] [] h Q := by
  refine b_186_17 ?_
  refine ⟨(Ly.t141 L :), ?_⟩
  rw [show jr h 141 58 = 176 from (Ly.r141_58 L :)]
  refine ⟨(Ly.t141 L :), ?_⟩
  rw [show jr h 141 73 = 189 from (Ly.r141_73 L :)]
  obtain ⟨z1, z2, H⟩ := H
  refine ⟨inA_mk (N := 40) (Ly.t189 L :) (Ly.n189 L :) z1 z2, ?_⟩
  obtain ⟨z3, z4, H⟩ := H
  refine ⟨inA_mk (N := 40) (Ly.t176 L :) (Ly.n176 L :) z3 z4, ?_⟩
  refine ⟨(Ly.t141 L :), ?_⟩
  obtain ⟨h5, e7, L6, H⟩ := H
  refine ⟨h5, e7, ?_⟩
  exact H
set_option maxRecDepth 100000 in
theorem c_186_35 {p : Lpar} {d : Nat} {h : AH} {Q : Option AV → AH → Prop} {v1 : Int} {z2 : AV} {z3 : AV} (hd : 9 ≤ d) (L : Ly p h) (H : 0 ≤ (ji h 141 81) ∧ (ji h 141 81) < 2400 ∧ (Ly p (wi (wi h 195 (Int.toNat (ji h 141 81)) (58 : Int)) 141 81 ((ji h 141 81) + 1)) → WF d 186 41 [jP 141, jI v1, z2, z3] [] (wi (wi h 195 (Int.toNat (ji h 141 81)) (58 : Int)) 141 81 ((ji h 141 81) + 1)) Q)) : WF d 186 35 [jP 141, jI v1, z2, z3] [] h Q := by
  refine b_186_35 ?_
  refine ⟨(Ly.t141 L :), ?_⟩
  obtain ⟨z1, z2, H⟩ := H
  refine ⟨_, m_182 (d := d) (by omega) L z1 z2, ?_⟩
  exact H (Ly.wi (Ly.wi L (a := 195) (k := Int.toNat (ji h 141 81)) (x := 58) (by decide)) (a := 141) (k := 81) (x := (ji h 141 81) + 1) (by decide))
set_option maxRecDepth 100000 in
theorem c_186_41 {p : Lpar} {d : Nat} {h : AH} {Q : Option AV → AH → Prop} {v1 : Int} {z2 : AV} {z3 : AV} (hd : 9 ≤ d) (L : Ly p h) (H : 0 ≤ (ji h 141 81) ∧ (ji h 141 81) < 2400 ∧ (Ly p (wi (wi h 195 (Int.toNat (ji h 141 81)) (32 : Int)) 141 81 ((ji h 141 81) + 1)) → WF d 186 47 [jP 141, jI v1, z2, z3] [] (wi (wi h 195 (Int.toNat (ji h 141 81)) (32 : Int)) 141 81 ((ji h 141 81) + 1)) Q)) : WF d 186 41 [jP 141, jI v1, z2, z3] [] h Q := by
  refine b_186_41 ?_
  refine ⟨(Ly.t141 L :), ?_⟩
  obtain ⟨z1, z2, H⟩ := H
  refine ⟨_, m_182 (d := d) (by omega) L z1 z2, ?_⟩
  exact H (Ly.wi (Ly.wi L (a := 195) (k := Int.toNat (ji h 141 81)) (x := 32) (by decide)) (a := 141) (k := 81) (x := (ji h 141 81) + 1) (by decide))
set_option maxRecDepth 100000 in
theorem c_186_47 {p : Lpar} {d : Nat} {h : AH} {Q : Option AV → AH → Prop} {v1 : Int} {z2 : AV} {z3 : AV} (hd : 9 ≤ d) (L : Ly p h) (H : WF d 186 49 [jP 141, jI v1, jI 1, z3] [] h Q) : WF d 186 47 [jP 141, jI v1, z2, z3] [] h Q := by
  refine b_186_47 ?_
  exact H
set_option maxRecDepth 100000 in
theorem c_186_49 {p : Lpar} {d : Nat} {h : AH} {Q : Option AV → AH → Prop} {v1 : Int} {v2 : Int} {z3 : AV} (hd : 9 ≤ d) (L : Ly p h) (H : WF d 186 51 [jP 141, jI v1, jI v2, jI 0] [] h Q) : WF d 186 49 [jP 141, jI v1, jI v2, z3] [] h Q := by
  refine b_186_49 ?_
  exact H
set_option maxRecDepth 100000 in
theorem c_186_51 {p : Lpar} {d : Nat} {h : AH} {Q : Option AV → AH → Prop} {v1 : Int} {v2 : Int} {v3 : Int} (hd : 9 ≤ d) (L : Ly p h) (H : ((ji h 141 65) ≤ v3 → (v2 = (0 : Int) → WF d 186 110 [jP 141, jI v1, jI v2, jI v3] [] h Q) ∧ (¬ (v2 = (0 : Int)) → 0 ≤ (ji h 141 81) ∧ (ji h 141 81) < 2400 ∧ (Ly p (wi (wi h 195 (Int.toNat (ji h 141 81)) (48 : Int)) 141 81 ((ji h 141 81) + 1)) → WF d 186 110 [jP 141, jI v1, jI v2, jI v3] [] (wi (wi h 195 (Int.toNat (ji h 141 81)) (48 : Int)) 141 81 ((ji h 141 81) + 1)) Q))) ∧ (¬ ((ji h 141 65) ≤ v3) → 0 ≤ (w32 ((w32 (41 * v1)) + v3)) ∧ (w32 ((w32 (41 * v1)) + v3)) < 1640 ∧ ((jcmp (jl h 193 (Int.toNat (w32 ((w32 (41 * v1)) + v3)))) 0) = (0 : Int) → WF d 186 94 [jP 141, jI v1, jI v2, jI v3] [] h Q) ∧ (¬ ((jcmp (jl h 193 (Int.toNat (w32 ((w32 (41 * v1)) + v3)))) 0) = (0 : Int)) → 0 ≤ (w32 ((w32 (41 * v1)) + v3)) ∧ (w32 ((w32 (41 * v1)) + v3)) < 1640 ∧ ∃ h9, jE d 185 [jP 141, jI v3, jL (jl h 193 (Int.toNat (w32 ((w32 (41 * v1)) + v3)))), jI v2] h none h9 ∧ Ly p h9 ∧ WF d 186 92 [jP 141, jI v1, jI v2, jI v3] [] h9 Q))) : WF d 186 51 [jP 141, jI v1, jI v2, jI v3] [] h Q := by
  refine b_186_51 ?_
  refine ⟨(Ly.t141 L :), ?_⟩
  refine ⟨fun c13 => ?_, fun c13 => ?_⟩
  · have H := H.1 c13
    refine ⟨fun c4 => ?_, fun c4 => ?_⟩
    · have H := H.1 c4
      exact H
    · have H := H.2 c4
      refine ⟨(Ly.t141 L :), ?_⟩
      obtain ⟨z1, z2, H⟩ := H
      refine ⟨_, m_182 (d := d) (by omega) L z1 z2, ?_⟩
      exact H (Ly.wi (Ly.wi L (a := 195) (k := Int.toNat (ji h 141 81)) (x := 48) (by decide)) (a := 141) (k := 81) (x := (ji h 141 81) + 1) (by decide))
  · have H := H.2 c13
    refine ⟨(Ly.t141 L :), ?_⟩
    rw [show jr h 141 77 = 193 from (Ly.r141_77 L :)]
    obtain ⟨z5, z6, H⟩ := H
    refine ⟨inA_mk (N := 1640) (Ly.t193 L :) (Ly.n193 L :) z5 z6, ?_⟩
    refine ⟨fun c12 => ?_, fun c12 => ?_⟩
    · have H := H.1 c12
      exact H
    · have H := H.2 c12
      refine ⟨(Ly.t141 L :), ?_⟩
      obtain ⟨z7, z8, H⟩ := H
      refine ⟨inA_mk (N := 1640) (Ly.t193 L :) (Ly.n193 L :) z7 z8, ?_⟩
      refine ⟨(Ly.t141 L :), ?_⟩
      obtain ⟨h9, e11, L10, H⟩ := H
      refine ⟨h9, e11, ?_⟩
      exact H
set_option maxRecDepth 100000 in
theorem c_186_92 {p : Lpar} {d : Nat} {h : AH} {Q : Option AV → AH → Prop} {v1 : Int} {v2 : Int} {v3 : Int} (hd : 9 ≤ d) (L : Ly p h) (H : WF d 186 94 [jP 141, jI v1, jI 0, jI v3] [] h Q) : WF d 186 92 [jP 141, jI v1, jI v2, jI v3] [] h Q := by
  refine b_186_92 ?_
  exact H
set_option maxRecDepth 100000 in
theorem c_186_94 {p : Lpar} {d : Nat} {h : AH} {Q : Option AV → AH → Prop} {v1 : Int} {v2 : Int} {v3 : Int} (hd : 9 ≤ d) (L : Ly p h) (H : WF d 186 51 [jP 141, jI v1, jI v2, jI (w32 (v3 + 1))] [] h Q) : WF d 186 94 [jP 141, jI v1, jI v2, jI v3] [] h Q := by
  refine b_186_94 ?_
  exact H
set_option maxRecDepth 100000 in
theorem c_186_110 {p : Lpar} {d : Nat} {h : AH} {Q : Option AV → AH → Prop} {v1 : Int} {v2 : Int} {v3 : Int} (hd : 9 ≤ d) (L : Ly p h) (H : 0 ≤ (ji h 141 81) ∧ (ji h 141 81) < 2400 ∧ (Ly p (wi (wi h 195 (Int.toNat (ji h 141 81)) (32 : Int)) 141 81 ((ji h 141 81) + 1)) → WF d 186 116 [jP 141, jI v1, jI v2, jI v3] [] (wi (wi h 195 (Int.toNat (ji h 141 81)) (32 : Int)) 141 81 ((ji h 141 81) + 1)) Q)) : WF d 186 110 [jP 141, jI v1, jI v2, jI v3] [] h Q := by
  refine b_186_110 ?_
  refine ⟨(Ly.t141 L :), ?_⟩
  obtain ⟨z1, z2, H⟩ := H
  refine ⟨_, m_182 (d := d) (by omega) L z1 z2, ?_⟩
  exact H (Ly.wi (Ly.wi L (a := 195) (k := Int.toNat (ji h 141 81)) (x := 32) (by decide)) (a := 141) (k := 81) (x := (ji h 141 81) + 1) (by decide))
set_option maxRecDepth 100000 in
theorem c_186_116 {p : Lpar} {d : Nat} {h : AH} {Q : Option AV → AH → Prop} {v1 : Int} {v2 : Int} {v3 : Int} (hd : 9 ≤ d) (L : Ly p h) (H : 0 ≤ v1 ∧ v1 < 40 ∧ ((ji h 192 (Int.toNat v1)) = (0 : Int) → WF d 186 145 [jP 141, jI v1, jI v2, jI v3] [] h Q) ∧ (¬ ((ji h 192 (Int.toNat v1)) = (0 : Int)) → 0 ≤ v1 ∧ v1 < 40 ∧ (0 ≤ (ji h 192 (Int.toNat v1)) → 0 ≤ (ji h 141 81) ∧ (ji h 141 81) < 2400 ∧ (Ly p (wi (wi h 195 (Int.toNat (ji h 141 81)) (62 : Int)) 141 81 ((ji h 141 81) + 1)) → WF d 186 145 [jP 141, jI v1, jI v2, jI v3] [] (wi (wi h 195 (Int.toNat (ji h 141 81)) (62 : Int)) 141 81 ((ji h 141 81) + 1)) Q)) ∧ (¬ (0 ≤ (ji h 192 (Int.toNat v1))) → 0 ≤ (ji h 141 81) ∧ (ji h 141 81) < 2400 ∧ (Ly p (wi (wi h 195 (Int.toNat (ji h 141 81)) (60 : Int)) 141 81 ((ji h 141 81) + 1)) → WF d 186 145 [jP 141, jI v1, jI v2, jI v3] [] (wi (wi h 195 (Int.toNat (ji h 141 81)) (60 : Int)) 141 81 ((ji h 141 81) + 1)) Q)))) : WF d 186 116 [jP 141, jI v1, jI v2, jI v3] [] h Q := by
  refine b_186_116 ?_
  refine ⟨(Ly.t141 L :), ?_⟩
  rw [show jr h 141 76 = 192 from (Ly.r141_76 L :)]
  obtain ⟨z1, z2, H⟩ := H
  refine ⟨inA_mk (N := 40) (Ly.t192 L :) (Ly.n192 L :) z1 z2, ?_⟩
  refine ⟨fun c12 => ?_, fun c12 => ?_⟩
  · have H := H.1 c12
    exact H
  · have H := H.2 c12
    refine ⟨(Ly.t141 L :), ?_⟩
    obtain ⟨z3, z4, H⟩ := H
    refine ⟨inA_mk (N := 40) (Ly.t192 L :) (Ly.n192 L :) z3 z4, ?_⟩
    refine ⟨fun c11 => ?_, fun c11 => ?_⟩
    · have H := H.1 c11
      refine ⟨(Ly.t141 L :), ?_⟩
      obtain ⟨z5, z6, H⟩ := H
      refine ⟨_, m_182 (d := d) (by omega) L z5 z6, ?_⟩
      exact H (Ly.wi (Ly.wi L (a := 195) (k := Int.toNat (ji h 141 81)) (x := 62) (by decide)) (a := 141) (k := 81) (x := (ji h 141 81) + 1) (by decide))
    · have H := H.2 c11
      refine ⟨(Ly.t141 L :), ?_⟩
      obtain ⟨z8, z9, H⟩ := H
      refine ⟨_, m_182 (d := d) (by omega) L z8 z9, ?_⟩
      exact H (Ly.wi (Ly.wi L (a := 195) (k := Int.toNat (ji h 141 81)) (x := 60) (by decide)) (a := 141) (k := 81) (x := (ji h 141 81) + 1) (by decide))
set_option maxRecDepth 100000 in
theorem c_186_145 {p : Lpar} {d : Nat} {h : AH} {Q : Option AV → AH → Prop} {v1 : Int} {v2 : Int} {v3 : Int} (hd : 9 ≤ d) (L : Ly p h) (H : 0 ≤ (ji h 141 81) ∧ (ji h 141 81) < 2400 ∧ (Ly p (wi (wi h 195 (Int.toNat (ji h 141 81)) (61 : Int)) 141 81 ((ji h 141 81) + 1)) → WF d 186 151 [jP 141, jI v1, jI v2, jI v3] [] (wi (wi h 195 (Int.toNat (ji h 141 81)) (61 : Int)) 141 81 ((ji h 141 81) + 1)) Q)) : WF d 186 145 [jP 141, jI v1, jI v2, jI v3] [] h Q := by
  refine b_186_145 ?_
  refine ⟨(Ly.t141 L :), ?_⟩
  obtain ⟨z1, z2, H⟩ := H
  refine ⟨_, m_182 (d := d) (by omega) L z1 z2, ?_⟩
  exact H (Ly.wi (Ly.wi L (a := 195) (k := Int.toNat (ji h 141 81)) (x := 61) (by decide)) (a := 141) (k := 81) (x := (ji h 141 81) + 1) (by decide))
set_option maxRecDepth 100000 in
theorem c_186_151 {p : Lpar} {d : Nat} {h : AH} {Q : Option AV → AH → Prop} {v1 : Int} {v2 : Int} {v3 : Int} (hd : 9 ≤ d) (L : Ly p h) (H : 0 ≤ (ji h 141 81) ∧ (ji h 141 81) < 2400 ∧ (Ly p (wi (wi h 195 (Int.toNat (ji h 141 81)) (32 : Int)) 141 81 ((ji h 141 81) + 1)) → WF d 186 157 [jP 141, jI v1, jI v2, jI v3] [] (wi (wi h 195 (Int.toNat (ji h 141 81)) (32 : Int)) 141 81 ((ji h 141 81) + 1)) Q)) : WF d 186 151 [jP 141, jI v1, jI v2, jI v3] [] h Q := by
  refine b_186_151 ?_
  refine ⟨(Ly.t141 L :), ?_⟩
  obtain ⟨z1, z2, H⟩ := H
  refine ⟨_, m_182 (d := d) (by omega) L z1 z2, ?_⟩
  exact H (Ly.wi (Ly.wi L (a := 195) (k := Int.toNat (ji h 141 81)) (x := 32) (by decide)) (a := 141) (k := 81) (x := (ji h 141 81) + 1) (by decide))
set_option maxRecDepth 100000 in
theorem c_186_157 {p : Lpar} {d : Nat} {h : AH} {Q : Option AV → AH → Prop} {v1 : Int} {v2 : Int} {v3 : Int} (hd : 9 ≤ d) (L : Ly p h) (H : 0 ≤ (w32 ((w32 (41 * v1)) + 40)) ∧ (w32 ((w32 (41 * v1)) + 40)) < 1640 ∧ (0 ≤ (jcmp (jl h 193 (Int.toNat (w32 ((w32 (41 * v1)) + 40)))) 0) → WF d 186 180 [jP 141, jI v1, jI v2, jI v3] [] h Q) ∧ (¬ (0 ≤ (jcmp (jl h 193 (Int.toNat (w32 ((w32 (41 * v1)) + 40)))) 0)) → 0 ≤ (ji h 141 81) ∧ (ji h 141 81) < 2400 ∧ (Ly p (wi (wi h 195 (Int.toNat (ji h 141 81)) (45 : Int)) 141 81 ((ji h 141 81) + 1)) → WF d 186 180 [jP 141, jI v1, jI v2, jI v3] [] (wi (wi h 195 (Int.toNat (ji h 141 81)) (45 : Int)) 141 81 ((ji h 141 81) + 1)) Q))) : WF d 186 157 [jP 141, jI v1, jI v2, jI v3] [] h Q := by
  refine b_186_157 ?_
  refine ⟨(Ly.t141 L :), ?_⟩
  rw [show jr h 141 77 = 193 from (Ly.r141_77 L :)]
  obtain ⟨z1, z2, H⟩ := H
  refine ⟨inA_mk (N := 1640) (Ly.t193 L :) (Ly.n193 L :) z1 z2, ?_⟩
  refine ⟨fun c6 => ?_, fun c6 => ?_⟩
  · have H := H.1 c6
    exact H
  · have H := H.2 c6
    refine ⟨(Ly.t141 L :), ?_⟩
    obtain ⟨z3, z4, H⟩ := H
    refine ⟨_, m_182 (d := d) (by omega) L z3 z4, ?_⟩
    exact H (Ly.wi (Ly.wi L (a := 195) (k := Int.toNat (ji h 141 81)) (x := 45) (by decide)) (a := 141) (k := 81) (x := (ji h 141 81) + 1) (by decide))
set_option maxRecDepth 100000 in
theorem c_186_180 {p : Lpar} {d : Nat} {h : AH} {Q : Option AV → AH → Prop} {v1 : Int} {v2 : Int} {v3 : Int} (hd : 9 ≤ d) (L : Ly p h) (H : 0 ≤ (w32 ((w32 (41 * v1)) + 40)) ∧ (w32 ((w32 (41 * v1)) + 40)) < 1640 ∧ ∃ h3, jE d 184 [jP 141, jL (jl h 193 (Int.toNat (w32 ((w32 (41 * v1)) + 40))))] h none h3 ∧ Ly p h3 ∧ WF d 186 196 [jP 141, jI v1, jI v2, jI v3] [] h3 Q) : WF d 186 180 [jP 141, jI v1, jI v2, jI v3] [] h Q := by
  refine b_186_180 ?_
  refine ⟨(Ly.t141 L :), ?_⟩
  rw [show jr h 141 77 = 193 from (Ly.r141_77 L :)]
  obtain ⟨z1, z2, H⟩ := H
  refine ⟨inA_mk (N := 1640) (Ly.t193 L :) (Ly.n193 L :) z1 z2, ?_⟩
  refine ⟨(Ly.t141 L :), ?_⟩
  obtain ⟨h3, e5, L4, H⟩ := H
  refine ⟨h3, e5, ?_⟩
  exact H
set_option maxRecDepth 100000 in
theorem c_186_196 {p : Lpar} {d : Nat} {h : AH} {Q : Option AV → AH → Prop} {v1 : Int} {v2 : Int} {v3 : Int} (hd : 9 ≤ d) (L : Ly p h) (H : 0 ≤ (ji h 141 81) ∧ (ji h 141 81) < 2400 ∧ (Ly p (wi (wi h 195 (Int.toNat (ji h 141 81)) (59 : Int)) 141 81 ((ji h 141 81) + 1)) → WF d 186 202 [jP 141, jI v1, jI v2, jI v3] [] (wi (wi h 195 (Int.toNat (ji h 141 81)) (59 : Int)) 141 81 ((ji h 141 81) + 1)) Q)) : WF d 186 196 [jP 141, jI v1, jI v2, jI v3] [] h Q := by
  refine b_186_196 ?_
  refine ⟨(Ly.t141 L :), ?_⟩
  obtain ⟨z1, z2, H⟩ := H
  refine ⟨_, m_182 (d := d) (by omega) L z1 z2, ?_⟩
  exact H (Ly.wi (Ly.wi L (a := 195) (k := Int.toNat (ji h 141 81)) (x := 59) (by decide)) (a := 141) (k := 81) (x := (ji h 141 81) + 1) (by decide))
set_option maxRecDepth 100000 in
theorem c_186_202 {p : Lpar} {d : Nat} {h : AH} {Q : Option AV → AH → Prop} {v1 : Int} {v2 : Int} {v3 : Int} (hd : 9 ≤ d) (L : Ly p h) (H : Q (some (jI (ji h 141 81))) h) : WF d 186 202 [jP 141, jI v1, jI v2, jI v3] [] h Q := by
  refine b_186_202 ?_
  refine ⟨(Ly.t141 L :), ?_⟩
  exact H
