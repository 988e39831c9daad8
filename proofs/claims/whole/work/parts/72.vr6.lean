-- conditions
set_option maxRecDepth 100000 in
theorem c_133_0 {p : Lpar} {d : Nat} {h : AH} {Q : Option AV → AH → Prop}  (hd : 9 ≤ d) (L : Ly p h) (H : ∃ h1, jE d 118 [jP 141] h none h1 ∧ Ly p h1 ∧ WF d 133 4 [jP 141, jU, jU, jU, jU] [] h1 Q) : WF d 133 0 [jP 141, jU, jU, jU, jU] [] h Q := by
  refine b_133_0 ?_
  refine ⟨(Ly.t141 L :), ?_⟩
  obtain ⟨h1, e3, L2, H⟩ := H
  refine ⟨h1, e3, ?_⟩
  exact H
set_option maxRecDepth 100000 in
theorem c_133_4 {p : Lpar} {d : Nat} {h : AH} {Q : Option AV → AH → Prop} {z1 : AV} {z2 : AV} {z3 : AV} {z4 : AV} (hd : 9 ≤ d) (L : Ly p h) (H : ((ji h 141 20) = 10 → ((ji h 141 6) = -1 → (Ly p (wi h 141 6 (ji h 141 3)) → WF d 133 21 [jP 141, z1, z2, z3, z4] [] (wi h 141 6 (ji h 141 3)) Q)) ∧ (¬ ((ji h 141 6) = -1) → (Ly p (wi h 141 6 (ji h 141 6)) → WF d 133 21 [jP 141, z1, z2, z3, z4] [] (wi h 141 6 (ji h 141 6)) Q))) ∧ (¬ (ji h 141 20) = 10 → WF d 133 21 [jP 141, z1, z2, z3, z4] [] h Q)) : WF d 133 4 [jP 141, z1, z2, z3, z4] [] h Q := by
  refine b_133_4 ?_
  refine ⟨(Ly.t141 L :), ?_⟩
  refine ⟨fun c2 => ?_, fun c2 => ?_⟩
  · have H := H.2 c2
    exact H
  · have c2 := Decidable.not_not.mp c2
    have H := H.1 c2
    refine ⟨(Ly.t141 L :), ?_⟩
    refine ⟨(Ly.t141 L :), ?_⟩
    by_cases c1 : (ji h 141 6) = -1
    · have H := H.1 c1
      refine ⟨_, m_119y (d := d) (by omega) L c1, ?_⟩
      exact H (Ly.wi L (a := 141) (k := 6) (x := ji h 141 3) (by decide))
    · have H := H.2 c1
      refine ⟨_, m_119n (d := d) (by omega) L c1, ?_⟩
      exact H (Ly.wi L (a := 141) (k := 6) (x := ji h 141 6) (by decide))
set_option maxRecDepth 100000 in
theorem c_133_21 {p : Lpar} {d : Nat} {h : AH} {Q : Option AV → AH → Prop} {z1 : AV} {z2 : AV} {z3 : AV} {z4 : AV} (hd : 9 ≤ d) (L : Ly p h) (H : ∃ x4 h1, jE d 124 [jP 141] h (some (jI x4)) h1 ∧ Ly p h1 ∧ WF d 133 26 [jP 141, jI x4, z2, z3, z4] [] h1 Q) : WF d 133 21 [jP 141, z1, z2, z3, z4] [] h Q := by
  refine b_133_21 ?_
  refine ⟨(Ly.t141 L :), ?_⟩
  obtain ⟨x4, h1, e3, L2, H⟩ := H
  refine ⟨x4, h1, e3, ?_⟩
  exact H
set_option maxRecDepth 100000 in
theorem c_133_26 {p : Lpar} {d : Nat} {h : AH} {Q : Option AV → AH → Prop} {v1 : Int} {z2 : AV} {z3 : AV} {z4 : AV} (hd : 9 ≤ d) (L : Ly p h) (H : ((ji h 141 6) = -1 → WF d 133 39 [jP 141, jI v1, jI (ji h 141 20), z3, z4] [] h Q) ∧ (¬ ((ji h 141 6) = -1) → Q none h)) : WF d 133 26 [jP 141, jI v1, z2, z3, z4] [] h Q := by
  refine b_133_26 ?_
  refine ⟨(Ly.t141 L :), ?_⟩
  by_cases c1 : (ji h 141 6) = -1
  · have H := H.1 c1
    refine ⟨1, _, by have := m_122 (d := d) (by omega) L; rw [if_pos c1] at this; exact this, ?_⟩
    refine ⟨fun _ => ?_, fun c => absurd (by decide) c⟩
    refine ⟨(Ly.t141 L :), ?_⟩
    exact H
  · have H := H.2 c1
    refine ⟨0, _, by have := m_122 (d := d) (by omega) L; rw [if_neg c1] at this; exact this, ?_⟩
    refine ⟨fun c => absurd c (by decide), fun _ => ?_⟩
    exact H
set_option maxRecDepth 100000 in
theorem c_133_39 {p : Lpar} {d : Nat} {h : AH} {Q : Option AV → AH → Prop} {v1 : Int} {v2 : Int} {z3 : AV} {z4 : AV} (hd : 9 ≤ d) (L : Ly p h) (H : 0 ≤ v2 ∧ v2 < 10 ∧ (Ly p (wi h 153 (Int.toNat v2) v1) → WF d 133 46 [jP 141, jI v1, jI v2, z3, z4] [] (wi h 153 (Int.toNat v2) v1) Q)) : WF d 133 39 [jP 141, jI v1, jI v2, z3, z4] [] h Q := by
  refine b_133_39 ?_
  refine ⟨(Ly.t141 L :), ?_⟩
  rw [show jr h 141 21 = 153 from (Ly.r141_21 L :)]
  obtain ⟨z1, z2, H⟩ := H
  refine ⟨inW_mk (N := 10) (Ly.t153 L :) (Ly.n153 L :) z1 z2, ?_⟩
  exact H (Ly.wi L (a := 153) (k := Int.toNat v2) (x := v1) (by decide))
set_option maxRecDepth 100000 in
theorem c_133_46 {p : Lpar} {d : Nat} {h : AH} {Q : Option AV → AH → Prop} {v1 : Int} {v2 : Int} {z3 : AV} {z4 : AV} (hd : 9 ≤ d) (L : Ly p h) (H : (Ly p (wi h 141 20 (w32 ((ji h 141 20) + 1))) → WF d 133 56 [jP 141, jI v1, jI v2, z3, z4] [] (wi h 141 20 (w32 ((ji h 141 20) + 1))) Q)) : WF d 133 46 [jP 141, jI v1, jI v2, z3, z4] [] h Q := by
  refine b_133_46 ?_
  refine ⟨(Ly.t141 L :), ?_⟩
  refine ⟨(Ly.t141 L :), ?_⟩
  exact H (Ly.wi L (a := 141) (k := 20) (x := w32 ((ji h 141 20) + 1)) (by decide))
set_option maxRecDepth 100000 in
theorem c_133_56 {p : Lpar} {d : Nat} {h : AH} {Q : Option AV → AH → Prop} {v1 : Int} {v2 : Int} {z3 : AV} {z4 : AV} (hd : 9 ≤ d) (L : Ly p h) (H : (Ly p (wi h 141 30 0) → WF d 133 61 [jP 141, jI v1, jI v2, z3, z4] [] (wi h 141 30 0) Q)) : WF d 133 56 [jP 141, jI v1, jI v2, z3, z4] [] h Q := by
  refine b_133_56 ?_
  refine ⟨(Ly.t141 L :), ?_⟩
  exact H (Ly.wi L (a := 141) (k := 30) (x := 0) (by decide))
set_option maxRecDepth 100000 in
theorem c_133_61 {p : Lpar} {d : Nat} {h : AH} {Q : Option AV → AH → Prop} {v1 : Int} {v2 : Int} {z3 : AV} {z4 : AV} (hd : 9 ≤ d) (L : Ly p h) (H : 0 ≤ (w32 (2 * v2)) ∧ (w32 (2 * v2)) < 20 ∧ (Ly p (wi h 154 (Int.toNat (w32 (2 * v2))) (-1 : Int)) → WF d 133 70 [jP 141, jI v1, jI v2, z3, z4] [] (wi h 154 (Int.toNat (w32 (2 * v2))) (-1 : Int)) Q)) : WF d 133 61 [jP 141, jI v1, jI v2, z3, z4] [] h Q := by
  refine b_133_61 ?_
  refine ⟨(Ly.t141 L :), ?_⟩
  rw [show jr h 141 22 = 154 from (Ly.r141_22 L :)]
  obtain ⟨z1, z2, H⟩ := H
  refine ⟨inW_mk (N := 20) (Ly.t154 L :) (Ly.n154 L :) z1 z2, ?_⟩
  exact H (Ly.wi L (a := 154) (k := Int.toNat (w32 (2 * v2))) (x := (-1)) (by decide))
set_option maxRecDepth 100000 in
theorem c_133_70 {p : Lpar} {d : Nat} {h : AH} {Q : Option AV → AH → Prop} {v1 : Int} {v2 : Int} {z3 : AV} {z4 : AV} (hd : 9 ≤ d) (L : Ly p h) (H : 0 ≤ (w32 ((w32 (2 * v2)) + 1)) ∧ (w32 ((w32 (2 * v2)) + 1)) < 20 ∧ (Ly p (wi h 154 (Int.toNat (w32 ((w32 (2 * v2)) + 1))) (-1 : Int)) → WF d 133 81 [jP 141, jI v1, jI v2, z3, z4] [] (wi h 154 (Int.toNat (w32 ((w32 (2 * v2)) + 1))) (-1 : Int)) Q)) : WF d 133 70 [jP 141, jI v1, jI v2, z3, z4] [] h Q := by
  refine b_133_70 ?_
  refine ⟨(Ly.t141 L :), ?_⟩
  rw [show jr h 141 22 = 154 from (Ly.r141_22 L :)]
  obtain ⟨z1, z2, H⟩ := H
  refine ⟨inW_mk (N := 20) (Ly.t154 L :) (Ly.n154 L :) z1 z2, ?_⟩
  exact H (Ly.wi L (a := 154) (k := Int.toNat (w32 ((w32 (2 * v2)) + 1))) (x := (-1)) (by decide))
set_option maxRecDepth 100000 in
theorem c_133_81 {p : Lpar} {d : Nat} {h : AH} {Q : Option AV → AH → Prop} {v1 : Int} {v2 : Int} {z3 : AV} {z4 : AV} (hd : 9 ≤ d) (L : Ly p h) (H : ((ji h 141 2) = 19 → ∃ h5, jE d 118 [jP 141] h none h5 ∧ Ly p h5 ∧ WF d 133 94 [jP 141, jI v1, jI v2, z3, z4] [] h5 Q) ∧ (¬ (ji h 141 2) = 19 → ∃ x4 h1, jE d 121 [jP 141, jI 58] h (some (jI x4)) h1 ∧ Ly p h1 ∧ WF d 133 139 [jP 141, jI v1, jI v2, z3, z4] [] h1 Q)) : WF d 133 81 [jP 141, jI v1, jI v2, z3, z4] [] h Q := by
  refine b_133_81 ?_
  refine ⟨(Ly.t141 L :), ?_⟩
  refine ⟨fun c8 => ?_, fun c8 => ?_⟩
  · have H := H.2 c8
    refine ⟨(Ly.t141 L :), ?_⟩
    obtain ⟨x4, h1, e3, L2, H⟩ := H
    refine ⟨x4, h1, e3, ?_⟩
    exact H
  · have c8 := Decidable.not_not.mp c8
    have H := H.1 c8
    refine ⟨(Ly.t141 L :), ?_⟩
    obtain ⟨h5, e7, L6, H⟩ := H
    refine ⟨h5, e7, ?_⟩
    exact H
set_option maxRecDepth 100000 in
theorem c_133_94 {p : Lpar} {d : Nat} {h : AH} {Q : Option AV → AH → Prop} {v1 : Int} {v2 : Int} {z3 : AV} {z4 : AV} (hd : 9 ≤ d) (L : Ly p h) (H : ∃ x4 h1, jE d 132 [jP 141] h (some (jI x4)) h1 ∧ Ly p h1 ∧ WF d 133 99 [jP 141, jI v1, jI v2, jI x4, z4] [] h1 Q) : WF d 133 94 [jP 141, jI v1, jI v2, z3, z4] [] h Q := by
  refine b_133_94 ?_
  refine ⟨(Ly.t141 L :), ?_⟩
  obtain ⟨x4, h1, e3, L2, H⟩ := H
  refine ⟨x4, h1, e3, ?_⟩
  exact H
set_option maxRecDepth 100000 in
theorem c_133_99 {p : Lpar} {d : Nat} {h : AH} {Q : Option AV → AH → Prop} {v1 : Int} {v2 : Int} {v3 : Int} {z4 : AV} (hd : 9 ≤ d) (L : Ly p h) (H : WF d 133 102 [jP 141, jI v1, jI v2, jI v3, jI 0] [] h Q) : WF d 133 99 [jP 141, jI v1, jI v2, jI v3, z4] [] h Q := by
  refine b_133_99 ?_
  exact H
set_option maxRecDepth 100000 in
theorem c_133_102 {p : Lpar} {d : Nat} {h : AH} {Q : Option AV → AH → Prop} {v1 : Int} {v2 : Int} {v3 : Int} {v4 : Int} (hd : 9 ≤ d) (L : Ly p h) (H : (v3 ≤ v4 → ∃ x4 h1, jE d 121 [jP 141, jI 58] h (some (jI x4)) h1 ∧ Ly p h1 ∧ WF d 133 139 [jP 141, jI v1, jI v2, jI v3, jI v4] [] h1 Q) ∧ (¬ (v3 ≤ v4) → 0 ≤ v4 ∧ v4 < 20 ∧ 0 ≤ (w32 ((w32 (2 * v2)) + v4)) ∧ (w32 ((w32 (2 * v2)) + v4)) < 20 ∧ (Ly p (wi h 154 (Int.toNat (w32 ((w32 (2 * v2)) + v4))) (ji h 159 (Int.toNat v4))) → WF d 133 126 [jP 141, jI v1, jI v2, jI v3, jI v4] [] (wi h 154 (Int.toNat (w32 ((w32 (2 * v2)) + v4))) (ji h 159 (Int.toNat v4))) Q))) : WF d 133 102 [jP 141, jI v1, jI v2, jI v3, jI v4] [] h Q := by
  refine b_133_102 ?_
  refine ⟨fun c9 => ?_, fun c9 => ?_⟩
  · have H := H.1 c9
    refine ⟨(Ly.t141 L :), ?_⟩
    obtain ⟨x4, h1, e3, L2, H⟩ := H
    refine ⟨x4, h1, e3, ?_⟩
    exact H
  · have H := H.2 c9
    refine ⟨(Ly.t141 L :), ?_⟩
    rw [show jr h 141 22 = 154 from (Ly.r141_22 L :)]
    refine ⟨(Ly.t141 L :), ?_⟩
    rw [show jr h 141 32 = 159 from (Ly.r141_32 L :)]
    obtain ⟨z5, z6, H⟩ := H
    refine ⟨inA_mk (N := 20) (Ly.t159 L :) (Ly.n159 L :) z5 z6, ?_⟩
    obtain ⟨z7, z8, H⟩ := H
    refine ⟨inW_mk (N := 20) (Ly.t154 L :) (Ly.n154 L :) z7 z8, ?_⟩
    exact H (Ly.wi L (a := 154) (k := Int.toNat (w32 ((w32 (2 * v2)) + v4))) (x := ji h 159 (Int.toNat v4)) (by decide))
set_option maxRecDepth 100000 in
theorem c_133_126 {p : Lpar} {d : Nat} {h : AH} {Q : Option AV → AH → Prop} {v1 : Int} {v2 : Int} {v3 : Int} {v4 : Int} (hd : 9 ≤ d) (L : Ly p h) (H : WF d 133 102 [jP 141, jI v1, jI v2, jI v3, jI (w32 (v4 + 1))] [] h Q) : WF d 133 126 [jP 141, jI v1, jI v2, jI v3, jI v4] [] h Q := by
  refine b_133_126 ?_
  exact H
set_option maxRecDepth 100000 in
theorem c_133_139 {p : Lpar} {d : Nat} {h : AH} {Q : Option AV → AH → Prop} {v1 : Int} {v2 : Int} {z3 : AV} {z4 : AV} (hd : 9 ≤ d) (L : Ly p h) (H : 0 ≤ (w32 (3 * v2)) ∧ (w32 (3 * v2)) < 30 ∧ (Ly p (wi h 156 (Int.toNat (w32 (3 * v2))) (ji h 141 33)) → WF d 133 151 [jP 141, jI v1, jI v2, z3, z4] [] (wi h 156 (Int.toNat (w32 (3 * v2))) (ji h 141 33)) Q)) : WF d 133 139 [jP 141, jI v1, jI v2, z3, z4] [] h Q := by
  refine b_133_139 ?_
  refine ⟨(Ly.t141 L :), ?_⟩
  rw [show jr h 141 24 = 156 from (Ly.r141_24 L :)]
  refine ⟨(Ly.t141 L :), ?_⟩
  obtain ⟨z1, z2, H⟩ := H
  refine ⟨inW_mk (N := 30) (Ly.t156 L :) (Ly.n156 L :) z1 z2, ?_⟩
  exact H (Ly.wi L (a := 156) (k := Int.toNat (w32 (3 * v2))) (x := ji h 141 33) (by decide))
set_option maxRecDepth 100000 in
theorem c_133_151 {p : Lpar} {d : Nat} {h : AH} {Q : Option AV → AH → Prop} {v1 : Int} {v2 : Int} {z3 : AV} {z4 : AV} (hd : 9 ≤ d) (L : Ly p h) (H : ∃ l4 h1, jE d 139 [jP 141] h (some (jL l4)) h1 ∧ Ly p h1 ∧ WF d 133 156 [jP 141, jI v1, jI v2, jL l4, jU] [] h1 Q) : WF d 133 151 [jP 141, jI v1, jI v2, z3, z4] [] h Q := by
  refine b_133_151 ?_
  refine ⟨(Ly.t141 L :), ?_⟩
  obtain ⟨l4, h1, e3, L2, H⟩ := H
  refine ⟨l4, h1, e3, ?_⟩
  exact H
set_option maxRecDepth 100000 in
theorem c_133_156 {p : Lpar} {d : Nat} {h : AH} {Q : Option AV → AH → Prop} {v1 : Int} {v2 : Int} {v3 : Int} (hd : 9 ≤ d) (L : Ly p h) (H : 0 ≤ (w32 ((w32 (3 * v2)) + 1)) ∧ (w32 ((w32 (3 * v2)) + 1)) < 30 ∧ (Ly p (wi h 156 (Int.toNat (w32 ((w32 (3 * v2)) + 1))) (ji h 141 33)) → WF d 133 170 [jP 141, jI v1, jI v2, jL v3, jU] [] (wi h 156 (Int.toNat (w32 ((w32 (3 * v2)) + 1))) (ji h 141 33)) Q)) : WF d 133 156 [jP 141, jI v1, jI v2, jL v3, jU] [] h Q := by
  refine b_133_156 ?_
  refine ⟨(Ly.t141 L :), ?_⟩
  rw [show jr h 141 24 = 156 from (Ly.r141_24 L :)]
  refine ⟨(Ly.t141 L :), ?_⟩
  obtain ⟨z1, z2, H⟩ := H
  refine ⟨inW_mk (N := 30) (Ly.t156 L :) (Ly.n156 L :) z1 z2, ?_⟩
  exact H (Ly.wi L (a := 156) (k := Int.toNat (w32 ((w32 (3 * v2)) + 1))) (x := ji h 141 33) (by decide))
set_option maxRecDepth 100000 in
theorem c_133_170 {p : Lpar} {d : Nat} {h : AH} {Q : Option AV → AH → Prop} {v1 : Int} {v2 : Int} {v3 : Int} (hd : 9 ≤ d) (L : Ly p h) (H : ((ji h 141 2) = 20 → 0 ≤ v2 ∧ v2 < 10 ∧ (Ly p (wi h 155 (Int.toNat v2) (-1 : Int)) → WF d 133 203 [jP 141, jI v1, jI v2, jL v3, jU] [] (wi h 155 (Int.toNat v2) (-1 : Int)) Q)) ∧ (¬ (ji h 141 2) = 20 → ((ji h 141 2) = 21 → 0 ≤ v2 ∧ v2 < 10 ∧ (Ly p (wi h 155 (Int.toNat v2) (1 : Int)) → WF d 133 203 [jP 141, jI v1, jI v2, jL v3, jU] [] (wi h 155 (Int.toNat v2) (1 : Int)) Q)) ∧ (¬ (ji h 141 2) = 21 → 0 ≤ v2 ∧ v2 < 10 ∧ (Ly p (wi h 155 (Int.toNat v2) (0 : Int)) → WF d 133 203 [jP 141, jI v1, jI v2, jL v3, jU] [] (wi h 155 (Int.toNat v2) (0 : Int)) Q)))) : WF d 133 170 [jP 141, jI v1, jI v2, jL v3, jU] [] h Q := by
  refine b_133_170 ?_
  refine ⟨(Ly.t141 L :), ?_⟩
  rw [show jr h 141 23 = 155 from (Ly.r141_23 L :)]
  refine ⟨(Ly.t141 L :), ?_⟩
  refine ⟨fun c8 => ?_, fun c8 => ?_⟩
  · have H := H.2 c8
    refine ⟨(Ly.t141 L :), ?_⟩
    refine ⟨fun c5 => ?_, fun c5 => ?_⟩
    · have H := H.2 c5
      obtain ⟨z1, z2, H⟩ := H
      refine ⟨inW_mk (N := 10) (Ly.t155 L :) (Ly.n155 L :) z1 z2, ?_⟩
      exact H (Ly.wi L (a := 155) (k := Int.toNat v2) (x := 0) (by decide))
    · have c5 := Decidable.not_not.mp c5
      have H := H.1 c5
      obtain ⟨z3, z4, H⟩ := H
      refine ⟨inW_mk (N := 10) (Ly.t155 L :) (Ly.n155 L :) z3 z4, ?_⟩
      exact H (Ly.wi L (a := 155) (k := Int.toNat v2) (x := 1) (by decide))
  · have c8 := Decidable.not_not.mp c8
    have H := H.1 c8
    obtain ⟨z6, z7, H⟩ := H
    refine ⟨inW_mk (N := 10) (Ly.t155 L :) (Ly.n155 L :) z6 z7, ?_⟩
    exact H (Ly.wi L (a := 155) (k := Int.toNat v2) (x := (-1)) (by decide))
set_option maxRecDepth 100000 in
theorem c_133_203 {p : Lpar} {d : Nat} {h : AH} {Q : Option AV → AH → Prop} {v1 : Int} {v2 : Int} {v3 : Int} (hd : 9 ≤ d) (L : Ly p h) (H : ((ji h 141 6) = -1 → ((ji h 141 2) = 20 → WF d 133 246 [jP 141, jI v1, jI v2, jL v3, jU] [] h Q) ∧ (¬ ((ji h 141 2) = 20) → ((ji h 141 2) = 21 → WF d 133 246 [jP 141, jI v1, jI v2, jL v3, jU] [] h Q) ∧ (¬ ((ji h 141 2) = 21) → ((ji h 141 2) = 161 → WF d 133 246 [jP 141, jI v1, jI v2, jL v3, jU] [] h Q) ∧ (¬ ((ji h 141 2) = 161) → ((ji h 141 6) = -1 → (Ly p (wi h 141 6 (ji h 141 3)) → WF d 133 246 [jP 141, jI v1, jI v2, jL v3, jU] [] (wi h 141 6 (ji h 141 3)) Q)) ∧ (¬ ((ji h 141 6) = -1) → (Ly p (wi h 141 6 (ji h 141 6)) → WF d 133 246 [jP 141, jI v1, jI v2, jL v3, jU] [] (wi h 141 6 (ji h 141 6)) Q)))))) ∧ (¬ ((ji h 141 6) = -1) → WF d 133 246 [jP 141, jI v1, jI v2, jL v3, jU] [] h Q)) : WF d 133 203 [jP 141, jI v1, jI v2, jL v3, jU] [] h Q := by
  refine b_133_203 ?_
  refine ⟨(Ly.t141 L :), ?_⟩
  by_cases c1 : (ji h 141 6) = -1
  · have H := H.1 c1
    refine ⟨1, _, by have := m_122 (d := d) (by omega) L; rw [if_pos c1] at this; exact this, ?_⟩
    refine ⟨fun c => absurd c (by decide), fun _ => ?_⟩
    refine ⟨(Ly.t141 L :), ?_⟩
    refine ⟨fun c5 => ?_, fun c5 => ?_⟩
    · have H := H.1 c5
      exact H
    · have H := H.2 c5
      refine ⟨(Ly.t141 L :), ?_⟩
      refine ⟨fun c4 => ?_, fun c4 => ?_⟩
      · have H := H.1 c4
        exact H
      · have H := H.2 c4
        refine ⟨(Ly.t141 L :), ?_⟩
        refine ⟨fun c3 => ?_, fun c3 => ?_⟩
        · have H := H.1 c3
          exact H
        · have H := H.2 c3
          refine ⟨(Ly.t141 L :), ?_⟩
          refine ⟨(Ly.t141 L :), ?_⟩
          by_cases c2 : (ji h 141 6) = -1
          · have H := H.1 c2
            refine ⟨_, m_119y (d := d) (by omega) L c2, ?_⟩
            exact H (Ly.wi L (a := 141) (k := 6) (x := ji h 141 3) (by decide))
          · have H := H.2 c2
            refine ⟨_, m_119n (d := d) (by omega) L c2, ?_⟩
            exact H (Ly.wi L (a := 141) (k := 6) (x := ji h 141 6) (by decide))
  · have H := H.2 c1
    refine ⟨0, _, by have := m_122 (d := d) (by omega) L; rw [if_neg c1] at this; exact this, ?_⟩
    refine ⟨fun _ => ?_, fun c => absurd (by decide) c⟩
    exact H
set_option maxRecDepth 100000 in
theorem c_133_246 {p : Lpar} {d : Nat} {h : AH} {Q : Option AV → AH → Prop} {v1 : Int} {v2 : Int} {v3 : Int} (hd : 9 ≤ d) (L : Ly p h) (H : ((ji h 141 6) = -1 → ∃ h2, jE d 118 [jP 141] h none h2 ∧ Ly p h2 ∧ WF d 133 257 [jP 141, jI v1, jI v2, jL v3, jU] [] h2 Q) ∧ (¬ ((ji h 141 6) = -1) → WF d 133 257 [jP 141, jI v1, jI v2, jL v3, jU] [] h Q)) : WF d 133 246 [jP 141, jI v1, jI v2, jL v3, jU] [] h Q := by
  refine b_133_246 ?_
  refine ⟨(Ly.t141 L :), ?_⟩
  by_cases c1 : (ji h 141 6) = -1
  · have H := H.1 c1
    refine ⟨1, _, by have := m_122 (d := d) (by omega) L; rw [if_pos c1] at this; exact this, ?_⟩
    refine ⟨fun c => absurd c (by decide), fun _ => ?_⟩
    refine ⟨(Ly.t141 L :), ?_⟩
    obtain ⟨h2, e4, L3, H⟩ := H
    refine ⟨h2, e4, ?_⟩
    exact H
  · have H := H.2 c1
    refine ⟨0, _, by have := m_122 (d := d) (by omega) L; rw [if_neg c1] at this; exact this, ?_⟩
    refine ⟨fun _ => ?_, fun c => absurd (by decide) c⟩
    exact H
set_option maxRecDepth 100000 in
theorem c_133_257 {p : Lpar} {d : Nat} {h : AH} {Q : Option AV → AH → Prop} {v1 : Int} {v2 : Int} {v3 : Int} (hd : 9 ≤ d) (L : Ly p h) (H : ∃ l4 h1, jE d 139 [jP 141] h (some (jL l4)) h1 ∧ Ly p h1 ∧ WF d 133 264 [jP 141, jI v1, jI v2, jL (w64 (v3 + l4)), jU] [] h1 Q) : WF d 133 257 [jP 141, jI v1, jI v2, jL v3, jU] [] h Q := by
  refine b_133_257 ?_
  refine ⟨(Ly.t141 L :), ?_⟩
  obtain ⟨l4, h1, e3, L2, H⟩ := H
  refine ⟨l4, h1, e3, ?_⟩
  exact H
set_option maxRecDepth 100000 in
theorem c_133_264 {p : Lpar} {d : Nat} {h : AH} {Q : Option AV → AH → Prop} {v1 : Int} {v2 : Int} {v3 : Int} (hd : 9 ≤ d) (L : Ly p h) (H : 0 ≤ (w32 ((w32 (3 * v2)) + 2)) ∧ (w32 ((w32 (3 * v2)) + 2)) < 30 ∧ (Ly p (wi h 156 (Int.toNat (w32 ((w32 (3 * v2)) + 2))) (ji h 141 33)) → WF d 133 278 [jP 141, jI v1, jI v2, jL v3, jU] [] (wi h 156 (Int.toNat (w32 ((w32 (3 * v2)) + 2))) (ji h 141 33)) Q)) : WF d 133 264 [jP 141, jI v1, jI v2, jL v3, jU] [] h Q := by
  refine b_133_264 ?_
  refine ⟨(Ly.t141 L :), ?_⟩
  rw [show jr h 141 24 = 156 from (Ly.r141_24 L :)]
  refine ⟨(Ly.t141 L :), ?_⟩
  obtain ⟨z1, z2, H⟩ := H
  refine ⟨inW_mk (N := 30) (Ly.t156 L :) (Ly.n156 L :) z1 z2, ?_⟩
  exact H (Ly.wi L (a := 156) (k := Int.toNat (w32 ((w32 (3 * v2)) + 2))) (x := ji h 141 33) (by decide))
set_option maxRecDepth 100000 in
theorem c_133_278 {p : Lpar} {d : Nat} {h : AH} {Q : Option AV → AH → Prop} {v1 : Int} {v2 : Int} {v3 : Int} (hd : 9 ≤ d) (L : Ly p h) (H : 0 ≤ v2 ∧ v2 < 10 ∧ (Ly p (wl h 157 (Int.toNat v2) v3) → WF d 133 285 [jP 141, jI v1, jI v2, jL v3, jU] [] (wl h 157 (Int.toNat v2) v3) Q)) : WF d 133 278 [jP 141, jI v1, jI v2, jL v3, jU] [] h Q := by
  refine b_133_278 ?_
  refine ⟨(Ly.t141 L :), ?_⟩
  rw [show jr h 141 25 = 157 from (Ly.r141_25 L :)]
  obtain ⟨z1, z2, H⟩ := H
  refine ⟨inW_mk (N := 10) (Ly.t157 L :) (Ly.n157 L :) z1 z2, ?_⟩
  exact H (Ly.wl L (a := 157) (k := Int.toNat v2) (x := v3))
set_option maxRecDepth 100000 in
theorem c_133_285 {p : Lpar} {d : Nat} {h : AH} {Q : Option AV → AH → Prop} {v1 : Int} {v2 : Int} {v3 : Int} (hd : 9 ≤ d) (L : Ly p h) (H : ∃ x4 h1, jE d 121 [jP 141, jI 59] h (some (jI x4)) h1 ∧ Ly p h1 ∧ WF d 133 292 [jP 141, jI v1, jI v2, jL v3, jU] [] h1 Q) : WF d 133 285 [jP 141, jI v1, jI v2, jL v3, jU] [] h Q := by
  refine b_133_285 ?_
  refine ⟨(Ly.t141 L :), ?_⟩
  obtain ⟨x4, h1, e3, L2, H⟩ := H
  refine ⟨x4, h1, e3, ?_⟩
  exact H
set_option maxRecDepth 100000 in
theorem c_133_292 {p : Lpar} {d : Nat} {h : AH} {Q : Option AV → AH → Prop} {v1 : Int} {v2 : Int} {v3 : Int} (hd : 9 ≤ d) (L : Ly p h) (H : (Ly p (wi h 141 30 0) → WF d 133 297 [jP 141, jI v1, jI v2, jL v3, jU] [] (wi h 141 30 0) Q)) : WF d 133 292 [jP 141, jI v1, jI v2, jL v3, jU] [] h Q := by
  refine b_133_292 ?_
  refine ⟨(Ly.t141 L :), ?_⟩
  exact H (Ly.wi L (a := 141) (k := 30) (x := 0) (by decide))
set_option maxRecDepth 100000 in
theorem c_133_297 {p : Lpar} {d : Nat} {h : AH} {Q : Option AV → AH → Prop} {v1 : Int} {v2 : Int} {v3 : Int} (hd : 9 ≤ d) (L : Ly p h) (H : Q none h) : WF d 133 297 [jP 141, jI v1, jI v2, jL v3, jU] [] h Q := by
  refine b_133_297 ?_
  exact H
set_option maxRecDepth 100000 in
theorem c_134_0 {p : Lpar} {d : Nat} {h : AH} {Q : Option AV → AH → Prop}  (hd : 9 ≤ d) (L : Ly p h) (H : ((ji h 141 26) ≤ 0 → ∃ h1, jE d 118 [jP 141] h none h1 ∧ Ly p h1 ∧ WF d 134 20 [jP 141] [] h1 Q) ∧ (¬ ((ji h 141 26) ≤ 0) → ((ji h 141 6) = -1 → (Ly p (wi h 141 6 (ji h 141 3)) → WF d 134 15 [jP 141] [] (wi h 141 6 (ji h 141 3)) Q)) ∧ (¬ ((ji h 141 6) = -1) → (Ly p (wi h 141 6 (ji h 141 6)) → WF d 134 15 [jP 141] [] (wi h 141 6 (ji h 141 6)) Q)))) : WF d 134 0 [jP 141] [] h Q := by
  refine b_134_0 ?_
  refine ⟨(Ly.t141 L :), ?_⟩
  refine ⟨fun c5 => ?_, fun c5 => ?_⟩
  · have H := H.1 c5
    refine ⟨(Ly.t141 L :), ?_⟩
    obtain ⟨h1, e3, L2, H⟩ := H
    refine ⟨h1, e3, ?_⟩
    exact H
  · have H := H.2 c5
    refine ⟨(Ly.t141 L :), ?_⟩
    refine ⟨(Ly.t141 L :), ?_⟩
    by_cases c4 : (ji h 141 6) = -1
    · have H := H.1 c4
      refine ⟨_, m_119y (d := d) (by omega) L c4, ?_⟩
      exact H (Ly.wi L (a := 141) (k := 6) (x := ji h 141 3) (by decide))
    · have H := H.2 c4
      refine ⟨_, m_119n (d := d) (by omega) L c4, ?_⟩
      exact H (Ly.wi L (a := 141) (k := 6) (x := ji h 141 6) (by decide))
set_option maxRecDepth 100000 in
theorem c_134_15 {p : Lpar} {d : Nat} {h : AH} {Q : Option AV → AH → Prop}  (hd : 9 ≤ d) (L : Ly p h) (H : Q none h) : WF d 134 15 [jP 141] [] h Q := by
  refine b_134_15 ?_
  exact H
set_option maxRecDepth 100000 in
theorem c_134_20 {p : Lpar} {d : Nat} {h : AH} {Q : Option AV → AH → Prop}  (hd : 9 ≤ d) (L : Ly p h) (H : ((ji h 141 2) = 15 → ((ji h 141 2) = 15 → (Ly p (wi h 141 26 1) → WF d 134 65 [jP 141] [] (wi h 141 26 1) Q)) ∧ (¬ (ji h 141 2) = 15 → (Ly p (wi h 141 26 2) → WF d 134 65 [jP 141] [] (wi h 141 26 2) Q))) ∧ (¬ ((ji h 141 2) = 15) → ((ji h 141 2) = 16 → ((ji h 141 2) = 15 → (Ly p (wi h 141 26 1) → WF d 134 65 [jP 141] [] (wi h 141 26 1) Q)) ∧ (¬ (ji h 141 2) = 15 → (Ly p (wi h 141 26 2) → WF d 134 65 [jP 141] [] (wi h 141 26 2) Q))) ∧ (¬ ((ji h 141 2) = 16) → ((ji h 141 6) = -1 → (Ly p (wi h 141 6 (ji h 141 3)) → WF d 134 46 [jP 141] [] (wi h 141 6 (ji h 141 3)) Q)) ∧ (¬ ((ji h 141 6) = -1) → (Ly p (wi h 141 6 (ji h 141 6)) → WF d 134 46 [jP 141] [] (wi h 141 6 (ji h 141 6)) Q))))) : WF d 134 20 [jP 141] [] h Q := by
  refine b_134_20 ?_
  refine ⟨(Ly.t141 L :), ?_⟩
  refine ⟨fun c5 => ?_, fun c5 => ?_⟩
  · have H := H.1 c5
    refine ⟨(Ly.t141 L :), ?_⟩
    refine ⟨fun c1 => ?_, fun c1 => ?_⟩
    · have H := H.2 c1
      refine ⟨(Ly.t141 L :), ?_⟩
      exact H (Ly.wi L (a := 141) (k := 26) (x := 2) (by decide))
    · have c1 := Decidable.not_not.mp c1
      have H := H.1 c1
      refine ⟨(Ly.t141 L :), ?_⟩
      exact H (Ly.wi L (a := 141) (k := 26) (x := 1) (by decide))
  · have H := H.2 c5
    refine ⟨(Ly.t141 L :), ?_⟩
    refine ⟨fun c4 => ?_, fun c4 => ?_⟩
    · have H := H.1 c4
      refine ⟨(Ly.t141 L :), ?_⟩
      refine ⟨fun c2 => ?_, fun c2 => ?_⟩
      · have H := H.2 c2
        refine ⟨(Ly.t141 L :), ?_⟩
        exact H (Ly.wi L (a := 141) (k := 26) (x := 2) (by decide))
      · have c2 := Decidable.not_not.mp c2
        have H := H.1 c2
        refine ⟨(Ly.t141 L :), ?_⟩
        exact H (Ly.wi L (a := 141) (k := 26) (x := 1) (by decide))
    · have H := H.2 c4
      refine ⟨(Ly.t141 L :), ?_⟩
      refine ⟨(Ly.t141 L :), ?_⟩
      by_cases c3 : (ji h 141 6) = -1
      · have H := H.1 c3
        refine ⟨_, m_119y (d := d) (by omega) L c3, ?_⟩
        exact H (Ly.wi L (a := 141) (k := 6) (x := ji h 141 3) (by decide))
      · have H := H.2 c3
        refine ⟨_, m_119n (d := d) (by omega) L c3, ?_⟩
        exact H (Ly.wi L (a := 141) (k := 6) (x := ji h 141 6) (by decide))
set_option maxRecDepth 100000 in
theorem c_134_46 {p : Lpar} {d : Nat} {h : AH} {Q : Option AV → AH → Prop}  (hd : 9 ≤ d) (L : Ly p h) (H : Q none h) : WF d 134 46 [jP 141] [] h Q := by
  refine b_134_46 ?_
  exact H
set_option maxRecDepth 100000 in
theorem c_134_65 {p : Lpar} {d : Nat} {h : AH} {Q : Option AV → AH → Prop}  (hd : 9 ≤ d) (L : Ly p h) (H : ∃ h1, jE d 118 [jP 141] h none h1 ∧ Ly p h1 ∧ WF d 134 69 [jP 141] [] h1 Q) : WF d 134 65 [jP 141] [] h Q := by
  refine b_134_65 ?_
  refine ⟨(Ly.t141 L :), ?_⟩
  obtain ⟨h1, e3, L2, H⟩ := H
  refine ⟨h1, e3, ?_⟩
  exact H
set_option maxRecDepth 100000 in
theorem c_134_69 {p : Lpar} {d : Nat} {h : AH} {Q : Option AV → AH → Prop}  (hd : 9 ≤ d) (L : Ly p h) (H : (Ly p (wi h 141 30 0) → WF d 134 74 [jP 141] [] (wi h 141 30 0) Q)) : WF d 134 69 [jP 141] [] h Q := by
  refine b_134_69 ?_
  refine ⟨(Ly.t141 L :), ?_⟩
  exact H (Ly.wi L (a := 141) (k := 30) (x := 0) (by decide))
set_option maxRecDepth 100000 in
theorem c_134_74 {p : Lpar} {d : Nat} {h : AH} {Q : Option AV → AH → Prop}  (hd : 9 ≤ d) (L : Ly p h) (H : (Ly p (wi h 141 27 (ji h 141 33)) → WF d 134 82 [jP 141] [] (wi h 141 27 (ji h 141 33)) Q)) : WF d 134 74 [jP 141] [] h Q := by
  refine b_134_74 ?_
  refine ⟨(Ly.t141 L :), ?_⟩
  refine ⟨(Ly.t141 L :), ?_⟩
  exact H (Ly.wi L (a := 141) (k := 27) (x := ji h 141 33) (by decide))
set_option maxRecDepth 100000 in
theorem c_134_82 {p : Lpar} {d : Nat} {h : AH} {Q : Option AV → AH → Prop}  (hd : 9 ≤ d) (L : Ly p h) (H : ∃ l4 h1, jE d 139 [jP 141] h (some (jL l4)) h1 ∧ Ly p h1 ∧ (Ly p (wl h1 141 29 l4) → WF d 134 90 [jP 141] [] (wl h1 141 29 l4) Q)) : WF d 134 82 [jP 141] [] h Q := by
  refine b_134_82 ?_
  refine ⟨(Ly.t141 L :), ?_⟩
  obtain ⟨l4, h1, e3, L2, H⟩ := H
  refine ⟨l4, h1, e3, ?_⟩
  refine ⟨(Ly.t141 L2 :), ?_⟩
  exact H (Ly.wl L2 (a := 141) (k := 29) (x := l4))
set_option maxRecDepth 100000 in
theorem c_134_90 {p : Lpar} {d : Nat} {h : AH} {Q : Option AV → AH → Prop}  (hd : 9 ≤ d) (L : Ly p h) (H : (Ly p (wi h 141 28 (ji h 141 33)) → WF d 134 98 [jP 141] [] (wi h 141 28 (ji h 141 33)) Q)) : WF d 134 90 [jP 141] [] h Q := by
  refine b_134_90 ?_
  refine ⟨(Ly.t141 L :), ?_⟩
  refine ⟨(Ly.t141 L :), ?_⟩
  exact H (Ly.wi L (a := 141) (k := 28) (x := ji h 141 33) (by decide))
set_option maxRecDepth 100000 in
theorem c_134_98 {p : Lpar} {d : Nat} {h : AH} {Q : Option AV → AH → Prop}  (hd : 9 ≤ d) (L : Ly p h) (H : ∃ x4 h1, jE d 121 [jP 141, jI 59] h (some (jI x4)) h1 ∧ Ly p h1 ∧ WF d 134 105 [jP 141] [] h1 Q) : WF d 134 98 [jP 141] [] h Q := by
  refine b_134_98 ?_
  refine ⟨(Ly.t141 L :), ?_⟩
  obtain ⟨x4, h1, e3, L2, H⟩ := H
  refine ⟨x4, h1, e3, ?_⟩
  exact H
set_option maxRecDepth 100000 in
theorem c_134_105 {p : Lpar} {d : Nat} {h : AH} {Q : Option AV → AH → Prop}  (hd : 9 ≤ d) (L : Ly p h) (H : Q none h) : WF d 134 105 [jP 141] [] h Q := by
  refine b_134_105 ?_
  exact H
set_option maxRecDepth 100000 in
theorem c_135_0 {p : Lpar} {d : Nat} {h : AH} {Q : Option AV → AH → Prop}  (hd : 9 ≤ d) (L : Ly p h) (H : (Ly p (wi (wi (wi (wi (wi (wi (wi (wi (wi h 141 7 0) 141 11 0) 141 15 0) 141 20 0) 141 26 0) 141 30 0) 141 33 0) 141 6 (-1)) 141 4 0) → ∃ h1, jE d 118 [jP 141] (wi (wi (wi (wi (wi (wi (wi (wi (wi h 141 7 0) 141 11 0) 141 15 0) 141 20 0) 141 26 0) 141 30 0) 141 33 0) 141 6 (-1)) 141 4 0) none h1 ∧ Ly p h1 ∧ WF d 135 49 [jP 141] [] h1 Q)) : WF d 135 0 [jP 141] [] h Q := by
  refine b_135_0 ?_
  refine ⟨(Ly.t141 L :), ?_⟩
  refine b_135_5 ?_
  refine ⟨(Ly.t141 L :), ?_⟩
  refine b_135_10 ?_
  refine ⟨(Ly.t141 L :), ?_⟩
  refine b_135_15 ?_
  refine ⟨(Ly.t141 L :), ?_⟩
  refine b_135_20 ?_
  refine ⟨(Ly.t141 L :), ?_⟩
  refine b_135_25 ?_
  refine ⟨(Ly.t141 L :), ?_⟩
  refine b_135_30 ?_
  refine ⟨(Ly.t141 L :), ?_⟩
  refine b_135_35 ?_
  refine ⟨(Ly.t141 L :), ?_⟩
  refine b_135_40 ?_
  refine ⟨(Ly.t141 L :), ?_⟩
  refine b_135_45 ?_
  refine ⟨(Ly.t141 L :), ?_⟩
  have H := H (Ly.wi (Ly.wi (Ly.wi (Ly.wi (Ly.wi (Ly.wi (Ly.wi (Ly.wi (Ly.wi L (a := 141) (k := 7) (x := 0) (by decide)) (a := 141) (k := 11) (x := 0) (by decide)) (a := 141) (k := 15) (x := 0) (by decide)) (a := 141) (k := 20) (x := 0) (by decide)) (a := 141) (k := 26) (x := 0) (by decide)) (a := 141) (k := 30) (x := 0) (by decide)) (a := 141) (k := 33) (x := 0) (by decide)) (a := 141) (k := 6) (x := (-1)) (by decide)) (a := 141) (k := 4) (x := 0) (by decide))
  obtain ⟨h1, e3, L2, H⟩ := H
  refine ⟨h1, e3, ?_⟩
  exact H
set_option maxRecDepth 100000 in
theorem c_135_49 {p : Lpar} {d : Nat} {h : AH} {Q : Option AV → AH → Prop}  (hd : 9 ≤ d) (L : Ly p h) (H : ((ji h 141 6) = -1 → ((ji h 141 2) = 3 → Q none h) ∧ (¬ ((ji h 141 2) = 3) → (((ji h 141 2) < 10 ∨ 14 < (ji h 141 2)) → ((ji h 141 6) = -1 → (Ly p (wi h 141 6 (ji h 141 3)) → WF d 135 49 [jP 141] [] (wi h 141 6 (ji h 141 3)) Q)) ∧ (¬ ((ji h 141 6) = -1) → (Ly p (wi h 141 6 (ji h 141 6)) → WF d 135 49 [jP 141] [] (wi h 141 6 (ji h 141 6)) Q))) ∧ ((ji h 141 2) = 10 → ∃ h4, jE d 129 [jP 141] h none h4 ∧ Ly p h4 ∧ WF d 135 49 [jP 141] [] h4 Q) ∧ ((ji h 141 2) = 11 → ∃ h7, jE d 130 [jP 141] h none h7 ∧ Ly p h7 ∧ WF d 135 49 [jP 141] [] h7 Q) ∧ ((ji h 141 2) = 12 → ∃ h10, jE d 131 [jP 141] h none h10 ∧ Ly p h10 ∧ WF d 135 49 [jP 141] [] h10 Q) ∧ ((ji h 141 2) = 13 → ∃ h13, jE d 133 [jP 141] h none h13 ∧ Ly p h13 ∧ WF d 135 49 [jP 141] [] h13 Q) ∧ ((ji h 141 2) = 14 → ∃ h16, jE d 134 [jP 141] h none h16 ∧ Ly p h16 ∧ WF d 135 49 [jP 141] [] h16 Q))) ∧ (¬ ((ji h 141 6) = -1) → Q none h)) : WF d 135 49 [jP 141] [] h Q := by
  refine b_135_49 ?_
  refine ⟨(Ly.t141 L :), ?_⟩
  by_cases c1 : (ji h 141 6) = -1
  · have H := H.1 c1
    refine ⟨1, _, by have := m_122 (d := d) (by omega) L; rw [if_pos c1] at this; exact this, ?_⟩
    refine ⟨fun c => absurd c (by decide), fun _ => ?_⟩
    refine ⟨(Ly.t141 L :), ?_⟩
    refine ⟨fun c19 => ?_, fun c19 => ?_⟩
    · have H := H.1 c19
      exact H
    · have H := H.2 c19
      refine ⟨(Ly.t141 L :), ?_⟩
      obtain ⟨H0, H1, H2, H3, H4, H5⟩ := H
      refine ⟨fun c2 => ?_, fun c2 => ?_, fun c2 => ?_, fun c2 => ?_, fun c2 => ?_, fun c2 => ?_, trivial⟩
      · have H := H0 c2
        refine b_135_139 ?_
        refine ⟨(Ly.t141 L :), ?_⟩
        refine ⟨(Ly.t141 L :), ?_⟩
        by_cases c3 : (ji h 141 6) = -1
        · have H := H.1 c3
          refine ⟨_, m_119y (d := d) (by omega) L c3, ?_⟩
          refine b_135_147 ?_
          exact H (Ly.wi L (a := 141) (k := 6) (x := ji h 141 3) (by decide))
        · have H := H.2 c3
          refine ⟨_, m_119n (d := d) (by omega) L c3, ?_⟩
          refine b_135_147 ?_
          exact H (Ly.wi L (a := 141) (k := 6) (x := ji h 141 6) (by decide))
      · have H := H1 c2
        refine b_135_104 ?_
        refine ⟨(Ly.t141 L :), ?_⟩
        obtain ⟨h4, e6, L5, H⟩ := H
        refine ⟨h4, e6, ?_⟩
        refine b_135_108 ?_
        exact H
      · have H := H2 c2
        refine b_135_111 ?_
        refine ⟨(Ly.t141 L :), ?_⟩
        obtain ⟨h7, e9, L8, H⟩ := H
        refine ⟨h7, e9, ?_⟩
        refine b_135_115 ?_
        exact H
      · have H := H3 c2
        refine b_135_118 ?_
        refine ⟨(Ly.t141 L :), ?_⟩
        obtain ⟨h10, e12, L11, H⟩ := H
        refine ⟨h10, e12, ?_⟩
        refine b_135_122 ?_
        exact H
      · have H := H4 c2
        refine b_135_125 ?_
        refine ⟨(Ly.t141 L :), ?_⟩
        obtain ⟨h13, e15, L14, H⟩ := H
        refine ⟨h13, e15, ?_⟩
        refine b_135_129 ?_
        exact H
      · have H := H5 c2
        refine b_135_132 ?_
        refine ⟨(Ly.t141 L :), ?_⟩
        obtain ⟨h16, e18, L17, H⟩ := H
        refine ⟨h16, e18, ?_⟩
        refine b_135_136 ?_
        exact H
  · have H := H.2 c1
    refine ⟨0, _, by have := m_122 (d := d) (by omega) L; rw [if_neg c1] at this; exact this, ?_⟩
    refine ⟨fun _ => ?_, fun c => absurd (by decide) c⟩
    exact H
