set_option maxRecDepth 100000 in
theorem c_99_0 {p : Lpar} {d : Nat} {h : AH} {Q : Option AV → AH → Prop} {v1 : Int} (hd : 9 ≤ d) (L : Ly p h) (H : ∃ x4 h1, jE d 61 [jP (pD p + 22), jI v1] h (some (jI x4)) h1 ∧ Ly p h1 ∧ WF d 99 12 [jP 32, jI v1, jI x4, jU, jU] [] h1 Q) : WF d 99 0 [jP 32, jI v1, jU, jU, jU] [] h Q := by
  refine b_99_0 ?_
  refine ⟨(Ly.t32 L :), ?_⟩
  rw [show jr h 32 5 = pD p from (Ly.r32_5 L :)]
  refine ⟨(Ly.dt0 L (Ly.iD L) :), ?_⟩
  rw [show jr h (pD p) 4 = (pD p + 22) from (Ly.dr0_4 L (Ly.iD L) :)]
  refine ⟨(Ly.dt22 L (Ly.iD L) :), ?_⟩
  obtain ⟨x4, h1, e3, L2, H⟩ := H
  refine ⟨x4, h1, e3, ?_⟩
  exact H
set_option maxRecDepth 100000 in
theorem c_99_12 {p : Lpar} {d : Nat} {h : AH} {Q : Option AV → AH → Prop} {v1 : Int} {v2 : Int} {z3 : AV} {z4 : AV} (hd : 9 ≤ d) (L : Ly p h) (H : (v2 = (-1) → Q (some (jI (-100001))) h) ∧ (¬ v2 = (-1) → (Ly p (wi h 35 1 0) → WF d 99 28 [jP 32, jI v1, jI v2, z3, z4] [] (wi h 35 1 0) Q))) : WF d 99 12 [jP 32, jI v1, jI v2, z3, z4] [] h Q := by
  refine b_99_12 ?_
  refine ⟨fun c1 => ?_, fun c1 => ?_⟩
  · have H := H.2 c1
    refine ⟨(Ly.t32 L :), ?_⟩
    rw [show jr h 32 1 = 35 from (Ly.r32_1 L :)]
    refine ⟨(Ly.t35 L :), ?_⟩
    exact H (Ly.wi L (a := 35) (k := 1) (x := 0) (by decide))
  · have c1 := Decidable.not_not.mp c1
    have H := H.1 c1
    exact H
set_option maxRecDepth 100000 in
theorem c_99_28 {p : Lpar} {d : Nat} {h : AH} {Q : Option AV → AH → Prop} {v1 : Int} {v2 : Int} {z3 : AV} {z4 : AV} (hd : 9 ≤ d) (L : Ly p h) (H : ∃ x4 h1, jE d 27 [jP (pD p + 1), jI 3, jI v2] h (some (jI x4)) h1 ∧ Ly p h1 ∧ ∃ h5, jE d 4 [jP 35, jI x4] h1 none h5 ∧ Ly p h5 ∧ WF d 99 47 [jP 32, jI v1, jI v2, z3, z4] [] h5 Q) : WF d 99 28 [jP 32, jI v1, jI v2, z3, z4] [] h Q := by
  refine b_99_28 ?_
  refine ⟨(Ly.t32 L :), ?_⟩
  rw [show jr h 32 1 = 35 from (Ly.r32_1 L :)]
  refine ⟨(Ly.t32 L :), ?_⟩
  rw [show jr h 32 5 = pD p from (Ly.r32_5 L :)]
  refine ⟨(Ly.dt0 L (Ly.iD L) :), ?_⟩
  rw [show jr h (pD p) 0 = (pD p + 1) from (Ly.dr0_0 L (Ly.iD L) :)]
  refine ⟨(Ly.dt1 L (Ly.iD L) :), ?_⟩
  obtain ⟨x4, h1, e3, L2, H⟩ := H
  refine ⟨x4, h1, e3, ?_⟩
  refine ⟨(Ly.t35 L2 :), ?_⟩
  obtain ⟨h5, e7, L6, H⟩ := H
  refine ⟨h5, e7, ?_⟩
  exact H
set_option maxRecDepth 100000 in
theorem c_99_47 {p : Lpar} {d : Nat} {h : AH} {Q : Option AV → AH → Prop} {v1 : Int} {v2 : Int} {z3 : AV} {z4 : AV} (hd : 9 ≤ d) (L : Ly p h) (H : ∃ h1, jE d 3 [jP 35, jP 5] h none h1 ∧ Ly p h1 ∧ WF d 99 56 [jP 32, jI v1, jI v2, z3, z4] [] h1 Q) : WF d 99 47 [jP 32, jI v1, jI v2, z3, z4] [] h Q := by
  refine b_99_47 ?_
  refine ⟨(Ly.t32 L :), ?_⟩
  rw [show jr h 32 1 = 35 from (Ly.r32_1 L :)]
  refine ⟨(Ly.t35 L :), ?_⟩
  obtain ⟨h1, e3, L2, H⟩ := H
  refine ⟨h1, e3, ?_⟩
  exact H
set_option maxRecDepth 100000 in
theorem c_99_56 {p : Lpar} {d : Nat} {h : AH} {Q : Option AV → AH → Prop} {v1 : Int} {v2 : Int} {z3 : AV} {z4 : AV} (hd : 9 ≤ d) (L : Ly p h) (H : WF d 99 58 [jP 32, jI v1, jI v2, jI 1, z4] [] h Q) : WF d 99 56 [jP 32, jI v1, jI v2, z3, z4] [] h Q := by
  refine b_99_56 ?_
  exact H
set_option maxRecDepth 100000 in
theorem c_99_58 {p : Lpar} {d : Nat} {h : AH} {Q : Option AV → AH → Prop} {v1 : Int} {v2 : Int} {v3 : Int} {z4 : AV} (hd : 9 ≤ d) (L : Ly p h) (H : WF d 99 61 [jP 32, jI v1, jI v2, jI v3, jI 0] [] h Q) : WF d 99 58 [jP 32, jI v1, jI v2, jI v3, z4] [] h Q := by
  refine b_99_58 ?_
  exact H
set_option maxRecDepth 100000 in
theorem c_99_61 {p : Lpar} {d : Nat} {h : AH} {Q : Option AV → AH → Prop} {v1 : Int} {v2 : Int} {v3 : Int} {v4 : Int} (hd : 9 ≤ d) (L : Ly p h) (H : ((ji h (pD p + 18) 5) ≤ v4 → (v3 = (0 : Int) → WF d 99 133 [jP 32, jI v1, jI v2, jI v3, jI v4] [] h Q) ∧ (¬ (v3 = (0 : Int)) → ∃ h1, jE d 2 [jP 35, jI 48] h none h1 ∧ Ly p h1 ∧ WF d 99 133 [jP 32, jI v1, jI v2, jI v3, jI v4] [] h1 Q)) ∧ (¬ ((ji h (pD p + 18) 5) ≤ v4) → 0 ≤ v1 ∧ v1 < 40 ∧ 0 ≤ v4 ∧ v4 < 40 ∧ ((jcmp (jl h (97 + Int.toNat v1) (Int.toNat v4)) 0) = (0 : Int) → WF d 99 114 [jP 32, jI v1, jI v2, jI v3, jI v4] [] h Q) ∧ (¬ ((jcmp (jl h (97 + Int.toNat v1) (Int.toNat v4)) 0) = (0 : Int)) → 0 ≤ v1 ∧ v1 < 40 ∧ 0 ≤ v4 ∧ v4 < 40 ∧ ∃ h13, jE d 104 [jP 32, jL (jl h (97 + Int.toNat v1) (Int.toNat v4)), jI v4, jI v3] h none h13 ∧ Ly p h13 ∧ WF d 99 112 [jP 32, jI v1, jI v2, jI v3, jI v4] [] h13 Q))) : WF d 99 61 [jP 32, jI v1, jI v2, jI v3, jI v4] [] h Q := by
  refine b_99_61 ?_
  refine ⟨(Ly.t32 L :), ?_⟩
  rw [show jr h 32 5 = pD p from (Ly.r32_5 L :)]
  refine ⟨(Ly.dt0 L (Ly.iD L) :), ?_⟩
  rw [show jr h (pD p) 3 = (pD p + 18) from (Ly.dr0_3 L (Ly.iD L) :)]
  refine ⟨(Ly.dt18 L (Ly.iD L) :), ?_⟩
  refine ⟨fun c17 => ?_, fun c17 => ?_⟩
  · have H := H.1 c17
    refine ⟨fun c4 => ?_, fun c4 => ?_⟩
    · have H := H.1 c4
      exact H
    · have H := H.2 c4
      refine ⟨(Ly.t32 L :), ?_⟩
      rw [show jr h 32 1 = 35 from (Ly.r32_1 L :)]
      refine ⟨(Ly.t35 L :), ?_⟩
      obtain ⟨h1, e3, L2, H⟩ := H
      refine ⟨h1, e3, ?_⟩
      exact H
  · have H := H.2 c17
    refine ⟨(Ly.t32 L :), ?_⟩
    rw [show jr h 32 4 = 95 from (Ly.r32_4 L :)]
    refine ⟨(Ly.t95 L :), ?_⟩
    rw [show jr h 95 1 = 96 from (Ly.r95_1 L :)]
    obtain ⟨z5, z6, H⟩ := H
    refine ⟨Or.inr (inA_mk (N := 40) (Ly.t96 L :) (Ly.n96 L :) z5 z6), ?_⟩
    rw [show jr h 96 (Int.toNat v1) = (97 + Int.toNat v1) from (Ly.row L (k := Int.toNat v1) (by omega) :)]
    obtain ⟨z7, z8, H⟩ := H
    refine ⟨inA_mk (N := 40) (Ly.trow L (k := Int.toNat v1) (by omega) :) (Ly.nrow L (k := Int.toNat v1) (by omega) :) z7 z8, ?_⟩
    refine ⟨fun c16 => ?_, fun c16 => ?_⟩
    · have H := H.1 c16
      exact H
    · have H := H.2 c16
      refine ⟨(Ly.t32 L :), ?_⟩
      refine ⟨(Ly.t95 L :), ?_⟩
      obtain ⟨z9, z10, H⟩ := H
      refine ⟨Or.inr (inA_mk (N := 40) (Ly.t96 L :) (Ly.n96 L :) z9 z10), ?_⟩
      obtain ⟨z11, z12, H⟩ := H
      refine ⟨inA_mk (N := 40) (Ly.trow L (k := Int.toNat v1) (by omega) :) (Ly.nrow L (k := Int.toNat v1) (by omega) :) z11 z12, ?_⟩
      refine ⟨(Ly.t32 L :), ?_⟩
      obtain ⟨h13, e15, L14, H⟩ := H
      refine ⟨h13, e15, ?_⟩
      exact H
set_option maxRecDepth 100000 in
theorem c_99_112 {p : Lpar} {d : Nat} {h : AH} {Q : Option AV → AH → Prop} {v1 : Int} {v2 : Int} {v3 : Int} {v4 : Int} (hd : 9 ≤ d) (L : Ly p h) (H : WF d 99 114 [jP 32, jI v1, jI v2, jI 0, jI v4] [] h Q) : WF d 99 112 [jP 32, jI v1, jI v2, jI v3, jI v4] [] h Q := by
  refine b_99_112 ?_
  exact H
set_option maxRecDepth 100000 in
theorem c_99_114 {p : Lpar} {d : Nat} {h : AH} {Q : Option AV → AH → Prop} {v1 : Int} {v2 : Int} {v3 : Int} {v4 : Int} (hd : 9 ≤ d) (L : Ly p h) (H : WF d 99 61 [jP 32, jI v1, jI v2, jI v3, jI (w32 (v4 + 1))] [] h Q) : WF d 99 114 [jP 32, jI v1, jI v2, jI v3, jI v4] [] h Q := by
  refine b_99_114 ?_
  exact H
set_option maxRecDepth 100000 in
theorem c_99_133 {p : Lpar} {d : Nat} {h : AH} {Q : Option AV → AH → Prop} {v1 : Int} {v2 : Int} {v3 : Int} {v4 : Int} (hd : 9 ≤ d) (L : Ly p h) (H : 0 ≤ v2 ∧ v2 < 10 ∧ WF d 99 144 [jP 32, jI v1, jI v2, jI v3, jI (ji h (pD p + 11) (Int.toNat v2))] [] h Q) : WF d 99 133 [jP 32, jI v1, jI v2, jI v3, jI v4] [] h Q := by
  refine b_99_133 ?_
  refine ⟨(Ly.t32 L :), ?_⟩
  rw [show jr h 32 5 = pD p from (Ly.r32_5 L :)]
  refine ⟨(Ly.dt0 L (Ly.iD L) :), ?_⟩
  rw [show jr h (pD p) 9 = (pD p + 11) from (Ly.dr0_9 L (Ly.iD L) :)]
  obtain ⟨z1, z2, H⟩ := H
  refine ⟨inA_mk (N := 10) (Ly.dt11 L (Ly.iD L) :) (Ly.dn11 L (Ly.iD L) :) z1 z2, ?_⟩
  exact H
set_option maxRecDepth 100000 in
theorem c_99_144 {p : Lpar} {d : Nat} {h : AH} {Q : Option AV → AH → Prop} {v1 : Int} {v2 : Int} {v3 : Int} {v4 : Int} (hd : 9 ≤ d) (L : Ly p h) (H : (0 ≤ v4 → (v4 = (0 : Int) → ∃ h4, jE d 3 [jP 35, jP 11] h none h4 ∧ Ly p h4 ∧ WF d 99 173 [jP 32, jI v1, jI v2, jI v3, jI v4] [] h4 Q) ∧ (¬ v4 = (0 : Int) → ∃ h1, jE d 3 [jP 35, jP 12] h none h1 ∧ Ly p h1 ∧ WF d 99 173 [jP 32, jI v1, jI v2, jI v3, jI v4] [] h1 Q)) ∧ (¬ (0 ≤ v4) → ∃ h8, jE d 3 [jP 35, jP 10] h none h8 ∧ Ly p h8 ∧ WF d 99 173 [jP 32, jI v1, jI v2, jI v3, jI v4] [] h8 Q)) : WF d 99 144 [jP 32, jI v1, jI v2, jI v3, jI v4] [] h Q := by
  refine b_99_144 ?_
  refine ⟨(Ly.t32 L :), ?_⟩
  rw [show jr h 32 1 = 35 from (Ly.r32_1 L :)]
  refine ⟨fun c11 => ?_, fun c11 => ?_⟩
  · have H := H.1 c11
    refine ⟨fun c7 => ?_, fun c7 => ?_⟩
    · have H := H.2 c7
      refine ⟨(Ly.t35 L :), ?_⟩
      obtain ⟨h1, e3, L2, H⟩ := H
      refine ⟨h1, e3, ?_⟩
      exact H
    · have c7 := Decidable.not_not.mp c7
      have H := H.1 c7
      refine ⟨(Ly.t35 L :), ?_⟩
      obtain ⟨h4, e6, L5, H⟩ := H
      refine ⟨h4, e6, ?_⟩
      exact H
  · have H := H.2 c11
    refine ⟨(Ly.t35 L :), ?_⟩
    obtain ⟨h8, e10, L9, H⟩ := H
    refine ⟨h8, e10, ?_⟩
    exact H
set_option maxRecDepth 100000 in
theorem c_99_173 {p : Lpar} {d : Nat} {h : AH} {Q : Option AV → AH → Prop} {v1 : Int} {v2 : Int} {v3 : Int} {v4 : Int} (hd : 9 ≤ d) (L : Ly p h) (H : 0 ≤ v1 ∧ v1 < 40 ∧ ∃ h3, jE d 105 [jP 32, jL (jl h 137 (Int.toNat v1))] h none h3 ∧ Ly p h3 ∧ WF d 99 186 [jP 32, jI v1, jI v2, jI v3, jI v4] [] h3 Q) : WF d 99 173 [jP 32, jI v1, jI v2, jI v3, jI v4] [] h Q := by
  refine b_99_173 ?_
  refine ⟨(Ly.t32 L :), ?_⟩
  rw [show jr h 32 4 = 95 from (Ly.r32_4 L :)]
  refine ⟨(Ly.t95 L :), ?_⟩
  rw [show jr h 95 2 = 137 from (Ly.r95_2 L :)]
  obtain ⟨z1, z2, H⟩ := H
  refine ⟨inA_mk (N := 40) (Ly.t137 L :) (Ly.n137 L :) z1 z2, ?_⟩
  refine ⟨(Ly.t32 L :), ?_⟩
  obtain ⟨h3, e5, L4, H⟩ := H
  refine ⟨h3, e5, ?_⟩
  exact H
set_option maxRecDepth 100000 in
theorem c_99_186 {p : Lpar} {d : Nat} {h : AH} {Q : Option AV → AH → Prop} {v1 : Int} {v2 : Int} {v3 : Int} {v4 : Int} (hd : 9 ≤ d) (L : Ly p h) (H : Q (some (jI (ji h 35 1))) h) : WF d 99 186 [jP 32, jI v1, jI v2, jI v3, jI v4] [] h Q := by
  refine b_99_186 ?_
  refine ⟨(Ly.t32 L :), ?_⟩
  rw [show jr h 32 1 = 35 from (Ly.r32_1 L :)]
  refine ⟨(Ly.t35 L :), ?_⟩
  exact H
set_option maxRecDepth 100000 in
theorem c_104_0 {p : Lpar} {d : Nat} {h : AH} {Q : Option AV → AH → Prop} {v1 : Int} {v3 : Int} {v4 : Int} (hd : 9 ≤ d) (L : Ly p h) (H : (v4 = (0 : Int) → (0 ≤ (jcmp v1 0) → ∃ h1, jE d 3 [jP 35, jP 9] h none h1 ∧ Ly p h1 ∧ WF d 104 48 [jP 32, jL v1, jU, jI v3, jI v4, jU, jU] [] h1 Q) ∧ (¬ (0 ≤ (jcmp v1 0)) → ∃ h4, jE d 3 [jP 35, jP 8] h none h4 ∧ Ly p h4 ∧ WF d 104 48 [jP 32, jL v1, jU, jI v3, jI v4, jU, jU] [] h4 Q)) ∧ (¬ (v4 = (0 : Int)) → (0 ≤ (jcmp v1 0) → ∃ h8, jE d 3 [jP 35, jP 7] h none h8 ∧ Ly p h8 ∧ WF d 104 25 [jP 32, jL v1, jU, jI v3, jI v4, jU, jU] [] h8 Q) ∧ (¬ (0 ≤ (jcmp v1 0)) → ∃ h11, jE d 3 [jP 35, jP 6] h none h11 ∧ Ly p h11 ∧ WF d 104 25 [jP 32, jL v1, jU, jI v3, jI v4, jU, jU] [] h11 Q))) : WF d 104 0 [jP 32, jL v1, jU, jI v3, jI v4, jU, jU] [] h Q := by
  refine b_104_0 ?_
  refine ⟨fun c15 => ?_, fun c15 => ?_⟩
  · have H := H.1 c15
    refine ⟨(Ly.t32 L :), ?_⟩
    rw [show jr h 32 1 = 35 from (Ly.r32_1 L :)]
    refine ⟨fun c7 => ?_, fun c7 => ?_⟩
    · have H := H.1 c7
      refine ⟨(Ly.t35 L :), ?_⟩
      obtain ⟨h1, e3, L2, H⟩ := H
      refine ⟨h1, e3, ?_⟩
      exact H
    · have H := H.2 c7
      refine ⟨(Ly.t35 L :), ?_⟩
      obtain ⟨h4, e6, L5, H⟩ := H
      refine ⟨h4, e6, ?_⟩
      exact H
  · have H := H.2 c15
    refine ⟨(Ly.t32 L :), ?_⟩
    rw [show jr h 32 1 = 35 from (Ly.r32_1 L :)]
    refine ⟨fun c14 => ?_, fun c14 => ?_⟩
    · have H := H.1 c14
      refine ⟨(Ly.t35 L :), ?_⟩
      obtain ⟨h8, e10, L9, H⟩ := H
      refine ⟨h8, e10, ?_⟩
      exact H
    · have H := H.2 c14
      refine ⟨(Ly.t35 L :), ?_⟩
      obtain ⟨h11, e13, L12, H⟩ := H
      refine ⟨h11, e13, ?_⟩
      exact H
set_option maxRecDepth 100000 in
theorem c_104_25 {p : Lpar} {d : Nat} {h : AH} {Q : Option AV → AH → Prop} {v1 : Int} {v3 : Int} {v4 : Int} {z5 : AV} {z6 : AV} (hd : 9 ≤ d) (L : Ly p h) (H : WF d 104 48 [jP 32, jL v1, jU, jI v3, jI v4, z5, z6] [] h Q) : WF d 104 25 [jP 32, jL v1, jU, jI v3, jI v4, z5, z6] [] h Q := by
  refine b_104_25 ?_
  exact H
set_option maxRecDepth 100000 in
theorem c_104_48 {p : Lpar} {d : Nat} {h : AH} {Q : Option AV → AH → Prop} {v1 : Int} {v3 : Int} {v4 : Int} {z5 : AV} {z6 : AV} (hd : 9 ≤ d) (L : Ly p h) (H : ((jcmp v1 1) = (0 : Int) → WF d 104 79 [jP 32, jL v1, jU, jI v3, jI v4, z5, z6] [] h Q) ∧ (¬ ((jcmp v1 1) = (0 : Int)) → ((jcmp v1 (-1)) = (0 : Int) → WF d 104 79 [jP 32, jL v1, jU, jI v3, jI v4, z5, z6] [] h Q) ∧ (¬ ((jcmp v1 (-1)) = (0 : Int)) → ∃ h1, jE d 5 [jP 35, jL v1] h none h1 ∧ Ly p h1 ∧ WF d 104 70 [jP 32, jL v1, jU, jI v3, jI v4, z5, z6] [] h1 Q))) : WF d 104 48 [jP 32, jL v1, jU, jI v3, jI v4, z5, z6] [] h Q := by
  refine b_104_48 ?_
  refine ⟨fun c5 => ?_, fun c5 => ?_⟩
  · have H := H.1 c5
    exact H
  · have H := H.2 c5
    refine ⟨fun c4 => ?_, fun c4 => ?_⟩
    · have H := H.1 c4
      exact H
    · have H := H.2 c4
      refine ⟨(Ly.t32 L :), ?_⟩
      rw [show jr h 32 1 = 35 from (Ly.r32_1 L :)]
      refine ⟨(Ly.t35 L :), ?_⟩
      obtain ⟨h1, e3, L2, H⟩ := H
      refine ⟨h1, e3, ?_⟩
      exact H
set_option maxRecDepth 100000 in
theorem c_104_70 {p : Lpar} {d : Nat} {h : AH} {Q : Option AV → AH → Prop} {v1 : Int} {v3 : Int} {v4 : Int} {z5 : AV} {z6 : AV} (hd : 9 ≤ d) (L : Ly p h) (H : ∃ h1, jE d 2 [jP 35, jI 42] h none h1 ∧ Ly p h1 ∧ WF d 104 79 [jP 32, jL v1, jU, jI v3, jI v4, z5, z6] [] h1 Q) : WF d 104 70 [jP 32, jL v1, jU, jI v3, jI v4, z5, z6] [] h Q := by
  refine b_104_70 ?_
  refine ⟨(Ly.t32 L :), ?_⟩
  rw [show jr h 32 1 = 35 from (Ly.r32_1 L :)]
  refine ⟨(Ly.t35 L :), ?_⟩
  obtain ⟨h1, e3, L2, H⟩ := H
  refine ⟨h1, e3, ?_⟩
  exact H
set_option maxRecDepth 100000 in
theorem c_104_79 {p : Lpar} {d : Nat} {h : AH} {Q : Option AV → AH → Prop} {v1 : Int} {v3 : Int} {v4 : Int} {z5 : AV} {z6 : AV} (hd : 9 ≤ d) (L : Ly p h) (H : ∃ x4 h1, jE d 61 [jP (pD p + 18), jI v3] h (some (jI x4)) h1 ∧ Ly p h1 ∧ ∃ x8 h5, jE d 27 [jP (pD p + 1), jI 2, jI x4] h1 (some (jI x8)) h5 ∧ Ly p h5 ∧ ∃ h9, jE d 4 [jP 35, jI x8] h5 none h9 ∧ Ly p h9 ∧ WF d 104 108 [jP 32, jL v1, jU, jI v3, jI v4, z5, z6] [] h9 Q) : WF d 104 79 [jP 32, jL v1, jU, jI v3, jI v4, z5, z6] [] h Q := by
  refine b_104_79 ?_
  refine ⟨(Ly.t32 L :), ?_⟩
  rw [show jr h 32 1 = 35 from (Ly.r32_1 L :)]
  refine ⟨(Ly.t32 L :), ?_⟩
  rw [show jr h 32 5 = pD p from (Ly.r32_5 L :)]
  refine ⟨(Ly.dt0 L (Ly.iD L) :), ?_⟩
  rw [show jr h (pD p) 0 = (pD p + 1) from (Ly.dr0_0 L (Ly.iD L) :)]
  refine ⟨(Ly.t32 L :), ?_⟩
  refine ⟨(Ly.dt0 L (Ly.iD L) :), ?_⟩
  rw [show jr h (pD p) 3 = (pD p + 18) from (Ly.dr0_3 L (Ly.iD L) :)]
  refine ⟨(Ly.dt18 L (Ly.iD L) :), ?_⟩
  obtain ⟨x4, h1, e3, L2, H⟩ := H
  refine ⟨x4, h1, e3, ?_⟩
  refine ⟨(Ly.dt1 L2 (Ly.iD L2) :), ?_⟩
  obtain ⟨x8, h5, e7, L6, H⟩ := H
  refine ⟨x8, h5, e7, ?_⟩
  refine ⟨(Ly.t35 L6 :), ?_⟩
  obtain ⟨h9, e11, L10, H⟩ := H
  refine ⟨h9, e11, ?_⟩
  exact H
set_option maxRecDepth 100000 in
theorem c_104_108 {p : Lpar} {d : Nat} {h : AH} {Q : Option AV → AH → Prop} {v1 : Int} {v3 : Int} {v4 : Int} {z5 : AV} {z6 : AV} (hd : 9 ≤ d) (L : Ly p h) (H : ∃ x4 h1, jE d 62 [jP (pD p + 18), jI v3] h (some (jI x4)) h1 ∧ Ly p h1 ∧ WF d 104 121 [jP 32, jL v1, jU, jI v3, jI v4, jI x4, z6] [] h1 Q) : WF d 104 108 [jP 32, jL v1, jU, jI v3, jI v4, z5, z6] [] h Q := by
  refine b_104_108 ?_
  refine ⟨(Ly.t32 L :), ?_⟩
  rw [show jr h 32 5 = pD p from (Ly.r32_5 L :)]
  refine ⟨(Ly.dt0 L (Ly.iD L) :), ?_⟩
  rw [show jr h (pD p) 3 = (pD p + 18) from (Ly.dr0_3 L (Ly.iD L) :)]
  refine ⟨(Ly.dt18 L (Ly.iD L) :), ?_⟩
  obtain ⟨x4, h1, e3, L2, H⟩ := H
  refine ⟨x4, h1, e3, ?_⟩
  exact H
set_option maxRecDepth 100000 in
theorem c_104_121 {p : Lpar} {d : Nat} {h : AH} {Q : Option AV → AH → Prop} {v1 : Int} {v3 : Int} {v4 : Int} {v5 : Int} {z6 : AV} (hd : 9 ≤ d) (L : Ly p h) (H : ∃ x4 h1, jE d 63 [jP (pD p + 18), jI v3] h (some (jI x4)) h1 ∧ Ly p h1 ∧ WF d 104 134 [jP 32, jL v1, jU, jI v3, jI v4, jI v5, jI x4] [] h1 Q) : WF d 104 121 [jP 32, jL v1, jU, jI v3, jI v4, jI v5, z6] [] h Q := by
  refine b_104_121 ?_
  refine ⟨(Ly.t32 L :), ?_⟩
  rw [show jr h 32 5 = pD p from (Ly.r32_5 L :)]
  refine ⟨(Ly.dt0 L (Ly.iD L) :), ?_⟩
  rw [show jr h (pD p) 3 = (pD p + 18) from (Ly.dr0_3 L (Ly.iD L) :)]
  refine ⟨(Ly.dt18 L (Ly.iD L) :), ?_⟩
  obtain ⟨x4, h1, e3, L2, H⟩ := H
  refine ⟨x4, h1, e3, ?_⟩
  exact H
set_option maxRecDepth 100000 in
theorem c_104_134 {p : Lpar} {d : Nat} {h : AH} {Q : Option AV → AH → Prop} {v1 : Int} {v3 : Int} {v4 : Int} {v5 : Int} {v6 : Int} (hd : 9 ≤ d) (L : Ly p h) (H : (v5 = (-1) → WF d 104 193 [jP 32, jL v1, jU, jI v3, jI v4, jI v5, jI v6] [] h Q) ∧ (¬ (v5 = (-1)) → ∃ h1, jE d 2 [jP 35, jI 91] h none h1 ∧ Ly p h1 ∧ WF d 104 149 [jP 32, jL v1, jU, jI v3, jI v4, jI v5, jI v6] [] h1 Q)) : WF d 104 134 [jP 32, jL v1, jU, jI v3, jI v4, jI v5, jI v6] [] h Q := by
  refine b_104_134 ?_
  refine ⟨fun c4 => ?_, fun c4 => ?_⟩
  · have H := H.1 c4
    exact H
  · have H := H.2 c4
    refine ⟨(Ly.t32 L :), ?_⟩
    rw [show jr h 32 1 = 35 from (Ly.r32_1 L :)]
    refine ⟨(Ly.t35 L :), ?_⟩
    obtain ⟨h1, e3, L2, H⟩ := H
    refine ⟨h1, e3, ?_⟩
    exact H
set_option maxRecDepth 100000 in
theorem c_104_149 {p : Lpar} {d : Nat} {h : AH} {Q : Option AV → AH → Prop} {v1 : Int} {v3 : Int} {v4 : Int} {v5 : Int} {v6 : Int} (hd : 9 ≤ d) (L : Ly p h) (H : ∃ h1, jE d 5 [jP 35, jL v5] h none h1 ∧ Ly p h1 ∧ WF d 104 159 [jP 32, jL v1, jU, jI v3, jI v4, jI v5, jI v6] [] h1 Q) : WF d 104 149 [jP 32, jL v1, jU, jI v3, jI v4, jI v5, jI v6] [] h Q := by
  refine b_104_149 ?_
  refine ⟨(Ly.t32 L :), ?_⟩
  rw [show jr h 32 1 = 35 from (Ly.r32_1 L :)]
  refine ⟨(Ly.t35 L :), ?_⟩
  obtain ⟨h1, e3, L2, H⟩ := H
  refine ⟨h1, e3, ?_⟩
  exact H
set_option maxRecDepth 100000 in
theorem c_104_159 {p : Lpar} {d : Nat} {h : AH} {Q : Option AV → AH → Prop} {v1 : Int} {v3 : Int} {v4 : Int} {v5 : Int} {v6 : Int} (hd : 9 ≤ d) (L : Ly p h) (H : (v6 = (-1) → WF d 104 184 [jP 32, jL v1, jU, jI v3, jI v4, jI v5, jI v6] [] h Q) ∧ (¬ (v6 = (-1)) → ∃ h1, jE d 2 [jP 35, jI 44] h none h1 ∧ Ly p h1 ∧ WF d 104 174 [jP 32, jL v1, jU, jI v3, jI v4, jI v5, jI v6] [] h1 Q)) : WF d 104 159 [jP 32, jL v1, jU, jI v3, jI v4, jI v5, jI v6] [] h Q := by
  refine b_104_159 ?_
  refine ⟨fun c4 => ?_, fun c4 => ?_⟩
  · have H := H.1 c4
    exact H
  · have H := H.2 c4
    refine ⟨(Ly.t32 L :), ?_⟩
    rw [show jr h 32 1 = 35 from (Ly.r32_1 L :)]
    refine ⟨(Ly.t35 L :), ?_⟩
    obtain ⟨h1, e3, L2, H⟩ := H
    refine ⟨h1, e3, ?_⟩
    exact H
set_option maxRecDepth 100000 in
theorem c_104_174 {p : Lpar} {d : Nat} {h : AH} {Q : Option AV → AH → Prop} {v1 : Int} {v3 : Int} {v4 : Int} {v5 : Int} {v6 : Int} (hd : 9 ≤ d) (L : Ly p h) (H : ∃ h1, jE d 5 [jP 35, jL v6] h none h1 ∧ Ly p h1 ∧ WF d 104 184 [jP 32, jL v1, jU, jI v3, jI v4, jI v5, jI v6] [] h1 Q) : WF d 104 174 [jP 32, jL v1, jU, jI v3, jI v4, jI v5, jI v6] [] h Q := by
  refine b_104_174 ?_
  refine ⟨(Ly.t32 L :), ?_⟩
  rw [show jr h 32 1 = 35 from (Ly.r32_1 L :)]
  refine ⟨(Ly.t35 L :), ?_⟩
  obtain ⟨h1, e3, L2, H⟩ := H
  refine ⟨h1, e3, ?_⟩
  exact H
set_option maxRecDepth 100000 in
theorem c_104_184 {p : Lpar} {d : Nat} {h : AH} {Q : Option AV → AH → Prop} {v1 : Int} {v3 : Int} {v4 : Int} {v5 : Int} {v6 : Int} (hd : 9 ≤ d) (L : Ly p h) (H : ∃ h1, jE d 2 [jP 35, jI 93] h none h1 ∧ Ly p h1 ∧ WF d 104 193 [jP 32, jL v1, jU, jI v3, jI v4, jI v5, jI v6] [] h1 Q) : WF d 104 184 [jP 32, jL v1, jU, jI v3, jI v4, jI v5, jI v6] [] h Q := by
  refine b_104_184 ?_
  refine ⟨(Ly.t32 L :), ?_⟩
  rw [show jr h 32 1 = 35 from (Ly.r32_1 L :)]
  refine ⟨(Ly.t35 L :), ?_⟩
  obtain ⟨h1, e3, L2, H⟩ := H
  refine ⟨h1, e3, ?_⟩
  exact H
set_option maxRecDepth 100000 in
theorem c_104_193 {p : Lpar} {d : Nat} {h : AH} {Q : Option AV → AH → Prop} {v1 : Int} {v3 : Int} {v4 : Int} {v5 : Int} {v6 : Int} (hd : 9 ≤ d) (L : Ly p h) (H : Q none h) : WF d 104 193 [jP 32, jL v1, jU, jI v3, jI v4, jI v5, jI v6] [] h Q := by
  refine b_104_193 ?_
  exact H
set_option maxRecDepth 100000 in
theorem c_105_0 {p : Lpar} {d : Nat} {h : AH} {Q : Option AV → AH → Prop} {v1 : Int} (hd : 9 ≤ d) (L : Ly p h) (H : (0 ≤ (jcmp v1 0) → ∃ h1, jE d 5 [jP 35, jL v1] h none h1 ∧ Ly p h1 ∧ ∃ h4, jE d 2 [jP 35, jI 59] h1 none h4 ∧ Ly p h4 ∧ Q none h4) ∧ (¬ (0 ≤ (jcmp v1 0)) → ∃ h7, jE d 2 [jP 35, jI 45] h none h7 ∧ Ly p h7 ∧ ∃ h10, jE d 5 [jP 35, jL v1] h7 none h10 ∧ Ly p h10 ∧ ∃ h13, jE d 2 [jP 35, jI 59] h10 none h13 ∧ Ly p h13 ∧ Q none h13)) : WF d 105 0 [jP 32, jL v1, jU] [] h Q := by
  refine b_105_0 ?_
  refine ⟨fun c16 => ?_, fun c16 => ?_⟩
  · have H := H.1 c16
    refine ⟨(Ly.t32 L :), ?_⟩
    rw [show jr h 32 1 = 35 from (Ly.r32_1 L :)]
    refine ⟨(Ly.t35 L :), ?_⟩
    obtain ⟨h1, e3, L2, H⟩ := H
    refine ⟨h1, e3, ?_⟩
    refine ⟨(Ly.t32 L2 :), ?_⟩
    rw [show jr h1 32 1 = 35 from (Ly.r32_1 L2 :)]
    refine ⟨(Ly.t35 L2 :), ?_⟩
    obtain ⟨h4, e6, L5, H⟩ := H
    refine ⟨h4, e6, ?_⟩
    exact H
  · have H := H.2 c16
    refine ⟨(Ly.t32 L :), ?_⟩
    rw [show jr h 32 1 = 35 from (Ly.r32_1 L :)]
    refine ⟨(Ly.t35 L :), ?_⟩
    obtain ⟨h7, e9, L8, H⟩ := H
    refine ⟨h7, e9, ?_⟩
    refine ⟨(Ly.t32 L8 :), ?_⟩
    rw [show jr h7 32 1 = 35 from (Ly.r32_1 L8 :)]
    refine ⟨(Ly.t35 L8 :), ?_⟩
    obtain ⟨h10, e12, L11, H⟩ := H
    refine ⟨h10, e12, ?_⟩
    refine ⟨(Ly.t32 L11 :), ?_⟩
    rw [show jr h10 32 1 = 35 from (Ly.r32_1 L11 :)]
    refine ⟨(Ly.t35 L11 :), ?_⟩
    obtain ⟨h13, e15, L14, H⟩ := H
    refine ⟨h13, e15, ?_⟩
    exact H
