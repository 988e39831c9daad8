-- needs: 20.num 21.lay 22.spec 23.va 24.leaf 25.tbls 26.thg 27.tok
set_option maxRecDepth 100000 in
theorem c_146_0 {p : Lpar} {d : Nat} {h : AH} {Q : Option AV → AH → Prop} {v1 : Int} (hd : 9 ≤ d) (L : Ly p h) (H : WF d 146 2 [jP 141, jL v1, jU, jI 0] [] h Q) : WF d 146 0 [jP 141, jL v1, jU, jU] [] h Q := by
  refine b_146_0 ?_
  exact H
set_option maxRecDepth 100000 in
theorem c_146_2 {p : Lpar} {d : Nat} {h : AH} {Q : Option AV → AH → Prop} {v1 : Int} {v3 : Int} (hd : 9 ≤ d) (L : Ly p h) (H : (41 ≤ v3 → (Ly p (wi h 141 54 (w32 ((ji h 141 54) + 1))) → Q none (wi h 141 54 (w32 ((ji h 141 54) + 1))))) ∧ (¬ (41 ≤ v3) → (v3 = 40 → 0 ≤ (w32 ((w32 (41 * (ji h 141 54))) + v3)) ∧ (w32 ((w32 (41 * (ji h 141 54))) + v3)) < 1640 ∧ (Ly p (wl h 172 (Int.toNat (w32 ((w32 (41 * (ji h 141 54))) + v3))) v1) → WF d 146 2 [jP 141, jL v1, jU, jI (w32 (v3 + 1))] [] (wl h 172 (Int.toNat (w32 ((w32 (41 * (ji h 141 54))) + v3))) v1) Q)) ∧ (¬ v3 = 40 → 0 ≤ (w32 ((w32 (41 * (ji h 141 54))) + v3)) ∧ (w32 ((w32 (41 * (ji h 141 54))) + v3)) < 1640 ∧ (Ly p (wl h 172 (Int.toNat (w32 ((w32 (41 * (ji h 141 54))) + v3))) (0 : Int)) → WF d 146 2 [jP 141, jL v1, jU, jI (w32 (v3 + 1))] [] (wl h 172 (Int.toNat (w32 ((w32 (41 * (ji h 141 54))) + v3))) (0 : Int)) Q)))) : WF d 146 2 [jP 141, jL v1, jU, jI v3] [] h Q := by
  refine b_146_2 ?_
  refine ⟨fun c6 => ?_, fun c6 => ?_⟩
  · have H := H.1 c6
    refine ⟨(Ly.t141 L :), ?_⟩
    refine ⟨(Ly.t141 L :), ?_⟩
    exact H (Ly.wi L (a := 141) (k := 54) (x := w32 ((ji h 141 54) + 1)) (by decide))
  · have H := H.2 c6
    refine ⟨(Ly.t141 L :), ?_⟩
    rw [show jr h 141 53 = 172 from (Ly.r141_53 L :)]
    refine ⟨(Ly.t141 L :), ?_⟩
    refine ⟨fun c5 => ?_, fun c5 => ?_⟩
    · have H := H.2 c5
      obtain ⟨z1, z2, H⟩ := H
      refine ⟨inW_mk (N := 1640) (Ly.t172 L :) (Ly.n172 L :) z1 z2, ?_⟩
      exact H (Ly.wl L (a := 172) (k := Int.toNat (w32 ((w32 (41 * (ji h 141 54))) + v3))) (x := 0))
    · have c5 := Decidable.not_not.mp c5
      have H := H.1 c5
      obtain ⟨z3, z4, H⟩ := H
      refine ⟨inW_mk (N := 1640) (Ly.t172 L :) (Ly.n172 L :) z3 z4, ?_⟩
      exact H (Ly.wl L (a := 172) (k := Int.toNat (w32 ((w32 (41 * (ji h 141 54))) + v3))) (x := v1))
set_option maxRecDepth 100000 in
theorem c_148_0 {p : Lpar} {d : Nat} {h : AH} {Q : Option AV → AH → Prop} {v1 : Int} {v2 : Int} {v3 : Int} {v4 : Int} (hd : 9 ≤ d) (L : Ly p h) (H : (v1 = (-1) → (v2 = (-1) → Q (some (jI 0)) h) ∧ (¬ v2 = (-1) → 0 ≤ v2 ∧ v2 < 6 ∧ ∃ x21 h18, jE d 147 [jP 141, jI v4] h (some (jI x21)) h18 ∧ Ly p h18 ∧ 0 ≤ v2 ∧ v2 < 6 ∧ Q (some (jI (w32 ((w32 ((w32 (0 * (ji h 145 (Int.toNat v2)))) + x21)) - (ji h18 144 (Int.toNat v2)))))) h18)) ∧ (¬ v1 = (-1) → ∃ x4 h1, jE d 147 [jP 141, jI v3] h (some (jI x4)) h1 ∧ Ly p h1 ∧ 0 ≤ v1 ∧ v1 < 6 ∧ (v2 = (-1) → Q (some (jI (w32 (x4 - (ji h1 144 (Int.toNat v1)))))) h1) ∧ (¬ v2 = (-1) → 0 ≤ v2 ∧ v2 < 6 ∧ ∃ x12 h9, jE d 147 [jP 141, jI v4] h1 (some (jI x12)) h9 ∧ Ly p h9 ∧ 0 ≤ v2 ∧ v2 < 6 ∧ Q (some (jI (w32 ((w32 ((w32 ((w32 (x4 - (ji h1 144 (Int.toNat v1)))) * (ji h1 145 (Int.toNat v2)))) + x12)) - (ji h9 144 (Int.toNat v2)))))) h9))) : WF d 148 0 [jP 141, jI v1, jI v2, jI v3, jI v4, jU] [] h Q := by
  refine b_148_0 ?_
  refine ⟨fun c25 => ?_, fun c25 => ?_⟩
  · have H := H.2 c25
    refine ⟨(Ly.t141 L :), ?_⟩
    obtain ⟨x4, h1, e3, L2, H⟩ := H
    refine ⟨x4, h1, e3, ?_⟩
    refine ⟨(Ly.t141 L2 :), ?_⟩
    rw [show jr h1 141 9 = 144 from (Ly.r141_9 L2 :)]
    obtain ⟨z5, z6, H⟩ := H
    refine ⟨inA_mk (N := 6) (Ly.t144 L2 :) (Ly.n144 L2 :) z5 z6, ?_⟩
    refine ⟨fun c15 => ?_, fun c15 => ?_⟩
    · have H := H.2 c15
      refine ⟨(Ly.t141 L2 :), ?_⟩
      rw [show jr h1 141 10 = 145 from (Ly.r141_10 L2 :)]
      obtain ⟨z7, z8, H⟩ := H
      refine ⟨inA_mk (N := 6) (Ly.t145 L2 :) (Ly.n145 L2 :) z7 z8, ?_⟩
      refine ⟨(Ly.t141 L2 :), ?_⟩
      obtain ⟨x12, h9, e11, L10, H⟩ := H
      refine ⟨x12, h9, e11, ?_⟩
      refine ⟨(Ly.t141 L10 :), ?_⟩
      rw [show jr h9 141 9 = 144 from (Ly.r141_9 L10 :)]
      obtain ⟨z13, z14, H⟩ := H
      refine ⟨inA_mk (N := 6) (Ly.t144 L10 :) (Ly.n144 L10 :) z13 z14, ?_⟩
      exact H
    · have c15 := Decidable.not_not.mp c15
      have H := H.1 c15
      exact H
  · have c25 := Decidable.not_not.mp c25
    have H := H.1 c25
    refine ⟨fun c24 => ?_, fun c24 => ?_⟩
    · have H := H.2 c24
      refine ⟨(Ly.t141 L :), ?_⟩
      rw [show jr h 141 10 = 145 from (Ly.r141_10 L :)]
      obtain ⟨z16, z17, H⟩ := H
      refine ⟨inA_mk (N := 6) (Ly.t145 L :) (Ly.n145 L :) z16 z17, ?_⟩
      refine ⟨(Ly.t141 L :), ?_⟩
      obtain ⟨x21, h18, e20, L19, H⟩ := H
      refine ⟨x21, h18, e20, ?_⟩
      refine ⟨(Ly.t141 L19 :), ?_⟩
      rw [show jr h18 141 9 = 144 from (Ly.r141_9 L19 :)]
      obtain ⟨z22, z23, H⟩ := H
      refine ⟨inA_mk (N := 6) (Ly.t144 L19 :) (Ly.n144 L19 :) z22 z23, ?_⟩
      exact H
    · have c24 := Decidable.not_not.mp c24
      have H := H.1 c24
      exact H
set_option maxRecDepth 100000 in
theorem c_149_0 {p : Lpar} {d : Nat} {h : AH} {Q : Option AV → AH → Prop}  (hd : 9 ≤ d) (L : Ly p h) (H : WF d 149 10 [jP 141, jI (w32 (41 * (w32 ((ji h 141 54) - 2)))), jU, jU] [] h Q) : WF d 149 0 [jP 141, jU, jU, jU] [] h Q := by
  refine b_149_0 ?_
  refine ⟨(Ly.t141 L :), ?_⟩
  exact H
set_option maxRecDepth 100000 in
theorem c_149_10 {p : Lpar} {d : Nat} {h : AH} {Q : Option AV → AH → Prop} {v1 : Int} {z2 : AV} {z3 : AV} (hd : 9 ≤ d) (L : Ly p h) (H : WF d 149 20 [jP 141, jI v1, jI (w32 (41 * (w32 ((ji h 141 54) - 1)))), z3] [] h Q) : WF d 149 10 [jP 141, jI v1, z2, z3] [] h Q := by
  refine b_149_10 ?_
  refine ⟨(Ly.t141 L :), ?_⟩
  exact H
set_option maxRecDepth 100000 in
theorem c_149_20 {p : Lpar} {d : Nat} {h : AH} {Q : Option AV → AH → Prop} {v1 : Int} {v2 : Int} {z3 : AV} (hd : 9 ≤ d) (L : Ly p h) (H : WF d 149 22 [jP 141, jI v1, jI v2, jI 0] [] h Q) : WF d 149 20 [jP 141, jI v1, jI v2, z3] [] h Q := by
  refine b_149_20 ?_
  exact H
set_option maxRecDepth 100000 in
theorem c_149_22 {p : Lpar} {d : Nat} {h : AH} {Q : Option AV → AH → Prop} {v1 : Int} {v2 : Int} {v3 : Int} (hd : 9 ≤ d) (L : Ly p h) (H : (40 ≤ v3 → 0 ≤ (w32 (v1 + 40)) ∧ (w32 (v1 + 40)) < 1640 ∧ 0 ≤ (w32 (v2 + 40)) ∧ (w32 (v2 + 40)) < 1640 ∧ 0 ≤ (w32 (v1 + 40)) ∧ (w32 (v1 + 40)) < 1640 ∧ (Ly p (wl h 172 (Int.toNat (w32 (v1 + 40))) (w64 ((jl h 172 (Int.toNat (w32 (v1 + 40)))) * (jl h 172 (Int.toNat (w32 (v2 + 40))))))) → WF d 149 100 [jP 141, jI v1, jI v2, jI v3] [] (wl h 172 (Int.toNat (w32 (v1 + 40))) (w64 ((jl h 172 (Int.toNat (w32 (v1 + 40)))) * (jl h 172 (Int.toNat (w32 (v2 + 40))))))) Q)) ∧ (¬ (40 ≤ v3) → 0 ≤ (w32 (v1 + v3)) ∧ (w32 (v1 + v3)) < 1640 ∧ 0 ≤ (w32 (v2 + 40)) ∧ (w32 (v2 + 40)) < 1640 ∧ 0 ≤ (w32 (v2 + v3)) ∧ (w32 (v2 + v3)) < 1640 ∧ 0 ≤ (w32 (v1 + 40)) ∧ (w32 (v1 + 40)) < 1640 ∧ 0 ≤ (w32 (v1 + v3)) ∧ (w32 (v1 + v3)) < 1640 ∧ (Ly p (wl h 172 (Int.toNat (w32 (v1 + v3))) (w64 ((w64 ((jl h 172 (Int.toNat (w32 (v1 + v3)))) * (jl h 172 (Int.toNat (w32 (v2 + 40)))))) + (w64 ((jl h 172 (Int.toNat (w32 (v2 + v3)))) * (jl h 172 (Int.toNat (w32 (v1 + 40))))))))) → WF d 149 73 [jP 141, jI v1, jI v2, jI v3] [] (wl h 172 (Int.toNat (w32 (v1 + v3))) (w64 ((w64 ((jl h 172 (Int.toNat (w32 (v1 + v3)))) * (jl h 172 (Int.toNat (w32 (v2 + 40)))))) + (w64 ((jl h 172 (Int.toNat (w32 (v2 + v3)))) * (jl h 172 (Int.toNat (w32 (v1 + 40))))))))) Q))) : WF d 149 22 [jP 141, jI v1, jI v2, jI v3] [] h Q := by
  refine b_149_22 ?_
  refine ⟨fun c17 => ?_, fun c17 => ?_⟩
  · have H := H.1 c17
    refine ⟨(Ly.t141 L :), ?_⟩
    rw [show jr h 141 53 = 172 from (Ly.r141_53 L :)]
    obtain ⟨z1, z2, H⟩ := H
    refine ⟨inA_mk (N := 1640) (Ly.t172 L :) (Ly.n172 L :) z1 z2, ?_⟩
    refine ⟨(Ly.t141 L :), ?_⟩
    obtain ⟨z3, z4, H⟩ := H
    refine ⟨inA_mk (N := 1640) (Ly.t172 L :) (Ly.n172 L :) z3 z4, ?_⟩
    obtain ⟨z5, z6, H⟩ := H
    refine ⟨inW_mk (N := 1640) (Ly.t172 L :) (Ly.n172 L :) z5 z6, ?_⟩
    exact H (Ly.wl L (a := 172) (k := Int.toNat (w32 (v1 + 40))) (x := w64 ((jl h 172 (Int.toNat (w32 (v1 + 40)))) * (jl h 172 (Int.toNat (w32 (v2 + 40)))))))
  · have H := H.2 c17
    refine ⟨(Ly.t141 L :), ?_⟩
    rw [show jr h 141 53 = 172 from (Ly.r141_53 L :)]
    refine ⟨(Ly.t141 L :), ?_⟩
    obtain ⟨z7, z8, H⟩ := H
    refine ⟨inA_mk (N := 1640) (Ly.t172 L :) (Ly.n172 L :) z7 z8, ?_⟩
    refine ⟨(Ly.t141 L :), ?_⟩
    obtain ⟨z9, z10, H⟩ := H
    refine ⟨inA_mk (N := 1640) (Ly.t172 L :) (Ly.n172 L :) z9 z10, ?_⟩
    refine ⟨(Ly.t141 L :), ?_⟩
    obtain ⟨z11, z12, H⟩ := H
    refine ⟨inA_mk (N := 1640) (Ly.t172 L :) (Ly.n172 L :) z11 z12, ?_⟩
    refine ⟨(Ly.t141 L :), ?_⟩
    obtain ⟨z13, z14, H⟩ := H
    refine ⟨inA_mk (N := 1640) (Ly.t172 L :) (Ly.n172 L :) z13 z14, ?_⟩
    obtain ⟨z15, z16, H⟩ := H
    refine ⟨inW_mk (N := 1640) (Ly.t172 L :) (Ly.n172 L :) z15 z16, ?_⟩
    exact H (Ly.wl L (a := 172) (k := Int.toNat (w32 (v1 + v3))) (x := w64 ((w64 ((jl h 172 (Int.toNat (w32 (v1 + v3)))) * (jl h 172 (Int.toNat (w32 (v2 + 40)))))) + (w64 ((jl h 172 (Int.toNat (w32 (v2 + v3)))) * (jl h 172 (Int.toNat (w32 (v1 + 40)))))))))
set_option maxRecDepth 100000 in
theorem c_149_73 {p : Lpar} {d : Nat} {h : AH} {Q : Option AV → AH → Prop} {v1 : Int} {v2 : Int} {v3 : Int} (hd : 9 ≤ d) (L : Ly p h) (H : WF d 149 22 [jP 141, jI v1, jI v2, jI (w32 (v3 + 1))] [] h Q) : WF d 149 73 [jP 141, jI v1, jI v2, jI v3] [] h Q := by
  refine b_149_73 ?_
  exact H
set_option maxRecDepth 100000 in
theorem c_149_100 {p : Lpar} {d : Nat} {h : AH} {Q : Option AV → AH → Prop} {v1 : Int} {v2 : Int} {v3 : Int} (hd : 9 ≤ d) (L : Ly p h) (H : (Ly p (wi h 141 54 (w32 ((ji h 141 54) - 1))) → WF d 149 110 [jP 141, jI v1, jI v2, jI v3] [] (wi h 141 54 (w32 ((ji h 141 54) - 1))) Q)) : WF d 149 100 [jP 141, jI v1, jI v2, jI v3] [] h Q := by
  refine b_149_100 ?_
  refine ⟨(Ly.t141 L :), ?_⟩
  refine ⟨(Ly.t141 L :), ?_⟩
  exact H (Ly.wi L (a := 141) (k := 54) (x := w32 ((ji h 141 54) - 1)) (by decide))
set_option maxRecDepth 100000 in
theorem c_149_110 {p : Lpar} {d : Nat} {h : AH} {Q : Option AV → AH → Prop} {v1 : Int} {v2 : Int} {v3 : Int} (hd : 9 ≤ d) (L : Ly p h) (H : Q none h) : WF d 149 110 [jP 141, jI v1, jI v2, jI v3] [] h Q := by
  refine b_149_110 ?_
  exact H
set_option maxRecDepth 100000 in
theorem c_150_0 {p : Lpar} {d : Nat} {h : AH} {Q : Option AV → AH → Prop} {v1 : Int} (hd : 9 ≤ d) (L : Ly p h) (H : WF d 150 10 [jP 141, jL v1, jU, jI (w32 (41 * (w32 ((ji h 141 54) - 2)))), jU, jU] [] h Q) : WF d 150 0 [jP 141, jL v1, jU, jU, jU, jU] [] h Q := by
  refine b_150_0 ?_
  refine ⟨(Ly.t141 L :), ?_⟩
  exact H
set_option maxRecDepth 100000 in
theorem c_150_10 {p : Lpar} {d : Nat} {h : AH} {Q : Option AV → AH → Prop} {v1 : Int} {v3 : Int} {z4 : AV} {z5 : AV} (hd : 9 ≤ d) (L : Ly p h) (H : WF d 150 21 [jP 141, jL v1, jU, jI v3, jI (w32 (41 * (w32 ((ji h 141 54) - 1)))), z5] [] h Q) : WF d 150 10 [jP 141, jL v1, jU, jI v3, z4, z5] [] h Q := by
  refine b_150_10 ?_
  refine ⟨(Ly.t141 L :), ?_⟩
  exact H
set_option maxRecDepth 100000 in
theorem c_150_21 {p : Lpar} {d : Nat} {h : AH} {Q : Option AV → AH → Prop} {v1 : Int} {v3 : Int} {v4 : Int} {z5 : AV} (hd : 9 ≤ d) (L : Ly p h) (H : WF d 150 24 [jP 141, jL v1, jU, jI v3, jI v4, jI 0] [] h Q) : WF d 150 21 [jP 141, jL v1, jU, jI v3, jI v4, z5] [] h Q := by
  refine b_150_21 ?_
  exact H
set_option maxRecDepth 100000 in
theorem c_150_24 {p : Lpar} {d : Nat} {h : AH} {Q : Option AV → AH → Prop} {v1 : Int} {v3 : Int} {v4 : Int} {v5 : Int} (hd : 9 ≤ d) (L : Ly p h) (H : (41 ≤ v5 → (Ly p (wi h 141 54 (w32 ((ji h 141 54) - 1))) → WF d 150 71 [jP 141, jL v1, jU, jI v3, jI v4, jI v5] [] (wi h 141 54 (w32 ((ji h 141 54) - 1))) Q)) ∧ (¬ (41 ≤ v5) → 0 ≤ (w32 (v3 + v5)) ∧ (w32 (v3 + v5)) < 1640 ∧ 0 ≤ (w32 (v4 + v5)) ∧ (w32 (v4 + v5)) < 1640 ∧ 0 ≤ (w32 (v3 + v5)) ∧ (w32 (v3 + v5)) < 1640 ∧ (Ly p (wl h 172 (Int.toNat (w32 (v3 + v5))) (w64 ((jl h 172 (Int.toNat (w32 (v3 + v5)))) + (w64 (v1 * (jl h 172 (Int.toNat (w32 (v4 + v5))))))))) → WF d 150 55 [jP 141, jL v1, jU, jI v3, jI v4, jI v5] [] (wl h 172 (Int.toNat (w32 (v3 + v5))) (w64 ((jl h 172 (Int.toNat (w32 (v3 + v5)))) + (w64 (v1 * (jl h 172 (Int.toNat (w32 (v4 + v5))))))))) Q))) : WF d 150 24 [jP 141, jL v1, jU, jI v3, jI v4, jI v5] [] h Q := by
  refine b_150_24 ?_
  refine ⟨fun c7 => ?_, fun c7 => ?_⟩
  · have H := H.1 c7
    refine ⟨(Ly.t141 L :), ?_⟩
    refine ⟨(Ly.t141 L :), ?_⟩
    exact H (Ly.wi L (a := 141) (k := 54) (x := w32 ((ji h 141 54) - 1)) (by decide))
  · have H := H.2 c7
    refine ⟨(Ly.t141 L :), ?_⟩
    rw [show jr h 141 53 = 172 from (Ly.r141_53 L :)]
    obtain ⟨z1, z2, H⟩ := H
    refine ⟨inA_mk (N := 1640) (Ly.t172 L :) (Ly.n172 L :) z1 z2, ?_⟩
    refine ⟨(Ly.t141 L :), ?_⟩
    obtain ⟨z3, z4, H⟩ := H
    refine ⟨inA_mk (N := 1640) (Ly.t172 L :) (Ly.n172 L :) z3 z4, ?_⟩
    obtain ⟨z5, z6, H⟩ := H
    refine ⟨inW_mk (N := 1640) (Ly.t172 L :) (Ly.n172 L :) z5 z6, ?_⟩
    exact H (Ly.wl L (a := 172) (k := Int.toNat (w32 (v3 + v5))) (x := w64 ((jl h 172 (Int.toNat (w32 (v3 + v5)))) + (w64 (v1 * (jl h 172 (Int.toNat (w32 (v4 + v5)))))))))
set_option maxRecDepth 100000 in
theorem c_150_55 {p : Lpar} {d : Nat} {h : AH} {Q : Option AV → AH → Prop} {v1 : Int} {v3 : Int} {v4 : Int} {v5 : Int} (hd : 9 ≤ d) (L : Ly p h) (H : WF d 150 24 [jP 141, jL v1, jU, jI v3, jI v4, jI (w32 (v5 + 1))] [] h Q) : WF d 150 55 [jP 141, jL v1, jU, jI v3, jI v4, jI v5] [] h Q := by
  refine b_150_55 ?_
  exact H
set_option maxRecDepth 100000 in
theorem c_150_71 {p : Lpar} {d : Nat} {h : AH} {Q : Option AV → AH → Prop} {v1 : Int} {v3 : Int} {v4 : Int} {v5 : Int} (hd : 9 ≤ d) (L : Ly p h) (H : Q none h) : WF d 150 71 [jP 141, jL v1, jU, jI v3, jI v4, jI v5] [] h Q := by
  refine b_150_71 ?_
  exact H
set_option maxRecDepth 100000 in
theorem c_151_0 {p : Lpar} {d : Nat} {h : AH} {Q : Option AV → AH → Prop} {v1 : Int} {v2 : Int} (hd : 9 ≤ d) (L : Ly p h) (H : WF d 151 2 [jP 141, jI v1, jI v2, jI v1, jU] [] h Q) : WF d 151 0 [jP 141, jI v1, jI v2, jU, jU] [] h Q := by
  refine b_151_0 ?_
  exact H
set_option maxRecDepth 100000 in
theorem c_151_2 {p : Lpar} {d : Nat} {h : AH} {Q : Option AV → AH → Prop} {v1 : Int} {v2 : Int} {v3 : Int} {z4 : AV} (hd : 9 ≤ d) (L : Ly p h) (H : (v2 ≤ v3 → Q none h) ∧ (¬ (v2 ≤ v3) → WF d 151 12 [jP 141, jI v1, jI v2, jI v3, jI (w32 (v3 + 1))] [] h Q)) : WF d 151 2 [jP 141, jI v1, jI v2, jI v3, z4] [] h Q := by
  refine b_151_2 ?_
  refine ⟨fun c1 => ?_, fun c1 => ?_⟩
  · have H := H.1 c1
    exact H
  · have H := H.2 c1
    exact H
set_option maxRecDepth 100000 in
theorem c_151_12 {p : Lpar} {d : Nat} {h : AH} {Q : Option AV → AH → Prop} {v1 : Int} {v2 : Int} {v3 : Int} {v4 : Int} (hd : 9 ≤ d) (L : Ly p h) (H : 0 ≤ v3 ∧ v3 < 2000 ∧ (((ji h 160 (Int.toNat v3)) < 0 ∨ 9 < (ji h 160 (Int.toNat v3))) → WF d 151 303 [jP 141, jI v1, jI v2, jI v3, jI v4] [] h Q) ∧ ((ji h 160 (Int.toNat v3)) = 0 → WF d 151 72 [jP 141, jI v1, jI v2, jI v3, jI v4] [] h Q) ∧ ((ji h 160 (Int.toNat v3)) = 1 → WF d 151 80 [jP 141, jI v1, jI v2, jI v3, jI v4] [] h Q) ∧ ((ji h 160 (Int.toNat v3)) = 2 → WF d 151 88 [jP 141, jI v1, jI v2, jI v3, jI v4] [] h Q) ∧ ((ji h 160 (Int.toNat v3)) = 3 → WF d 151 102 [jP 141, jI v1, jI v2, jI v3, jI v4] [] h Q) ∧ ((ji h 160 (Int.toNat v3)) = 4 → WF d 151 121 [jP 141, jI v1, jI v2, jI v3, jI v4] [] h Q) ∧ ((ji h 160 (Int.toNat v3)) = 5 → WF d 151 188 [jP 141, jI v1, jI v2, jI v3, jI v4] [] h Q) ∧ ((ji h 160 (Int.toNat v3)) = 6 → WF d 151 268 [jP 141, jI v1, jI v2, jI v3, jI v4] [] h Q) ∧ ((ji h 160 (Int.toNat v3)) = 7 → WF d 151 275 [jP 141, jI v1, jI v2, jI v3, jI v4] [] h Q) ∧ ((ji h 160 (Int.toNat v3)) = 8 → WF d 151 283 [jP 141, jI v1, jI v2, jI v3, jI v4] [] h Q) ∧ ((ji h 160 (Int.toNat v3)) = 9 → WF d 151 293 [jP 141, jI v1, jI v2, jI v3, jI v4] [] h Q)) : WF d 151 12 [jP 141, jI v1, jI v2, jI v3, jI v4] [] h Q := by
  refine b_151_12 ?_
  refine ⟨(Ly.t141 L :), ?_⟩
  rw [show jr h 141 34 = 160 from (Ly.r141_34 L :)]
  obtain ⟨z1, z2, H⟩ := H
  refine ⟨inA_mk (N := 2000) (Ly.t160 L :) (Ly.n160 L :) z1 z2, ?_⟩
  obtain ⟨H0, H1, H2, H3, H4, H5, H6, H7, H8, H9, H10⟩ := H
  refine ⟨fun c3 => ?_, fun c3 => ?_, fun c3 => ?_, fun c3 => ?_, fun c3 => ?_, fun c3 => ?_, fun c3 => ?_, fun c3 => ?_, fun c3 => ?_, fun c3 => ?_, fun c3 => ?_, trivial⟩
  · have H := H0 c3
    exact H
  · have H := H1 c3
    exact H
  · have H := H2 c3
    exact H
  · have H := H3 c3
    exact H
  · have H := H4 c3
    exact H
  · have H := H5 c3
    exact H
  · have H := H6 c3
    exact H
  · have H := H7 c3
    exact H
  · have H := H8 c3
    exact H
  · have H := H9 c3
    exact H
  · have H := H10 c3
    exact H
set_option maxRecDepth 100000 in
theorem c_151_72 {p : Lpar} {d : Nat} {h : AH} {Q : Option AV → AH → Prop} {v1 : Int} {v2 : Int} {v3 : Int} {v4 : Int} (hd : 9 ≤ d) (L : Ly p h) (H : ∃ h1, jE d 146 [jP 141, jL 0] h none h1 ∧ Ly p h1 ∧ WF d 151 77 [jP 141, jI v1, jI v2, jI v3, jI v4] [] h1 Q) : WF d 151 72 [jP 141, jI v1, jI v2, jI v3, jI v4] [] h Q := by
  refine b_151_72 ?_
  refine ⟨(Ly.t141 L :), ?_⟩
  obtain ⟨h1, e3, L2, H⟩ := H
  refine ⟨h1, e3, ?_⟩
  exact H
set_option maxRecDepth 100000 in
theorem c_151_77 {p : Lpar} {d : Nat} {h : AH} {Q : Option AV → AH → Prop} {v1 : Int} {v2 : Int} {v3 : Int} {v4 : Int} (hd : 9 ≤ d) (L : Ly p h) (H : WF d 151 310 [jP 141, jI v1, jI v2, jI v3, jI v4] [] h Q) : WF d 151 77 [jP 141, jI v1, jI v2, jI v3, jI v4] [] h Q := by
  refine b_151_77 ?_
  exact H
set_option maxRecDepth 100000 in
theorem c_151_80 {p : Lpar} {d : Nat} {h : AH} {Q : Option AV → AH → Prop} {v1 : Int} {v2 : Int} {v3 : Int} {v4 : Int} (hd : 9 ≤ d) (L : Ly p h) (H : ∃ h1, jE d 146 [jP 141, jL 1] h none h1 ∧ Ly p h1 ∧ WF d 151 85 [jP 141, jI v1, jI v2, jI v3, jI v4] [] h1 Q) : WF d 151 80 [jP 141, jI v1, jI v2, jI v3, jI v4] [] h Q := by
  refine b_151_80 ?_
  refine ⟨(Ly.t141 L :), ?_⟩
  obtain ⟨h1, e3, L2, H⟩ := H
  refine ⟨h1, e3, ?_⟩
  exact H
set_option maxRecDepth 100000 in
theorem c_151_85 {p : Lpar} {d : Nat} {h : AH} {Q : Option AV → AH → Prop} {v1 : Int} {v2 : Int} {v3 : Int} {v4 : Int} (hd : 9 ≤ d) (L : Ly p h) (H : WF d 151 310 [jP 141, jI v1, jI v2, jI v3, jI v4] [] h Q) : WF d 151 85 [jP 141, jI v1, jI v2, jI v3, jI v4] [] h Q := by
  refine b_151_85 ?_
  exact H
set_option maxRecDepth 100000 in
theorem c_151_88 {p : Lpar} {d : Nat} {h : AH} {Q : Option AV → AH → Prop} {v1 : Int} {v2 : Int} {v3 : Int} {v4 : Int} (hd : 9 ≤ d) (L : Ly p h) (H : 0 ≤ v3 ∧ v3 < 2000 ∧ ∃ h3, jE d 146 [jP 141, jL (ji h 161 (Int.toNat v3))] h none h3 ∧ Ly p h3 ∧ WF d 151 99 [jP 141, jI v1, jI v2, jI v3, jI v4] [] h3 Q) : WF d 151 88 [jP 141, jI v1, jI v2, jI v3, jI v4] [] h Q := by
  refine b_151_88 ?_
  refine ⟨(Ly.t141 L :), ?_⟩
  rw [show jr h 141 35 = 161 from (Ly.r141_35 L :)]
  obtain ⟨z1, z2, H⟩ := H
  refine ⟨inA_mk (N := 2000) (Ly.t161 L :) (Ly.n161 L :) z1 z2, ?_⟩
  refine ⟨(Ly.t141 L :), ?_⟩
  obtain ⟨h3, e5, L4, H⟩ := H
  refine ⟨h3, e5, ?_⟩
  exact H
set_option maxRecDepth 100000 in
theorem c_151_99 {p : Lpar} {d : Nat} {h : AH} {Q : Option AV → AH → Prop} {v1 : Int} {v2 : Int} {v3 : Int} {v4 : Int} (hd : 9 ≤ d) (L : Ly p h) (H : WF d 151 310 [jP 141, jI v1, jI v2, jI v3, jI v4] [] h Q) : WF d 151 99 [jP 141, jI v1, jI v2, jI v3, jI v4] [] h Q := by
  refine b_151_99 ?_
  exact H
set_option maxRecDepth 100000 in
theorem c_151_102 {p : Lpar} {d : Nat} {h : AH} {Q : Option AV → AH → Prop} {v1 : Int} {v2 : Int} {v3 : Int} {v4 : Int} (hd : 9 ≤ d) (L : Ly p h) (H : 0 ≤ v3 ∧ v3 < 2000 ∧ 0 ≤ (ji h 161 (Int.toNat v3)) ∧ (ji h 161 (Int.toNat v3)) < 20 ∧ ∃ h5, jE d 146 [jP 141, jL (ji h 173 (Int.toNat (ji h 161 (Int.toNat v3))))] h none h5 ∧ Ly p h5 ∧ WF d 151 118 [jP 141, jI v1, jI v2, jI v3, jI v4] [] h5 Q) : WF d 151 102 [jP 141, jI v1, jI v2, jI v3, jI v4] [] h Q := by
  refine b_151_102 ?_
  refine ⟨(Ly.t141 L :), ?_⟩
  rw [show jr h 141 55 = 173 from (Ly.r141_55 L :)]
  refine ⟨(Ly.t141 L :), ?_⟩
  rw [show jr h 141 35 = 161 from (Ly.r141_35 L :)]
  obtain ⟨z1, z2, H⟩ := H
  refine ⟨inA_mk (N := 2000) (Ly.t161 L :) (Ly.n161 L :) z1 z2, ?_⟩
  obtain ⟨z3, z4, H⟩ := H
  refine ⟨inA_mk (N := 20) (Ly.t173 L :) (Ly.n173 L :) z3 z4, ?_⟩
  refine ⟨(Ly.t141 L :), ?_⟩
  obtain ⟨h5, e7, L6, H⟩ := H
  refine ⟨h5, e7, ?_⟩
  exact H
set_option maxRecDepth 100000 in
theorem c_151_118 {p : Lpar} {d : Nat} {h : AH} {Q : Option AV → AH → Prop} {v1 : Int} {v2 : Int} {v3 : Int} {v4 : Int} (hd : 9 ≤ d) (L : Ly p h) (H : WF d 151 310 [jP 141, jI v1, jI v2, jI v3, jI v4] [] h Q) : WF d 151 118 [jP 141, jI v1, jI v2, jI v3, jI v4] [] h Q := by
  refine b_151_118 ?_
  exact H
set_option maxRecDepth 100000 in
theorem c_151_121 {p : Lpar} {d : Nat} {h : AH} {Q : Option AV → AH → Prop} {v1 : Int} {v2 : Int} {v3 : Int} {v4 : Int} (hd : 9 ≤ d) (L : Ly p h) (H : 0 ≤ v3 ∧ v3 < 2000 ∧ 0 ≤ v3 ∧ v3 < 2000 ∧ 0 ≤ (w32 (2 * (ji h 161 (Int.toNat v3)))) ∧ (w32 (2 * (ji h 161 (Int.toNat v3)))) < 12 ∧ 0 ≤ v3 ∧ v3 < 2000 ∧ 0 ≤ (w32 ((w32 (2 * (ji h 161 (Int.toNat v3)))) + 1)) ∧ (w32 ((w32 (2 * (ji h 161 (Int.toNat v3)))) + 1)) < 12 ∧ 0 ≤ v3 ∧ v3 < 2000 ∧ 0 ≤ v3 ∧ v3 < 2000 ∧ ∃ x18 h15, jE d 148 [jP 141, jI (ji h 147 (Int.toNat (w32 (2 * (ji h 161 (Int.toNat v3)))))), jI (ji h 147 (Int.toNat (w32 ((w32 (2 * (ji h 161 (Int.toNat v3)))) + 1)))), jI (ji h 162 (Int.toNat v3)), jI (ji h 163 (Int.toNat v3))] h (some (jI x18)) h15 ∧ Ly p h15 ∧ 0 ≤ (w32 ((w32 (64 * (ji h 161 (Int.toNat v3)))) + x18)) ∧ (w32 ((w32 (64 * (ji h 161 (Int.toNat v3)))) + x18)) < 384 ∧ ∃ h21, jE d 146 [jP 141, jL (ji h15 148 (Int.toNat (w32 ((w32 (64 * (ji h 161 (Int.toNat v3)))) + x18))))] h15 none h21 ∧ Ly p h21 ∧ WF d 151 185 [jP 141, jI v1, jI v2, jI v3, jI v4] [] h21 Q) : WF d 151 121 [jP 141, jI v1, jI v2, jI v3, jI v4] [] h Q := by
  refine b_151_121 ?_
  refine ⟨(Ly.t141 L :), ?_⟩
  rw [show jr h 141 14 = 148 from (Ly.r141_14 L :)]
  refine ⟨(Ly.t141 L :), ?_⟩
  rw [show jr h 141 35 = 161 from (Ly.r141_35 L :)]
  obtain ⟨z1, z2, H⟩ := H
  refine ⟨inA_mk (N := 2000) (Ly.t161 L :) (Ly.n161 L :) z1 z2, ?_⟩
  refine ⟨(Ly.t141 L :), ?_⟩
  rw [show jr h 141 13 = 147 from (Ly.r141_13 L :)]
  refine ⟨(Ly.t141 L :), ?_⟩
  obtain ⟨z3, z4, H⟩ := H
  refine ⟨inA_mk (N := 2000) (Ly.t161 L :) (Ly.n161 L :) z3 z4, ?_⟩
  obtain ⟨z5, z6, H⟩ := H
  refine ⟨inA_mk (N := 12) (Ly.t147 L :) (Ly.n147 L :) z5 z6, ?_⟩
  refine ⟨(Ly.t141 L :), ?_⟩
  refine ⟨(Ly.t141 L :), ?_⟩
  obtain ⟨z7, z8, H⟩ := H
  refine ⟨inA_mk (N := 2000) (Ly.t161 L :) (Ly.n161 L :) z7 z8, ?_⟩
  obtain ⟨z9, z10, H⟩ := H
  refine ⟨inA_mk (N := 12) (Ly.t147 L :) (Ly.n147 L :) z9 z10, ?_⟩
  refine ⟨(Ly.t141 L :), ?_⟩
  rw [show jr h 141 36 = 162 from (Ly.r141_36 L :)]
  obtain ⟨z11, z12, H⟩ := H
  refine ⟨inA_mk (N := 2000) (Ly.t162 L :) (Ly.n162 L :) z11 z12, ?_⟩
  refine ⟨(Ly.t141 L :), ?_⟩
  rw [show jr h 141 37 = 163 from (Ly.r141_37 L :)]
  obtain ⟨z13, z14, H⟩ := H
  refine ⟨inA_mk (N := 2000) (Ly.t163 L :) (Ly.n163 L :) z13 z14, ?_⟩
  refine ⟨(Ly.t141 L :), ?_⟩
  obtain ⟨x18, h15, e17, L16, H⟩ := H
  refine ⟨x18, h15, e17, ?_⟩
  obtain ⟨z19, z20, H⟩ := H
  refine ⟨inA_mk (N := 384) (Ly.t148 L16 :) (Ly.n148 L16 :) z19 z20, ?_⟩
  refine ⟨(Ly.t141 L16 :), ?_⟩
  obtain ⟨h21, e23, L22, H⟩ := H
  refine ⟨h21, e23, ?_⟩
  exact H
set_option maxRecDepth 100000 in
theorem c_151_185 {p : Lpar} {d : Nat} {h : AH} {Q : Option AV → AH → Prop} {v1 : Int} {v2 : Int} {v3 : Int} {v4 : Int} (hd : 9 ≤ d) (L : Ly p h) (H : WF d 151 310 [jP 141, jI v1, jI v2, jI v3, jI v4] [] h Q) : WF d 151 185 [jP 141, jI v1, jI v2, jI v3, jI v4] [] h Q := by
  refine b_151_185 ?_
  exact H
set_option maxRecDepth 100000 in
theorem c_151_188 {p : Lpar} {d : Nat} {h : AH} {Q : Option AV → AH → Prop} {v1 : Int} {v2 : Int} {v3 : Int} {v4 : Int} (hd : 9 ≤ d) (L : Ly p h) (H : ∃ h1, jE d 146 [jP 141, jL 0] h none h1 ∧ Ly p h1 ∧ WF d 151 193 [jP 141, jI v1, jI v2, jI v3, jI v4] [] h1 Q) : WF d 151 188 [jP 141, jI v1, jI v2, jI v3, jI v4] [] h Q := by
  refine b_151_188 ?_
  refine ⟨(Ly.t141 L :), ?_⟩
  obtain ⟨h1, e3, L2, H⟩ := H
  refine ⟨h1, e3, ?_⟩
  exact H
set_option maxRecDepth 100000 in
theorem c_151_193 {p : Lpar} {d : Nat} {h : AH} {Q : Option AV → AH → Prop} {v1 : Int} {v2 : Int} {v3 : Int} {v4 : Int} (hd : 9 ≤ d) (L : Ly p h) (H : 0 ≤ v3 ∧ v3 < 2000 ∧ 0 ≤ (ji h 161 (Int.toNat v3)) ∧ (ji h 161 (Int.toNat v3)) < 7 ∧ 0 ≤ v3 ∧ v3 < 2000 ∧ 0 ≤ (w32 (2 * (ji h 161 (Int.toNat v3)))) ∧ (w32 (2 * (ji h 161 (Int.toNat v3)))) < 12 ∧ 0 ≤ v3 ∧ v3 < 2000 ∧ 0 ≤ (w32 ((w32 (2 * (ji h 161 (Int.toNat v3)))) + 1)) ∧ (w32 ((w32 (2 * (ji h 161 (Int.toNat v3)))) + 1)) < 12 ∧ 0 ≤ v3 ∧ v3 < 2000 ∧ 0 ≤ v3 ∧ v3 < 2000 ∧ ∃ x20 h17, jE d 148 [jP 141, jI (ji h 150 (Int.toNat (w32 (2 * (ji h 161 (Int.toNat v3)))))), jI (ji h 150 (Int.toNat (w32 ((w32 (2 * (ji h 161 (Int.toNat v3)))) + 1)))), jI (ji h 162 (Int.toNat v3)), jI (ji h 163 (Int.toNat v3))] h (some (jI x20)) h17 ∧ Ly p h17 ∧ 0 ≤ (w32 ((w32 ((w32 (41 * (w32 ((ji h 141 54) - 1)))) + (ji h 174 (Int.toNat (ji h 161 (Int.toNat v3)))))) + x20)) ∧ (w32 ((w32 ((w32 (41 * (w32 ((ji h 141 54) - 1)))) + (ji h 174 (Int.toNat (ji h 161 (Int.toNat v3)))))) + x20)) < 1640 ∧ (Ly p (wl h17 172 (Int.toNat (w32 ((w32 ((w32 (41 * (w32 ((ji h 141 54) - 1)))) + (ji h 174 (Int.toNat (ji h 161 (Int.toNat v3)))))) + x20))) (1 : Int)) → WF d 151 265 [jP 141, jI v1, jI v2, jI v3, jI v4] [] (wl h17 172 (Int.toNat (w32 ((w32 ((w32 (41 * (w32 ((ji h 141 54) - 1)))) + (ji h 174 (Int.toNat (ji h 161 (Int.toNat v3)))))) + x20))) (1 : Int)) Q)) : WF d 151 193 [jP 141, jI v1, jI v2, jI v3, jI v4] [] h Q := by
  refine b_151_193 ?_
  refine ⟨(Ly.t141 L :), ?_⟩
  rw [show jr h 141 53 = 172 from (Ly.r141_53 L :)]
  refine ⟨(Ly.t141 L :), ?_⟩
  refine ⟨(Ly.t141 L :), ?_⟩
  rw [show jr h 141 56 = 174 from (Ly.r141_56 L :)]
  refine ⟨(Ly.t141 L :), ?_⟩
  rw [show jr h 141 35 = 161 from (Ly.r141_35 L :)]
  obtain ⟨z1, z2, H⟩ := H
  refine ⟨inA_mk (N := 2000) (Ly.t161 L :) (Ly.n161 L :) z1 z2, ?_⟩
  obtain ⟨z3, z4, H⟩ := H
  refine ⟨inA_mk (N := 7) (Ly.t174 L :) (Ly.n174 L :) z3 z4, ?_⟩
  refine ⟨(Ly.t141 L :), ?_⟩
  rw [show jr h 141 17 = 150 from (Ly.r141_17 L :)]
  refine ⟨(Ly.t141 L :), ?_⟩
  obtain ⟨z5, z6, H⟩ := H
  refine ⟨inA_mk (N := 2000) (Ly.t161 L :) (Ly.n161 L :) z5 z6, ?_⟩
  obtain ⟨z7, z8, H⟩ := H
  refine ⟨inA_mk (N := 12) (Ly.t150 L :) (Ly.n150 L :) z7 z8, ?_⟩
  refine ⟨(Ly.t141 L :), ?_⟩
  refine ⟨(Ly.t141 L :), ?_⟩
  obtain ⟨z9, z10, H⟩ := H
  refine ⟨inA_mk (N := 2000) (Ly.t161 L :) (Ly.n161 L :) z9 z10, ?_⟩
  obtain ⟨z11, z12, H⟩ := H
  refine ⟨inA_mk (N := 12) (Ly.t150 L :) (Ly.n150 L :) z11 z12, ?_⟩
  refine ⟨(Ly.t141 L :), ?_⟩
  rw [show jr h 141 36 = 162 from (Ly.r141_36 L :)]
  obtain ⟨z13, z14, H⟩ := H
  refine ⟨inA_mk (N := 2000) (Ly.t162 L :) (Ly.n162 L :) z13 z14, ?_⟩
  refine ⟨(Ly.t141 L :), ?_⟩
  rw [show jr h 141 37 = 163 from (Ly.r141_37 L :)]
  obtain ⟨z15, z16, H⟩ := H
  refine ⟨inA_mk (N := 2000) (Ly.t163 L :) (Ly.n163 L :) z15 z16, ?_⟩
  refine ⟨(Ly.t141 L :), ?_⟩
  obtain ⟨x20, h17, e19, L18, H⟩ := H
  refine ⟨x20, h17, e19, ?_⟩
  obtain ⟨z21, z22, H⟩ := H
  refine ⟨inW_mk (N := 1640) (Ly.t172 L18 :) (Ly.n172 L18 :) z21 z22, ?_⟩
  exact H (Ly.wl L18 (a := 172) (k := Int.toNat (w32 ((w32 ((w32 (41 * (w32 ((ji h 141 54) - 1)))) + (ji h 174 (Int.toNat (ji h 161 (Int.toNat v3)))))) + x20))) (x := 1))
set_option maxRecDepth 100000 in
theorem c_151_265 {p : Lpar} {d : Nat} {h : AH} {Q : Option AV → AH → Prop} {v1 : Int} {v2 : Int} {v3 : Int} {v4 : Int} (hd : 9 ≤ d) (L : Ly p h) (H : WF d 151 310 [jP 141, jI v1, jI v2, jI v3, jI v4] [] h Q) : WF d 151 265 [jP 141, jI v1, jI v2, jI v3, jI v4] [] h Q := by
  refine b_151_265 ?_
  exact H
set_option maxRecDepth 100000 in
theorem c_151_268 {p : Lpar} {d : Nat} {h : AH} {Q : Option AV → AH → Prop} {v1 : Int} {v2 : Int} {v3 : Int} {v4 : Int} (hd : 9 ≤ d) (L : Ly p h) (H : ∃ h1, jE d 149 [jP 141] h none h1 ∧ Ly p h1 ∧ WF d 151 272 [jP 141, jI v1, jI v2, jI v3, jI v4] [] h1 Q) : WF d 151 268 [jP 141, jI v1, jI v2, jI v3, jI v4] [] h Q := by
  refine b_151_268 ?_
  refine ⟨(Ly.t141 L :), ?_⟩
  obtain ⟨h1, e3, L2, H⟩ := H
  refine ⟨h1, e3, ?_⟩
  exact H
set_option maxRecDepth 100000 in
theorem c_151_272 {p : Lpar} {d : Nat} {h : AH} {Q : Option AV → AH → Prop} {v1 : Int} {v2 : Int} {v3 : Int} {v4 : Int} (hd : 9 ≤ d) (L : Ly p h) (H : WF d 151 310 [jP 141, jI v1, jI v2, jI v3, jI v4] [] h Q) : WF d 151 272 [jP 141, jI v1, jI v2, jI v3, jI v4] [] h Q := by
  refine b_151_272 ?_
  exact H
set_option maxRecDepth 100000 in
theorem c_151_275 {p : Lpar} {d : Nat} {h : AH} {Q : Option AV → AH → Prop} {v1 : Int} {v2 : Int} {v3 : Int} {v4 : Int} (hd : 9 ≤ d) (L : Ly p h) (H : ∃ h1, jE d 150 [jP 141, jL 1] h none h1 ∧ Ly p h1 ∧ WF d 151 280 [jP 141, jI v1, jI v2, jI v3, jI v4] [] h1 Q) : WF d 151 275 [jP 141, jI v1, jI v2, jI v3, jI v4] [] h Q := by
  refine b_151_275 ?_
  refine ⟨(Ly.t141 L :), ?_⟩
  obtain ⟨h1, e3, L2, H⟩ := H
  refine ⟨h1, e3, ?_⟩
  exact H
set_option maxRecDepth 100000 in
theorem c_151_280 {p : Lpar} {d : Nat} {h : AH} {Q : Option AV → AH → Prop} {v1 : Int} {v2 : Int} {v3 : Int} {v4 : Int} (hd : 9 ≤ d) (L : Ly p h) (H : WF d 151 310 [jP 141, jI v1, jI v2, jI v3, jI v4] [] h Q) : WF d 151 280 [jP 141, jI v1, jI v2, jI v3, jI v4] [] h Q := by
  refine b_151_280 ?_
  exact H
set_option maxRecDepth 100000 in
theorem c_151_283 {p : Lpar} {d : Nat} {h : AH} {Q : Option AV → AH → Prop} {v1 : Int} {v2 : Int} {v3 : Int} {v4 : Int} (hd : 9 ≤ d) (L : Ly p h) (H : ∃ h1, jE d 150 [jP 141, jL (-1)] h none h1 ∧ Ly p h1 ∧ WF d 151 290 [jP 141, jI v1, jI v2, jI v3, jI v4] [] h1 Q) : WF d 151 283 [jP 141, jI v1, jI v2, jI v3, jI v4] [] h Q := by
  refine b_151_283 ?_
  refine ⟨(Ly.t141 L :), ?_⟩
  obtain ⟨h1, e3, L2, H⟩ := H
  refine ⟨h1, e3, ?_⟩
  exact H
set_option maxRecDepth 100000 in
theorem c_151_290 {p : Lpar} {d : Nat} {h : AH} {Q : Option AV → AH → Prop} {v1 : Int} {v2 : Int} {v3 : Int} {v4 : Int} (hd : 9 ≤ d) (L : Ly p h) (H : WF d 151 310 [jP 141, jI v1, jI v2, jI v3, jI v4] [] h Q) : WF d 151 290 [jP 141, jI v1, jI v2, jI v3, jI v4] [] h Q := by
  refine b_151_290 ?_
  exact H
set_option maxRecDepth 100000 in
theorem c_151_293 {p : Lpar} {d : Nat} {h : AH} {Q : Option AV → AH → Prop} {v1 : Int} {v2 : Int} {v3 : Int} {v4 : Int} (hd : 9 ≤ d) (L : Ly p h) (H : ∃ x4 h1, jE d 152 [jP 141, jI v3] h (some (jI x4)) h1 ∧ Ly p h1 ∧ WF d 151 300 [jP 141, jI v1, jI v2, jI v3, jI x4] [] h1 Q) : WF d 151 293 [jP 141, jI v1, jI v2, jI v3, jI v4] [] h Q := by
  refine b_151_293 ?_
  refine ⟨(Ly.t141 L :), ?_⟩
  obtain ⟨x4, h1, e3, L2, H⟩ := H
  refine ⟨x4, h1, e3, ?_⟩
  exact H
set_option maxRecDepth 100000 in
theorem c_151_300 {p : Lpar} {d : Nat} {h : AH} {Q : Option AV → AH → Prop} {v1 : Int} {v2 : Int} {v3 : Int} {v4 : Int} (hd : 9 ≤ d) (L : Ly p h) (H : WF d 151 310 [jP 141, jI v1, jI v2, jI v3, jI v4] [] h Q) : WF d 151 300 [jP 141, jI v1, jI v2, jI v3, jI v4] [] h Q := by
  refine b_151_300 ?_
  exact H
set_option maxRecDepth 100000 in
theorem c_151_303 {p : Lpar} {d : Nat} {h : AH} {Q : Option AV → AH → Prop} {v1 : Int} {v2 : Int} {v3 : Int} {v4 : Int} (hd : 9 ≤ d) (L : Ly p h) (H : ∃ x4 h1, jE d 154 [jP 141, jI v3] h (some (jI x4)) h1 ∧ Ly p h1 ∧ WF d 151 310 [jP 141, jI v1, jI v2, jI v3, jI x4] [] h1 Q) : WF d 151 303 [jP 141, jI v1, jI v2, jI v3, jI v4] [] h Q := by
  refine b_151_303 ?_
  refine ⟨(Ly.t141 L :), ?_⟩
  obtain ⟨x4, h1, e3, L2, H⟩ := H
  refine ⟨x4, h1, e3, ?_⟩
  exact H
set_option maxRecDepth 100000 in
theorem c_151_310 {p : Lpar} {d : Nat} {h : AH} {Q : Option AV → AH → Prop} {v1 : Int} {v2 : Int} {v3 : Int} {v4 : Int} (hd : 9 ≤ d) (L : Ly p h) (H : WF d 151 313 [jP 141, jI v1, jI v2, jI v4, jI v4] [] h Q) : WF d 151 310 [jP 141, jI v1, jI v2, jI v3, jI v4] [] h Q := by
  refine b_151_310 ?_
  exact H
set_option maxRecDepth 100000 in
theorem c_151_313 {p : Lpar} {d : Nat} {h : AH} {Q : Option AV → AH → Prop} {v1 : Int} {v2 : Int} {v3 : Int} {v4 : Int} (hd : 9 ≤ d) (L : Ly p h) (H : WF d 151 2 [jP 141, jI v1, jI v2, jI v3, jI v4] [] h Q) : WF d 151 313 [jP 141, jI v1, jI v2, jI v3, jI v4] [] h Q := by
  refine b_151_313 ?_
  exact H
set_option maxRecDepth 100000 in
theorem c_152_0 {p : Lpar} {d : Nat} {h : AH} {Q : Option AV → AH → Prop} {v1 : Int} (hd : 9 ≤ d) (L : Ly p h) (H : ∃ h1, jE d 146 [jP 141, jL 0] h none h1 ∧ Ly p h1 ∧ WF d 152 5 [jP 141, jI v1, jU, jU] [] h1 Q) : WF d 152 0 [jP 141, jI v1, jU, jU] [] h Q := by
  refine b_152_0 ?_
  refine ⟨(Ly.t141 L :), ?_⟩
  obtain ⟨h1, e3, L2, H⟩ := H
  refine ⟨h1, e3, ?_⟩
  exact H
set_option maxRecDepth 100000 in
theorem c_152_5 {p : Lpar} {d : Nat} {h : AH} {Q : Option AV → AH → Prop} {v1 : Int} {z2 : AV} {z3 : AV} (hd : 9 ≤ d) (L : Ly p h) (H : 0 ≤ v1 ∧ v1 < 2000 ∧ WF d 152 12 [jP 141, jI v1, jI (ji h 162 (Int.toNat v1)), z3] [] h Q) : WF d 152 5 [jP 141, jI v1, z2, z3] [] h Q := by
  refine b_152_5 ?_
  refine ⟨(Ly.t141 L :), ?_⟩
  rw [show jr h 141 36 = 162 from (Ly.r141_36 L :)]
  obtain ⟨z1, z2, H⟩ := H
  refine ⟨inA_mk (N := 2000) (Ly.t162 L :) (Ly.n162 L :) z1 z2, ?_⟩
  exact H
set_option maxRecDepth 100000 in
theorem c_152_12 {p : Lpar} {d : Nat} {h : AH} {Q : Option AV → AH → Prop} {v1 : Int} {v2 : Int} {z3 : AV} (hd : 9 ≤ d) (L : Ly p h) (H : 0 ≤ v1 ∧ v1 < 2000 ∧ WF d 152 19 [jP 141, jI v1, jI v2, jI (ji h 163 (Int.toNat v1))] [] h Q) : WF d 152 12 [jP 141, jI v1, jI v2, z3] [] h Q := by
  refine b_152_12 ?_
  refine ⟨(Ly.t141 L :), ?_⟩
  rw [show jr h 141 37 = 163 from (Ly.r141_37 L :)]
  obtain ⟨z1, z2, H⟩ := H
  refine ⟨inA_mk (N := 2000) (Ly.t163 L :) (Ly.n163 L :) z1 z2, ?_⟩
  exact H
set_option maxRecDepth 100000 in
theorem c_152_19 {p : Lpar} {d : Nat} {h : AH} {Q : Option AV → AH → Prop} {v1 : Int} {v2 : Int} {v3 : Int} (hd : 9 ≤ d) (L : Ly p h) (H : (v2 = -1 ∨ (0 ≤ v2 ∧ v2 < 6)) ∧ (v3 = -1 ∨ (0 ≤ v3 ∧ v3 < 6)) ∧ ((w32 ((if v2 = -1 then 1 else ji h 145 (Int.toNat v2)) * (if v3 = -1 then 1 else ji h 145 (Int.toNat v3)))) = (0 : Int) → ∃ x12 h9, jE d 153 [jP 141, jI v1] h (some (jI x12)) h9 ∧ Ly p h9 ∧ Q (some (jI x12)) h9) ∧ (¬ (w32 ((if v2 = -1 then 1 else ji h 145 (Int.toNat v2)) * (if v3 = -1 then 1 else ji h 145 (Int.toNat v3)))) = (0 : Int) → 0 ≤ v1 ∧ v1 < 2000 ∧ 0 ≤ v2 ∧ v2 < 6 ∧ 0 ≤ (ji h 161 (Int.toNat v1)) ∧ (ji h 161 (Int.toNat v1)) < 20 ∧ (Ly p (wi h 173 (Int.toNat (ji h 161 (Int.toNat v1))) (ji h 144 (Int.toNat v2))) → WF d 152 56 [jP 141, jI v1, jI v2, jI v3] [] (wi h 173 (Int.toNat (ji h 161 (Int.toNat v1))) (ji h 144 (Int.toNat v2))) Q))) : WF d 152 19 [jP 141, jI v1, jI v2, jI v3] [] h Q := by
  refine b_152_19 ?_
  refine ⟨(Ly.t141 L :), ?_⟩
  obtain ⟨z1, H⟩ := H
  refine ⟨_, _, m_127 (d := d) (by omega) L z1, ?_⟩
  refine ⟨(Ly.t141 L :), ?_⟩
  obtain ⟨z2, H⟩ := H
  refine ⟨_, _, m_127 (d := d) (by omega) L z2, ?_⟩
  refine ⟨fun c13 => ?_, fun c13 => ?_⟩
  · have H := H.2 c13
    refine ⟨(Ly.t141 L :), ?_⟩
    rw [show jr h 141 55 = 173 from (Ly.r141_55 L :)]
    refine ⟨(Ly.t141 L :), ?_⟩
    rw [show jr h 141 35 = 161 from (Ly.r141_35 L :)]
    obtain ⟨z3, z4, H⟩ := H
    refine ⟨inA_mk (N := 2000) (Ly.t161 L :) (Ly.n161 L :) z3 z4, ?_⟩
    refine ⟨(Ly.t141 L :), ?_⟩
    rw [show jr h 141 9 = 144 from (Ly.r141_9 L :)]
    obtain ⟨z5, z6, H⟩ := H
    refine ⟨inA_mk (N := 6) (Ly.t144 L :) (Ly.n144 L :) z5 z6, ?_⟩
    obtain ⟨z7, z8, H⟩ := H
    refine ⟨inW_mk (N := 20) (Ly.t173 L :) (Ly.n173 L :) z7 z8, ?_⟩
    exact H (Ly.wi L (a := 173) (k := Int.toNat (ji h 161 (Int.toNat v1))) (x := ji h 144 (Int.toNat v2)) (by decide))
  · have c13 := Decidable.not_not.mp c13
    have H := H.1 c13
    refine ⟨(Ly.t141 L :), ?_⟩
    obtain ⟨x12, h9, e11, L10, H⟩ := H
    refine ⟨x12, h9, e11, ?_⟩
    exact H
set_option maxRecDepth 100000 in
theorem c_152_56 {p : Lpar} {d : Nat} {h : AH} {Q : Option AV → AH → Prop} {v1 : Int} {v2 : Int} {v3 : Int} (hd : 9 ≤ d) (L : Ly p h) (H : (v3 = (-1) → WF d 152 80 [jP 141, jI v1, jI v2, jI v3] [] h Q) ∧ (¬ (v3 = (-1)) → 0 ≤ v1 ∧ v1 < 2000 ∧ 0 ≤ v3 ∧ v3 < 6 ∧ 0 ≤ (w32 ((ji h 161 (Int.toNat v1)) + 1)) ∧ (w32 ((ji h 161 (Int.toNat v1)) + 1)) < 20 ∧ (Ly p (wi h 173 (Int.toNat (w32 ((ji h 161 (Int.toNat v1)) + 1))) (ji h 144 (Int.toNat v3))) → WF d 152 80 [jP 141, jI v1, jI v2, jI v3] [] (wi h 173 (Int.toNat (w32 ((ji h 161 (Int.toNat v1)) + 1))) (ji h 144 (Int.toNat v3))) Q))) : WF d 152 56 [jP 141, jI v1, jI v2, jI v3] [] h Q := by
  refine b_152_56 ?_
  refine ⟨fun c7 => ?_, fun c7 => ?_⟩
  · have H := H.1 c7
    exact H
  · have H := H.2 c7
    refine ⟨(Ly.t141 L :), ?_⟩
    rw [show jr h 141 55 = 173 from (Ly.r141_55 L :)]
    refine ⟨(Ly.t141 L :), ?_⟩
    rw [show jr h 141 35 = 161 from (Ly.r141_35 L :)]
    obtain ⟨z1, z2, H⟩ := H
    refine ⟨inA_mk (N := 2000) (Ly.t161 L :) (Ly.n161 L :) z1 z2, ?_⟩
    refine ⟨(Ly.t141 L :), ?_⟩
    rw [show jr h 141 9 = 144 from (Ly.r141_9 L :)]
    obtain ⟨z3, z4, H⟩ := H
    refine ⟨inA_mk (N := 6) (Ly.t144 L :) (Ly.n144 L :) z3 z4, ?_⟩
    obtain ⟨z5, z6, H⟩ := H
    refine ⟨inW_mk (N := 20) (Ly.t173 L :) (Ly.n173 L :) z5 z6, ?_⟩
    exact H (Ly.wi L (a := 173) (k := Int.toNat (w32 ((ji h 161 (Int.toNat v1)) + 1))) (x := ji h 144 (Int.toNat v3)) (by decide))
set_option maxRecDepth 100000 in
theorem c_152_80 {p : Lpar} {d : Nat} {h : AH} {Q : Option AV → AH → Prop} {v1 : Int} {v2 : Int} {v3 : Int} (hd : 9 ≤ d) (L : Ly p h) (H : Q (some (jI (w32 (v1 + 1)))) h) : WF d 152 80 [jP 141, jI v1, jI v2, jI v3] [] h Q := by
  refine b_152_80 ?_
  exact H
set_option maxRecDepth 100000 in
theorem c_153_0 {p : Lpar} {d : Nat} {h : AH} {Q : Option AV → AH → Prop} {v1 : Int} (hd : 9 ≤ d) (L : Ly p h) (H : WF d 153 4 [jP 141, jI v1, jI (w32 (v1 + 1))] [] h Q) : WF d 153 0 [jP 141, jI v1, jU] [] h Q := by
  refine b_153_0 ?_
  exact H
set_option maxRecDepth 100000 in
theorem c_153_4 {p : Lpar} {d : Nat} {h : AH} {Q : Option AV → AH → Prop} {v1 : Int} {v2 : Int} (hd : 9 ≤ d) (L : Ly p h) (H : 0 ≤ v2 ∧ v2 < 2000 ∧ ((ji h 160 (Int.toNat v2)) = 10 → 0 ≤ v2 ∧ v2 < 2000 ∧ ((ji h 161 (Int.toNat v2)) = v1 → Q (some (jI (w32 (v2 + 1)))) h) ∧ (¬ ((ji h 161 (Int.toNat v2)) = v1) → WF d 153 4 [jP 141, jI v1, jI (w32 (v2 + 1))] [] h Q)) ∧ (¬ (ji h 160 (Int.toNat v2)) = 10 → WF d 153 4 [jP 141, jI v1, jI (w32 (v2 + 1))] [] h Q)) : WF d 153 4 [jP 141, jI v1, jI v2] [] h Q := by
  refine b_153_4 ?_
  refine ⟨(Ly.t141 L :), ?_⟩
  rw [show jr h 141 34 = 160 from (Ly.r141_34 L :)]
  obtain ⟨z1, z2, H⟩ := H
  refine ⟨inA_mk (N := 2000) (Ly.t160 L :) (Ly.n160 L :) z1 z2, ?_⟩
  refine ⟨fun c6 => ?_, fun c6 => ?_⟩
  · have H := H.2 c6
    exact H
  · have c6 := Decidable.not_not.mp c6
    have H := H.1 c6
    refine ⟨(Ly.t141 L :), ?_⟩
    rw [show jr h 141 35 = 161 from (Ly.r141_35 L :)]
    obtain ⟨z3, z4, H⟩ := H
    refine ⟨inA_mk (N := 2000) (Ly.t161 L :) (Ly.n161 L :) z3 z4, ?_⟩
    refine ⟨fun c5 => ?_, fun c5 => ?_⟩
    · have H := H.1 c5
      exact H
    · have H := H.2 c5
      exact H
set_option maxRecDepth 100000 in
theorem c_154_0 {p : Lpar} {d : Nat} {h : AH} {Q : Option AV → AH → Prop} {v1 : Int} (hd : 9 ≤ d) (L : Ly p h) (H : ∃ h1, jE d 150 [jP 141, jL 1] h none h1 ∧ Ly p h1 ∧ WF d 154 5 [jP 141, jI v1, jU, jU, jU, jU] [] h1 Q) : WF d 154 0 [jP 141, jI v1, jU, jU, jU, jU] [] h Q := by
  refine b_154_0 ?_
  refine ⟨(Ly.t141 L :), ?_⟩
  obtain ⟨h1, e3, L2, H⟩ := H
  refine ⟨h1, e3, ?_⟩
  exact H
set_option maxRecDepth 100000 in
theorem c_154_5 {p : Lpar} {d : Nat} {h : AH} {Q : Option AV → AH → Prop} {v1 : Int} {z2 : AV} {z3 : AV} {z4 : AV} {z5 : AV} (hd : 9 ≤ d) (L : Ly p h) (H : 0 ≤ v1 ∧ v1 < 2000 ∧ WF d 154 12 [jP 141, jI v1, jI (ji h 161 (Int.toNat v1)), z3, z4, z5] [] h Q) : WF d 154 5 [jP 141, jI v1, z2, z3, z4, z5] [] h Q := by
  refine b_154_5 ?_
  refine ⟨(Ly.t141 L :), ?_⟩
  rw [show jr h 141 35 = 161 from (Ly.r141_35 L :)]
  obtain ⟨z1, z2, H⟩ := H
  refine ⟨inA_mk (N := 2000) (Ly.t161 L :) (Ly.n161 L :) z1 z2, ?_⟩
  exact H
set_option maxRecDepth 100000 in
theorem c_154_12 {p : Lpar} {d : Nat} {h : AH} {Q : Option AV → AH → Prop} {v1 : Int} {v2 : Int} {z3 : AV} {z4 : AV} {z5 : AV} (hd : 9 ≤ d) (L : Ly p h) (H : 0 ≤ v2 ∧ v2 < 2000 ∧ WF d 154 19 [jP 141, jI v1, jI v2, jI (ji h 161 (Int.toNat v2)), z4, z5] [] h Q) : WF d 154 12 [jP 141, jI v1, jI v2, z3, z4, z5] [] h Q := by
  refine b_154_12 ?_
  refine ⟨(Ly.t141 L :), ?_⟩
  rw [show jr h 141 35 = 161 from (Ly.r141_35 L :)]
  obtain ⟨z1, z2, H⟩ := H
  refine ⟨inA_mk (N := 2000) (Ly.t161 L :) (Ly.n161 L :) z1 z2, ?_⟩
  exact H
set_option maxRecDepth 100000 in
theorem c_154_19 {p : Lpar} {d : Nat} {h : AH} {Q : Option AV → AH → Prop} {v1 : Int} {v2 : Int} {v3 : Int} {z4 : AV} {z5 : AV} (hd : 9 ≤ d) (L : Ly p h) (H : 0 ≤ v2 ∧ v2 < 2000 ∧ ((ji h 163 (Int.toNat v2)) = (-1) → WF d 154 36 [jP 141, jI v1, jI v2, jI v3, jI 0, z5] [] h Q) ∧ (¬ (ji h 163 (Int.toNat v2)) = (-1) → WF d 154 36 [jP 141, jI v1, jI v2, jI v3, jI 1, z5] [] h Q)) : WF d 154 19 [jP 141, jI v1, jI v2, jI v3, z4, z5] [] h Q := by
  refine b_154_19 ?_
  refine ⟨(Ly.t141 L :), ?_⟩
  rw [show jr h 141 37 = 163 from (Ly.r141_37 L :)]
  obtain ⟨z1, z2, H⟩ := H
  refine ⟨inA_mk (N := 2000) (Ly.t163 L :) (Ly.n163 L :) z1 z2, ?_⟩
  refine ⟨fun c3 => ?_, fun c3 => ?_⟩
  · have H := H.2 c3
    exact H
  · have c3 := Decidable.not_not.mp c3
    have H := H.1 c3
    exact H
set_option maxRecDepth 100000 in
theorem c_154_36 {p : Lpar} {d : Nat} {h : AH} {Q : Option AV → AH → Prop} {v1 : Int} {v2 : Int} {v3 : Int} {v4 : Int} {z5 : AV} (hd : 9 ≤ d) (L : Ly p h) (H : (v4 < 0 → Q (some (jI (w32 (v1 + 1)))) h) ∧ (¬ (v4 < 0) → (v4 = (0 : Int) → 0 ≤ v2 ∧ v2 < 2000 ∧ WF d 154 63 [jP 141, jI v1, jI v2, jI v3, jI v4, jI (ji h 162 (Int.toNat v2))] [] h Q) ∧ (¬ v4 = (0 : Int) → 0 ≤ v2 ∧ v2 < 2000 ∧ WF d 154 63 [jP 141, jI v1, jI v2, jI v3, jI v4, jI (ji h 163 (Int.toNat v2))] [] h Q))) : WF d 154 36 [jP 141, jI v1, jI v2, jI v3, jI v4, z5] [] h Q := by
  refine b_154_36 ?_
  refine ⟨fun c6 => ?_, fun c6 => ?_⟩
  · have H := H.1 c6
    exact H
  · have H := H.2 c6
    refine ⟨fun c5 => ?_, fun c5 => ?_⟩
    · have H := H.2 c5
      refine ⟨(Ly.t141 L :), ?_⟩
      rw [show jr h 141 37 = 163 from (Ly.r141_37 L :)]
      obtain ⟨z1, z2, H⟩ := H
      refine ⟨inA_mk (N := 2000) (Ly.t163 L :) (Ly.n163 L :) z1 z2, ?_⟩
      exact H
    · have c5 := Decidable.not_not.mp c5
      have H := H.1 c5
      refine ⟨(Ly.t141 L :), ?_⟩
      rw [show jr h 141 36 = 162 from (Ly.r141_36 L :)]
      obtain ⟨z3, z4, H⟩ := H
      refine ⟨inA_mk (N := 2000) (Ly.t162 L :) (Ly.n162 L :) z3 z4, ?_⟩
      exact H
set_option maxRecDepth 100000 in
theorem c_154_63 {p : Lpar} {d : Nat} {h : AH} {Q : Option AV → AH → Prop} {v1 : Int} {v2 : Int} {v3 : Int} {v4 : Int} {v5 : Int} (hd : 9 ≤ d) (L : Ly p h) (H : 0 ≤ (w32 (v3 + v4)) ∧ (w32 (v3 + v4)) < 20 ∧ 0 ≤ (w32 (v3 + v4)) ∧ (w32 (v3 + v4)) < 20 ∧ (Ly p (wi h 173 (Int.toNat (w32 (v3 + v4))) (w32 ((ji h 173 (Int.toNat (w32 (v3 + v4)))) + 1))) → WF d 154 76 [jP 141, jI v1, jI v2, jI v3, jI v4, jI v5] [] (wi h 173 (Int.toNat (w32 (v3 + v4))) (w32 ((ji h 173 (Int.toNat (w32 (v3 + v4)))) + 1))) Q)) : WF d 154 63 [jP 141, jI v1, jI v2, jI v3, jI v4, jI v5] [] h Q := by
  refine b_154_63 ?_
  refine ⟨(Ly.t141 L :), ?_⟩
  rw [show jr h 141 55 = 173 from (Ly.r141_55 L :)]
  obtain ⟨z1, z2, H⟩ := H
  refine ⟨inA_mk (N := 20) (Ly.t173 L :) (Ly.n173 L :) z1 z2, ?_⟩
  obtain ⟨z3, z4, H⟩ := H
  refine ⟨inW_mk (N := 20) (Ly.t173 L :) (Ly.n173 L :) z3 z4, ?_⟩
  exact H (Ly.wi L (a := 173) (k := Int.toNat (w32 (v3 + v4))) (x := w32 ((ji h 173 (Int.toNat (w32 (v3 + v4)))) + 1)) (by decide))
set_option maxRecDepth 100000 in
theorem c_154_76 {p : Lpar} {d : Nat} {h : AH} {Q : Option AV → AH → Prop} {v1 : Int} {v2 : Int} {v3 : Int} {v4 : Int} {v5 : Int} (hd : 9 ≤ d) (L : Ly p h) (H : 0 ≤ (w32 (v3 + v4)) ∧ (w32 (v3 + v4)) < 20 ∧ 0 ≤ v5 ∧ v5 < 6 ∧ 0 ≤ v5 ∧ v5 < 6 ∧ ((w32 ((ji h 144 (Int.toNat v5)) + (ji h 145 (Int.toNat v5)))) ≤ (ji h 173 (Int.toNat (w32 (v3 + v4)))) → 0 ≤ v5 ∧ v5 < 6 ∧ 0 ≤ (w32 (v3 + v4)) ∧ (w32 (v3 + v4)) < 20 ∧ (Ly p (wi h 173 (Int.toNat (w32 (v3 + v4))) (ji h 144 (Int.toNat v5))) → WF d 154 123 [jP 141, jI v1, jI v2, jI v3, jI v4, jI v5] [] (wi h 173 (Int.toNat (w32 (v3 + v4))) (ji h 144 (Int.toNat v5))) Q)) ∧ (¬ ((w32 ((ji h 144 (Int.toNat v5)) + (ji h 145 (Int.toNat v5)))) ≤ (ji h 173 (Int.toNat (w32 (v3 + v4))))) → Q (some (jI (w32 (v2 + 1)))) h)) : WF d 154 76 [jP 141, jI v1, jI v2, jI v3, jI v4, jI v5] [] h Q := by
  refine b_154_76 ?_
  refine ⟨(Ly.t141 L :), ?_⟩
  rw [show jr h 141 55 = 173 from (Ly.r141_55 L :)]
  obtain ⟨z1, z2, H⟩ := H
  refine ⟨inA_mk (N := 20) (Ly.t173 L :) (Ly.n173 L :) z1 z2, ?_⟩
  refine ⟨(Ly.t141 L :), ?_⟩
  rw [show jr h 141 9 = 144 from (Ly.r141_9 L :)]
  obtain ⟨z3, z4, H⟩ := H
  refine ⟨inA_mk (N := 6) (Ly.t144 L :) (Ly.n144 L :) z3 z4, ?_⟩
  refine ⟨(Ly.t141 L :), ?_⟩
  rw [show jr h 141 10 = 145 from (Ly.r141_10 L :)]
  obtain ⟨z5, z6, H⟩ := H
  refine ⟨inA_mk (N := 6) (Ly.t145 L :) (Ly.n145 L :) z5 z6, ?_⟩
  refine ⟨fun c11 => ?_, fun c11 => ?_⟩
  · have H := H.1 c11
    refine ⟨(Ly.t141 L :), ?_⟩
    refine ⟨(Ly.t141 L :), ?_⟩
    obtain ⟨z7, z8, H⟩ := H
    refine ⟨inA_mk (N := 6) (Ly.t144 L :) (Ly.n144 L :) z7 z8, ?_⟩
    obtain ⟨z9, z10, H⟩ := H
    refine ⟨inW_mk (N := 20) (Ly.t173 L :) (Ly.n173 L :) z9 z10, ?_⟩
    exact H (Ly.wi L (a := 173) (k := Int.toNat (w32 (v3 + v4))) (x := ji h 144 (Int.toNat v5)) (by decide))
  · have H := H.2 c11
    exact H
set_option maxRecDepth 100000 in
theorem c_154_123 {p : Lpar} {d : Nat} {h : AH} {Q : Option AV → AH → Prop} {v1 : Int} {v2 : Int} {v3 : Int} {v4 : Int} {v5 : Int} (hd : 9 ≤ d) (L : Ly p h) (H : WF d 154 36 [jP 141, jI v1, jI v2, jI v3, jI (w32 (v4 + (-1))), jI v5] [] h Q) : WF d 154 123 [jP 141, jI v1, jI v2, jI v3, jI v4, jI v5] [] h Q := by
  refine b_154_123 ?_
  exact H
set_option maxRecDepth 100000 in
theorem c_155_0 {p : Lpar} {d : Nat} {h : AH} {Q : Option AV → AH → Prop} {v1 : Int} (hd : 9 ≤ d) (L : Ly p h) (H : 0 ≤ (w32 (2 * v1)) ∧ (w32 (2 * v1)) < 20 ∧ ((ji h 154 (Int.toNat (w32 (2 * v1)))) = -1 ∨ (0 ≤ (ji h 154 (Int.toNat (w32 (2 * v1)))) ∧ (ji h 154 (Int.toNat (w32 (2 * v1)))) < 6)) ∧ 0 ≤ (w32 ((w32 (2 * v1)) + 1)) ∧ (w32 ((w32 (2 * v1)) + 1)) < 20 ∧ ((ji h 154 (Int.toNat (w32 ((w32 (2 * v1)) + 1)))) = -1 ∨ (0 ≤ (ji h 154 (Int.toNat (w32 ((w32 (2 * v1)) + 1)))) ∧ (ji h 154 (Int.toNat (w32 ((w32 (2 * v1)) + 1)))) < 6)) ∧ Q (some (jI (w32 ((if (ji h 154 (Int.toNat (w32 (2 * v1)))) = -1 then 1 else ji h 145 (Int.toNat (ji h 154 (Int.toNat (w32 (2 * v1)))))) * (if (ji h 154 (Int.toNat (w32 ((w32 (2 * v1)) + 1)))) = -1 then 1 else ji h 145 (Int.toNat (ji h 154 (Int.toNat (w32 ((w32 (2 * v1)) + 1)))))))))) h) : WF d 155 0 [jP 141, jI v1] [] h Q := by
  refine b_155_0 ?_
  refine ⟨(Ly.t141 L :), ?_⟩
  rw [show jr h 141 22 = 154 from (Ly.r141_22 L :)]
  obtain ⟨z1, z2, H⟩ := H
  refine ⟨inA_mk (N := 20) (Ly.t154 L :) (Ly.n154 L :) z1 z2, ?_⟩
  refine ⟨(Ly.t141 L :), ?_⟩
  obtain ⟨z3, H⟩ := H
  refine ⟨_, _, m_127 (d := d) (by omega) L z3, ?_⟩
  refine ⟨(Ly.t141 L :), ?_⟩
  rw [show jr h 141 22 = 154 from (Ly.r141_22 L :)]
  obtain ⟨z4, z5, H⟩ := H
  refine ⟨inA_mk (N := 20) (Ly.t154 L :) (Ly.n154 L :) z4 z5, ?_⟩
  refine ⟨(Ly.t141 L :), ?_⟩
  obtain ⟨z6, H⟩ := H
  refine ⟨_, _, m_127 (d := d) (by omega) L z6, ?_⟩
  exact H
