set_option maxRecDepth 100000 in
theorem c_156_0 {p : Lpar} {d : Nat} {h : AH} {Q : Option AV → AH → Prop}  (hd : 9 ≤ d) (L : Ly p h) (H : ∃ h1, jE d 135 [jP 141] h none h1 ∧ Ly p h1 ∧ WF d 156 4 [jP 141, jU, jU, jU, jU, jU] [] h1 Q) : WF d 156 0 [jP 141, jU, jU, jU, jU, jU] [] h Q := by
  refine b_156_0 ?_
  refine ⟨(Ly.t141 L :), ?_⟩
  obtain ⟨h1, e3, L2, H⟩ := H
  refine ⟨h1, e3, ?_⟩
  exact H
set_option maxRecDepth 100000 in
theorem c_156_4 {p : Lpar} {d : Nat} {h : AH} {Q : Option AV → AH → Prop} {z1 : AV} {z2 : AV} {z3 : AV} {z4 : AV} {z5 : AV} (hd : 9 ≤ d) (L : Ly p h) (H : (Ly p (wi h 141 1 0) → WF d 156 9 [jP 141, z1, z2, z3, z4, z5] [] (wi h 141 1 0) Q)) : WF d 156 4 [jP 141, z1, z2, z3, z4, z5] [] h Q := by
  refine b_156_4 ?_
  refine ⟨(Ly.t141 L :), ?_⟩
  exact H (Ly.wi L (a := 141) (k := 1) (x := 0) (by decide))
set_option maxRecDepth 100000 in
theorem c_156_9 {p : Lpar} {d : Nat} {h : AH} {Q : Option AV → AH → Prop} {z1 : AV} {z2 : AV} {z3 : AV} {z4 : AV} {z5 : AV} (hd : 9 ≤ d) (L : Ly p h) (H : ((ji h 141 6) = (-1) → WF d 156 27 [jP 141, jI 0, z2, z3, z4, z5] [] h Q) ∧ (¬ ((ji h 141 6) = (-1)) → Q (some (jI (w32 ((-10) - (ji h 141 6))))) h)) : WF d 156 9 [jP 141, z1, z2, z3, z4, z5] [] h Q := by
  refine b_156_9 ?_
  refine ⟨(Ly.t141 L :), ?_⟩
  refine ⟨fun c1 => ?_, fun c1 => ?_⟩
  · have H := H.1 c1
    exact H
  · have H := H.2 c1
    refine ⟨(Ly.t141 L :), ?_⟩
    exact H
set_option maxRecDepth 100000 in
theorem c_156_27 {p : Lpar} {d : Nat} {h : AH} {Q : Option AV → AH → Prop} {v1 : Int} {z2 : AV} {z3 : AV} {z4 : AV} {z5 : AV} (hd : 9 ≤ d) (L : Ly p h) (H : WF d 156 29 [jP 141, jI v1, jI 0, z3, z4, z5] [] h Q) : WF d 156 27 [jP 141, jI v1, z2, z3, z4, z5] [] h Q := by
  refine b_156_27 ?_
  exact H
set_option maxRecDepth 100000 in
theorem c_156_29 {p : Lpar} {d : Nat} {h : AH} {Q : Option AV → AH → Prop} {v1 : Int} {v2 : Int} {z3 : AV} {z4 : AV} {z5 : AV} (hd : 9 ≤ d) (L : Ly p h) (H : ((ji h 141 15) ≤ v2 → WF d 156 82 [jP 141, jI v1, jI 0, z3, z4, z5] [] h Q) ∧ (¬ ((ji h 141 15) ≤ v2) → 0 ≤ v2 ∧ v2 < 7 ∧ (Ly p (wi h 174 (Int.toNat v2) v1) → WF d 156 44 [jP 141, jI v1, jI v2, z3, z4, z5] [] (wi h 174 (Int.toNat v2) v1) Q))) : WF d 156 29 [jP 141, jI v1, jI v2, z3, z4, z5] [] h Q := by
  refine b_156_29 ?_
  refine ⟨(Ly.t141 L :), ?_⟩
  refine ⟨fun c3 => ?_, fun c3 => ?_⟩
  · have H := H.1 c3
    exact H
  · have H := H.2 c3
    refine ⟨(Ly.t141 L :), ?_⟩
    rw [show jr h 141 56 = 174 from (Ly.r141_56 L :)]
    obtain ⟨z1, z2, H⟩ := H
    refine ⟨inW_mk (N := 7) (Ly.t174 L :) (Ly.n174 L :) z1 z2, ?_⟩
    exact H (Ly.wi L (a := 174) (k := Int.toNat v2) (x := v1) (by decide))
set_option maxRecDepth 100000 in
theorem c_156_44 {p : Lpar} {d : Nat} {h : AH} {Q : Option AV → AH → Prop} {v1 : Int} {v2 : Int} {z3 : AV} {z4 : AV} {z5 : AV} (hd : 9 ≤ d) (L : Ly p h) (H : 0 ≤ (w32 (2 * v2)) ∧ (w32 (2 * v2)) < 12 ∧ ((ji h 150 (Int.toNat (w32 (2 * v2)))) = -1 ∨ (0 ≤ (ji h 150 (Int.toNat (w32 (2 * v2)))) ∧ (ji h 150 (Int.toNat (w32 (2 * v2)))) < 6)) ∧ 0 ≤ (w32 ((w32 (2 * v2)) + 1)) ∧ (w32 ((w32 (2 * v2)) + 1)) < 12 ∧ ((ji h 150 (Int.toNat (w32 ((w32 (2 * v2)) + 1)))) = -1 ∨ (0 ≤ (ji h 150 (Int.toNat (w32 ((w32 (2 * v2)) + 1)))) ∧ (ji h 150 (Int.toNat (w32 ((w32 (2 * v2)) + 1)))) < 6)) ∧ WF d 156 74 [jP 141, jI (w32 (v1 + (w32 ((if (ji h 150 (Int.toNat (w32 (2 * v2)))) = -1 then 1 else ji h 145 (Int.toNat (ji h 150 (Int.toNat (w32 (2 * v2)))))) * (if (ji h 150 (Int.toNat (w32 ((w32 (2 * v2)) + 1)))) = -1 then 1 else ji h 145 (Int.toNat (ji h 150 (Int.toNat (w32 ((w32 (2 * v2)) + 1)))))))))), jI v2, z3, z4, z5] [] h Q) : WF d 156 44 [jP 141, jI v1, jI v2, z3, z4, z5] [] h Q := by
  refine b_156_44 ?_
  refine ⟨(Ly.t141 L :), ?_⟩
  rw [show jr h 141 17 = 150 from (Ly.r141_17 L :)]
  obtain ⟨z1, z2, H⟩ := H
  refine ⟨inA_mk (N := 12) (Ly.t150 L :) (Ly.n150 L :) z1 z2, ?_⟩
  refine ⟨(Ly.t141 L :), ?_⟩
  obtain ⟨z3, H⟩ := H
  refine ⟨_, _, m_127 (d := d) (by omega) L z3, ?_⟩
  refine ⟨(Ly.t141 L :), ?_⟩
  rw [show jr h 141 17 = 150 from (Ly.r141_17 L :)]
  obtain ⟨z4, z5, H⟩ := H
  refine ⟨inA_mk (N := 12) (Ly.t150 L :) (Ly.n150 L :) z4 z5, ?_⟩
  refine ⟨(Ly.t141 L :), ?_⟩
  obtain ⟨z6, H⟩ := H
  refine ⟨_, _, m_127 (d := d) (by omega) L z6, ?_⟩
  exact H
set_option maxRecDepth 100000 in
theorem c_156_74 {p : Lpar} {d : Nat} {h : AH} {Q : Option AV → AH → Prop} {v1 : Int} {v2 : Int} {z3 : AV} {z4 : AV} {z5 : AV} (hd : 9 ≤ d) (L : Ly p h) (H : WF d 156 29 [jP 141, jI v1, jI (w32 (v2 + 1)), z3, z4, z5] [] h Q) : WF d 156 74 [jP 141, jI v1, jI v2, z3, z4, z5] [] h Q := by
  refine b_156_74 ?_
  exact H
set_option maxRecDepth 100000 in
theorem c_156_82 {p : Lpar} {d : Nat} {h : AH} {Q : Option AV → AH → Prop} {v1 : Int} {v2 : Int} {z3 : AV} {z4 : AV} {z5 : AV} (hd : 9 ≤ d) (L : Ly p h) (H : ((ji h 141 26) ≤ 0 → WF d 156 98 [jP 141, jI v1, jI v2, jL 0, jU, z5] [] h Q) ∧ (¬ ((ji h 141 26) ≤ 0) → WF d 156 98 [jP 141, jI v1, jI v2, jL (jl h 141 29), jU, z5] [] h Q)) : WF d 156 82 [jP 141, jI v1, jI v2, z3, z4, z5] [] h Q := by
  refine b_156_82 ?_
  refine ⟨(Ly.t141 L :), ?_⟩
  refine ⟨fun c1 => ?_, fun c1 => ?_⟩
  · have H := H.1 c1
    exact H
  · have H := H.2 c1
    refine ⟨(Ly.t141 L :), ?_⟩
    exact H
set_option maxRecDepth 100000 in
theorem c_156_98 {p : Lpar} {d : Nat} {h : AH} {Q : Option AV → AH → Prop} {v1 : Int} {v2 : Int} {v3 : Int} {z5 : AV} (hd : 9 ≤ d) (L : Ly p h) (H : WF d 156 101 [jP 141, jI v1, jI v2, jL v3, jU, jI 0] [] h Q) : WF d 156 98 [jP 141, jI v1, jI v2, jL v3, jU, z5] [] h Q := by
  refine b_156_98 ?_
  exact H
set_option maxRecDepth 100000 in
theorem c_156_101 {p : Lpar} {d : Nat} {h : AH} {Q : Option AV → AH → Prop} {v1 : Int} {v2 : Int} {v3 : Int} {v5 : Int} (hd : 9 ≤ d) (L : Ly p h) (H : ((ji h 141 20) ≤ v5 → (40 < v1 → Q (some (jI (-100004))) h) ∧ (¬ (40 < v1) → (40 < v2 → Q (some (jI (-100004))) h) ∧ (¬ (40 < v2) → ((jcmp v3 20000) ≤ 0 → (Ly p (wl h 141 80 v3) → WF d 156 171 [jP 141, jI v1, jI v2, jL v3, jU, jI v5] [] (wl h 141 80 v3) Q)) ∧ (¬ ((jcmp v3 20000) ≤ 0) → Q (some (jI (-100004))) h)))) ∧ (¬ ((ji h 141 20) ≤ v5) → ∃ x7 h4, jE d 155 [jP 141, jI v5] h (some (jI x7)) h4 ∧ Ly p h4 ∧ WF d 156 119 [jP 141, jI v1, jI (w32 (v2 + x7)), jL v3, jU, jI v5] [] h4 Q)) : WF d 156 101 [jP 141, jI v1, jI v2, jL v3, jU, jI v5] [] h Q := by
  refine b_156_101 ?_
  refine ⟨(Ly.t141 L :), ?_⟩
  refine ⟨fun c8 => ?_, fun c8 => ?_⟩
  · have H := H.1 c8
    refine ⟨fun c3 => ?_, fun c3 => ?_⟩
    · have H := H.1 c3
      exact H
    · have H := H.2 c3
      refine ⟨fun c2 => ?_, fun c2 => ?_⟩
      · have H := H.1 c2
        exact H
      · have H := H.2 c2
        refine ⟨fun c1 => ?_, fun c1 => ?_⟩
        · have H := H.1 c1
          refine ⟨(Ly.t141 L :), ?_⟩
          exact H (Ly.wl L (a := 141) (k := 80) (x := v3))
        · have H := H.2 c1
          exact H
  · have H := H.2 c8
    refine ⟨(Ly.t141 L :), ?_⟩
    obtain ⟨x7, h4, e6, L5, H⟩ := H
    refine ⟨x7, h4, e6, ?_⟩
    exact H
set_option maxRecDepth 100000 in
theorem c_156_119 {p : Lpar} {d : Nat} {h : AH} {Q : Option AV → AH → Prop} {v1 : Int} {v2 : Int} {v3 : Int} {v5 : Int} (hd : 9 ≤ d) (L : Ly p h) (H : 0 ≤ v5 ∧ v5 < 10 ∧ ∃ x6 h3, jE d 155 [jP 141, jI v5] h (some (jI x6)) h3 ∧ Ly p h3 ∧ WF d 156 137 [jP 141, jI v1, jI v2, jL (w64 (v3 + (w64 ((jl h 157 (Int.toNat v5)) * x6)))), jU, jI v5] [] h3 Q) : WF d 156 119 [jP 141, jI v1, jI v2, jL v3, jU, jI v5] [] h Q := by
  refine b_156_119 ?_
  refine ⟨(Ly.t141 L :), ?_⟩
  rw [show jr h 141 25 = 157 from (Ly.r141_25 L :)]
  obtain ⟨z1, z2, H⟩ := H
  refine ⟨inA_mk (N := 10) (Ly.t157 L :) (Ly.n157 L :) z1 z2, ?_⟩
  refine ⟨(Ly.t141 L :), ?_⟩
  obtain ⟨x6, h3, e5, L4, H⟩ := H
  refine ⟨x6, h3, e5, ?_⟩
  exact H
set_option maxRecDepth 100000 in
theorem c_156_137 {p : Lpar} {d : Nat} {h : AH} {Q : Option AV → AH → Prop} {v1 : Int} {v2 : Int} {v3 : Int} {v5 : Int} (hd : 9 ≤ d) (L : Ly p h) (H : WF d 156 101 [jP 141, jI v1, jI v2, jL v3, jU, jI (w32 (v5 + 1))] [] h Q) : WF d 156 137 [jP 141, jI v1, jI v2, jL v3, jU, jI v5] [] h Q := by
  refine b_156_137 ?_
  exact H
set_option maxRecDepth 100000 in
theorem c_156_171 {p : Lpar} {d : Nat} {h : AH} {Q : Option AV → AH → Prop} {v1 : Int} {v2 : Int} {v3 : Int} {v5 : Int} (hd : 9 ≤ d) (L : Ly p h) (H : ∃ h1, jE d 157 [jP 141] h none h1 ∧ Ly p h1 ∧ WF d 156 175 [jP 141, jI v1, jI v2, jL v3, jU, jI v5] [] h1 Q) : WF d 156 171 [jP 141, jI v1, jI v2, jL v3, jU, jI v5] [] h Q := by
  refine b_156_171 ?_
  refine ⟨(Ly.t141 L :), ?_⟩
  obtain ⟨h1, e3, L2, H⟩ := H
  refine ⟨h1, e3, ?_⟩
  exact H
set_option maxRecDepth 100000 in
theorem c_156_175 {p : Lpar} {d : Nat} {h : AH} {Q : Option AV → AH → Prop} {v1 : Int} {v2 : Int} {v3 : Int} {v5 : Int} (hd : 9 ≤ d) (L : Ly p h) (H : ∃ h1, jE d 158 [jP 141, jI v1] h none h1 ∧ Ly p h1 ∧ WF d 156 180 [jP 141, jI v1, jI v2, jL v3, jU, jI v5] [] h1 Q) : WF d 156 175 [jP 141, jI v1, jI v2, jL v3, jU, jI v5] [] h Q := by
  refine b_156_175 ?_
  refine ⟨(Ly.t141 L :), ?_⟩
  obtain ⟨h1, e3, L2, H⟩ := H
  refine ⟨h1, e3, ?_⟩
  exact H
set_option maxRecDepth 100000 in
theorem c_156_180 {p : Lpar} {d : Nat} {h : AH} {Q : Option AV → AH → Prop} {v1 : Int} {v2 : Int} {v3 : Int} {v5 : Int} (hd : 9 ≤ d) (L : Ly p h) (H : ∃ h1, jE d 159 [jP 141] h none h1 ∧ Ly p h1 ∧ WF d 156 184 [jP 141, jI v1, jI v2, jL v3, jU, jI v5] [] h1 Q) : WF d 156 180 [jP 141, jI v1, jI v2, jL v3, jU, jI v5] [] h Q := by
  refine b_156_180 ?_
  refine ⟨(Ly.t141 L :), ?_⟩
  obtain ⟨h1, e3, L2, H⟩ := H
  refine ⟨h1, e3, ?_⟩
  exact H
set_option maxRecDepth 100000 in
theorem c_156_184 {p : Lpar} {d : Nat} {h : AH} {Q : Option AV → AH → Prop} {v1 : Int} {v2 : Int} {v3 : Int} {v5 : Int} (hd : 9 ≤ d) (L : Ly p h) (H : (Ly p (wi h 141 78 (ji h 141 26)) → WF d 156 192 [jP 141, jI v1, jI v2, jL v3, jU, jI v5] [] (wi h 141 78 (ji h 141 26)) Q)) : WF d 156 184 [jP 141, jI v1, jI v2, jL v3, jU, jI v5] [] h Q := by
  refine b_156_184 ?_
  refine ⟨(Ly.t141 L :), ?_⟩
  refine ⟨(Ly.t141 L :), ?_⟩
  exact H (Ly.wi L (a := 141) (k := 78) (x := ji h 141 26) (by decide))
set_option maxRecDepth 100000 in
theorem c_156_192 {p : Lpar} {d : Nat} {h : AH} {Q : Option AV → AH → Prop} {v1 : Int} {v2 : Int} {v3 : Int} {v5 : Int} (hd : 9 ≤ d) (L : Ly p h) (H : ((ji h 141 26) ≤ 0 → Q (some (jI (ji h 141 72))) h) ∧ (¬ ((ji h 141 26) ≤ 0) → (Ly p (wi h 141 54 0) → WF d 156 204 [jP 141, jI v1, jI v2, jL v3, jU, jI v5] [] (wi h 141 54 0) Q))) : WF d 156 192 [jP 141, jI v1, jI v2, jL v3, jU, jI v5] [] h Q := by
  refine b_156_192 ?_
  refine ⟨(Ly.t141 L :), ?_⟩
  refine ⟨fun c1 => ?_, fun c1 => ?_⟩
  · have H := H.1 c1
    refine ⟨(Ly.t141 L :), ?_⟩
    exact H
  · have H := H.2 c1
    refine ⟨(Ly.t141 L :), ?_⟩
    exact H (Ly.wi L (a := 141) (k := 54) (x := 0) (by decide))
set_option maxRecDepth 100000 in
theorem c_156_204 {p : Lpar} {d : Nat} {h : AH} {Q : Option AV → AH → Prop} {v1 : Int} {v2 : Int} {v3 : Int} {v5 : Int} (hd : 9 ≤ d) (L : Ly p h) (H : ∃ h1, jE d 151 [jP 141, jI (ji h 141 27), jI (ji h 141 28)] h none h1 ∧ Ly p h1 ∧ WF d 156 216 [jP 141, jI v1, jI v2, jL v3, jU, jI v5] [] h1 Q) : WF d 156 204 [jP 141, jI v1, jI v2, jL v3, jU, jI v5] [] h Q := by
  refine b_156_204 ?_
  refine ⟨(Ly.t141 L :), ?_⟩
  refine ⟨(Ly.t141 L :), ?_⟩
  refine ⟨(Ly.t141 L :), ?_⟩
  obtain ⟨h1, e3, L2, H⟩ := H
  refine ⟨h1, e3, ?_⟩
  exact H
set_option maxRecDepth 100000 in
theorem c_156_216 {p : Lpar} {d : Nat} {h : AH} {Q : Option AV → AH → Prop} {v1 : Int} {v2 : Int} {v3 : Int} {v5 : Int} (hd : 9 ≤ d) (L : Ly p h) (H : WF d 156 219 [jP 141, jI v1, jI v2, jL v3, jU, jI 0] [] h Q) : WF d 156 216 [jP 141, jI v1, jI v2, jL v3, jU, jI v5] [] h Q := by
  refine b_156_216 ?_
  exact H
set_option maxRecDepth 100000 in
theorem c_156_219 {p : Lpar} {d : Nat} {h : AH} {Q : Option AV → AH → Prop} {v1 : Int} {v2 : Int} {v3 : Int} {v5 : Int} (hd : 9 ≤ d) (L : Ly p h) (H : (41 ≤ v5 → Q (some (jI (ji h 141 72))) h) ∧ (¬ (41 ≤ v5) → 0 ≤ v5 ∧ v5 < 1640 ∧ 0 ≤ v5 ∧ v5 < 41 ∧ (Ly p (wl h 194 (Int.toNat v5) (jl h 172 (Int.toNat v5))) → WF d 156 240 [jP 141, jI v1, jI v2, jL v3, jU, jI v5] [] (wl h 194 (Int.toNat v5) (jl h 172 (Int.toNat v5))) Q))) : WF d 156 219 [jP 141, jI v1, jI v2, jL v3, jU, jI v5] [] h Q := by
  refine b_156_219 ?_
  refine ⟨fun c5 => ?_, fun c5 => ?_⟩
  · have H := H.1 c5
    refine ⟨(Ly.t141 L :), ?_⟩
    exact H
  · have H := H.2 c5
    refine ⟨(Ly.t141 L :), ?_⟩
    rw [show jr h 141 79 = 194 from (Ly.r141_79 L :)]
    refine ⟨(Ly.t141 L :), ?_⟩
    rw [show jr h 141 53 = 172 from (Ly.r141_53 L :)]
    obtain ⟨z1, z2, H⟩ := H
    refine ⟨inA_mk (N := 1640) (Ly.t172 L :) (Ly.n172 L :) z1 z2, ?_⟩
    obtain ⟨z3, z4, H⟩ := H
    refine ⟨inW_mk (N := 41) (Ly.t194 L :) (Ly.n194 L :) z3 z4, ?_⟩
    exact H (Ly.wl L (a := 194) (k := Int.toNat v5) (x := jl h 172 (Int.toNat v5)))
set_option maxRecDepth 100000 in
theorem c_156_240 {p : Lpar} {d : Nat} {h : AH} {Q : Option AV → AH → Prop} {v1 : Int} {v2 : Int} {v3 : Int} {v5 : Int} (hd : 9 ≤ d) (L : Ly p h) (H : WF d 156 219 [jP 141, jI v1, jI v2, jL v3, jU, jI (w32 (v5 + 1))] [] h Q) : WF d 156 240 [jP 141, jI v1, jI v2, jL v3, jU, jI v5] [] h Q := by
  refine b_156_240 ?_
  exact H
set_option maxRecDepth 100000 in
theorem c_157_0 {p : Lpar} {d : Nat} {h : AH} {Q : Option AV → AH → Prop}  (hd : 9 ≤ d) (L : Ly p h) (H : (Ly p (wi h 175 (Int.toNat 0) (ji h 141 7)) → WF d 157 10 [jP 141, jU] [] (wi h 175 (Int.toNat 0) (ji h 141 7)) Q)) : WF d 157 0 [jP 141, jU] [] h Q := by
  refine b_157_0 ?_
  refine ⟨(Ly.t141 L :), ?_⟩
  rw [show jr h 141 57 = 175 from (Ly.r141_57 L :)]
  refine ⟨(Ly.t141 L :), ?_⟩
  refine ⟨inW_mk (N := 4) (Ly.t175 L :) (Ly.n175 L :) (by decide) (by decide), ?_⟩
  exact H (Ly.wi L (a := 175) (k := Int.toNat 0) (x := ji h 141 7) (by decide))
set_option maxRecDepth 100000 in
theorem c_157_10 {p : Lpar} {d : Nat} {h : AH} {Q : Option AV → AH → Prop} {z1 : AV} (hd : 9 ≤ d) (L : Ly p h) (H : (Ly p (wi h 175 (Int.toNat 1) (ji h 141 11)) → WF d 157 20 [jP 141, z1] [] (wi h 175 (Int.toNat 1) (ji h 141 11)) Q)) : WF d 157 10 [jP 141, z1] [] h Q := by
  refine b_157_10 ?_
  refine ⟨(Ly.t141 L :), ?_⟩
  rw [show jr h 141 57 = 175 from (Ly.r141_57 L :)]
  refine ⟨(Ly.t141 L :), ?_⟩
  refine ⟨inW_mk (N := 4) (Ly.t175 L :) (Ly.n175 L :) (by decide) (by decide), ?_⟩
  exact H (Ly.wi L (a := 175) (k := Int.toNat 1) (x := ji h 141 11) (by decide))
set_option maxRecDepth 100000 in
theorem c_157_20 {p : Lpar} {d : Nat} {h : AH} {Q : Option AV → AH → Prop} {z1 : AV} (hd : 9 ≤ d) (L : Ly p h) (H : (Ly p (wi h 175 (Int.toNat 2) (ji h 141 15)) → WF d 157 30 [jP 141, z1] [] (wi h 175 (Int.toNat 2) (ji h 141 15)) Q)) : WF d 157 20 [jP 141, z1] [] h Q := by
  refine b_157_20 ?_
  refine ⟨(Ly.t141 L :), ?_⟩
  rw [show jr h 141 57 = 175 from (Ly.r141_57 L :)]
  refine ⟨(Ly.t141 L :), ?_⟩
  refine ⟨inW_mk (N := 4) (Ly.t175 L :) (Ly.n175 L :) (by decide) (by decide), ?_⟩
  exact H (Ly.wi L (a := 175) (k := Int.toNat 2) (x := ji h 141 15) (by decide))
set_option maxRecDepth 100000 in
theorem c_157_30 {p : Lpar} {d : Nat} {h : AH} {Q : Option AV → AH → Prop} {z1 : AV} (hd : 9 ≤ d) (L : Ly p h) (H : (Ly p (wi h 175 (Int.toNat 3) (ji h 141 20)) → WF d 157 40 [jP 141, z1] [] (wi h 175 (Int.toNat 3) (ji h 141 20)) Q)) : WF d 157 30 [jP 141, z1] [] h Q := by
  refine b_157_30 ?_
  refine ⟨(Ly.t141 L :), ?_⟩
  rw [show jr h 141 57 = 175 from (Ly.r141_57 L :)]
  refine ⟨(Ly.t141 L :), ?_⟩
  refine ⟨inW_mk (N := 4) (Ly.t175 L :) (Ly.n175 L :) (by decide) (by decide), ?_⟩
  exact H (Ly.wi L (a := 175) (k := Int.toNat 3) (x := ji h 141 20) (by decide))
set_option maxRecDepth 100000 in
theorem c_157_40 {p : Lpar} {d : Nat} {h : AH} {Q : Option AV → AH → Prop} {z1 : AV} (hd : 9 ≤ d) (L : Ly p h) (H : WF d 157 42 [jP 141, jI 0] [] h Q) : WF d 157 40 [jP 141, z1] [] h Q := by
  refine b_157_40 ?_
  exact H
set_option maxRecDepth 100000 in
theorem c_157_42 {p : Lpar} {d : Nat} {h : AH} {Q : Option AV → AH → Prop} {v1 : Int} (hd : 9 ≤ d) (L : Ly p h) (H : (10 ≤ v1 → WF d 157 143 [jP 141, jI 0] [] h Q) ∧ (¬ (10 ≤ v1) → (6 ≤ v1 → 0 ≤ v1 ∧ v1 < 40 ∧ (Ly p (wi h 176 (Int.toNat v1) (0 : Int)) → WF d 157 70 [jP 141, jI v1] [] (wi h 176 (Int.toNat v1) (0 : Int)) Q)) ∧ (¬ (6 ≤ v1) → 0 ≤ v1 ∧ v1 < 6 ∧ 0 ≤ v1 ∧ v1 < 40 ∧ (Ly p (wi h 176 (Int.toNat v1) (ji h 143 (Int.toNat v1))) → WF d 157 70 [jP 141, jI v1] [] (wi h 176 (Int.toNat v1) (ji h 143 (Int.toNat v1))) Q)))) : WF d 157 42 [jP 141, jI v1] [] h Q := by
  refine b_157_42 ?_
  refine ⟨fun c8 => ?_, fun c8 => ?_⟩
  · have H := H.1 c8
    exact H
  · have H := H.2 c8
    refine ⟨(Ly.t141 L :), ?_⟩
    rw [show jr h 141 58 = 176 from (Ly.r141_58 L :)]
    refine ⟨fun c7 => ?_, fun c7 => ?_⟩
    · have H := H.1 c7
      obtain ⟨z1, z2, H⟩ := H
      refine ⟨inW_mk (N := 40) (Ly.t176 L :) (Ly.n176 L :) z1 z2, ?_⟩
      exact H (Ly.wi L (a := 176) (k := Int.toNat v1) (x := 0) (by decide))
    · have H := H.2 c7
      refine ⟨(Ly.t141 L :), ?_⟩
      rw [show jr h 141 8 = 143 from (Ly.r141_8 L :)]
      obtain ⟨z3, z4, H⟩ := H
      refine ⟨inA_mk (N := 6) (Ly.t143 L :) (Ly.n143 L :) z3 z4, ?_⟩
      obtain ⟨z5, z6, H⟩ := H
      refine ⟨inW_mk (N := 40) (Ly.t176 L :) (Ly.n176 L :) z5 z6, ?_⟩
      exact H (Ly.wi L (a := 176) (k := Int.toNat v1) (x := ji h 143 (Int.toNat v1)) (by decide))
set_option maxRecDepth 100000 in
theorem c_157_70 {p : Lpar} {d : Nat} {h : AH} {Q : Option AV → AH → Prop} {v1 : Int} (hd : 9 ≤ d) (L : Ly p h) (H : (6 ≤ v1 → 0 ≤ (w32 (10 + v1)) ∧ (w32 (10 + v1)) < 40 ∧ (Ly p (wi h 176 (Int.toNat (w32 (10 + v1))) (0 : Int)) → WF d 157 95 [jP 141, jI v1] [] (wi h 176 (Int.toNat (w32 (10 + v1))) (0 : Int)) Q)) ∧ (¬ (6 ≤ v1) → 0 ≤ v1 ∧ v1 < 6 ∧ 0 ≤ (w32 (10 + v1)) ∧ (w32 (10 + v1)) < 40 ∧ (Ly p (wi h 176 (Int.toNat (w32 (10 + v1))) (ji h 146 (Int.toNat v1))) → WF d 157 95 [jP 141, jI v1] [] (wi h 176 (Int.toNat (w32 (10 + v1))) (ji h 146 (Int.toNat v1))) Q))) : WF d 157 70 [jP 141, jI v1] [] h Q := by
  refine b_157_70 ?_
  refine ⟨(Ly.t141 L :), ?_⟩
  rw [show jr h 141 58 = 176 from (Ly.r141_58 L :)]
  refine ⟨fun c7 => ?_, fun c7 => ?_⟩
  · have H := H.1 c7
    obtain ⟨z1, z2, H⟩ := H
    refine ⟨inW_mk (N := 40) (Ly.t176 L :) (Ly.n176 L :) z1 z2, ?_⟩
    exact H (Ly.wi L (a := 176) (k := Int.toNat (w32 (10 + v1))) (x := 0) (by decide))
  · have H := H.2 c7
    refine ⟨(Ly.t141 L :), ?_⟩
    rw [show jr h 141 12 = 146 from (Ly.r141_12 L :)]
    obtain ⟨z3, z4, H⟩ := H
    refine ⟨inA_mk (N := 6) (Ly.t146 L :) (Ly.n146 L :) z3 z4, ?_⟩
    obtain ⟨z5, z6, H⟩ := H
    refine ⟨inW_mk (N := 40) (Ly.t176 L :) (Ly.n176 L :) z5 z6, ?_⟩
    exact H (Ly.wi L (a := 176) (k := Int.toNat (w32 (10 + v1))) (x := ji h 146 (Int.toNat v1)) (by decide))
set_option maxRecDepth 100000 in
theorem c_157_95 {p : Lpar} {d : Nat} {h : AH} {Q : Option AV → AH → Prop} {v1 : Int} (hd : 9 ≤ d) (L : Ly p h) (H : (6 ≤ v1 → 0 ≤ (w32 (20 + v1)) ∧ (w32 (20 + v1)) < 40 ∧ (Ly p (wi h 176 (Int.toNat (w32 (20 + v1))) (0 : Int)) → WF d 157 120 [jP 141, jI v1] [] (wi h 176 (Int.toNat (w32 (20 + v1))) (0 : Int)) Q)) ∧ (¬ (6 ≤ v1) → 0 ≤ v1 ∧ v1 < 6 ∧ 0 ≤ (w32 (20 + v1)) ∧ (w32 (20 + v1)) < 40 ∧ (Ly p (wi h 176 (Int.toNat (w32 (20 + v1))) (ji h 149 (Int.toNat v1))) → WF d 157 120 [jP 141, jI v1] [] (wi h 176 (Int.toNat (w32 (20 + v1))) (ji h 149 (Int.toNat v1))) Q))) : WF d 157 95 [jP 141, jI v1] [] h Q := by
  refine b_157_95 ?_
  refine ⟨(Ly.t141 L :), ?_⟩
  rw [show jr h 141 58 = 176 from (Ly.r141_58 L :)]
  refine ⟨fun c7 => ?_, fun c7 => ?_⟩
  · have H := H.1 c7
    obtain ⟨z1, z2, H⟩ := H
    refine ⟨inW_mk (N := 40) (Ly.t176 L :) (Ly.n176 L :) z1 z2, ?_⟩
    exact H (Ly.wi L (a := 176) (k := Int.toNat (w32 (20 + v1))) (x := 0) (by decide))
  · have H := H.2 c7
    refine ⟨(Ly.t141 L :), ?_⟩
    rw [show jr h 141 16 = 149 from (Ly.r141_16 L :)]
    obtain ⟨z3, z4, H⟩ := H
    refine ⟨inA_mk (N := 6) (Ly.t149 L :) (Ly.n149 L :) z3 z4, ?_⟩
    obtain ⟨z5, z6, H⟩ := H
    refine ⟨inW_mk (N := 40) (Ly.t176 L :) (Ly.n176 L :) z5 z6, ?_⟩
    exact H (Ly.wi L (a := 176) (k := Int.toNat (w32 (20 + v1))) (x := ji h 149 (Int.toNat v1)) (by decide))
set_option maxRecDepth 100000 in
theorem c_157_120 {p : Lpar} {d : Nat} {h : AH} {Q : Option AV → AH → Prop} {v1 : Int} (hd : 9 ≤ d) (L : Ly p h) (H : 0 ≤ v1 ∧ v1 < 10 ∧ 0 ≤ (w32 (30 + v1)) ∧ (w32 (30 + v1)) < 40 ∧ (Ly p (wi h 176 (Int.toNat (w32 (30 + v1))) (ji h 153 (Int.toNat v1))) → WF d 157 135 [jP 141, jI v1] [] (wi h 176 (Int.toNat (w32 (30 + v1))) (ji h 153 (Int.toNat v1))) Q)) : WF d 157 120 [jP 141, jI v1] [] h Q := by
  refine b_157_120 ?_
  refine ⟨(Ly.t141 L :), ?_⟩
  rw [show jr h 141 58 = 176 from (Ly.r141_58 L :)]
  refine ⟨(Ly.t141 L :), ?_⟩
  rw [show jr h 141 21 = 153 from (Ly.r141_21 L :)]
  obtain ⟨z1, z2, H⟩ := H
  refine ⟨inA_mk (N := 10) (Ly.t153 L :) (Ly.n153 L :) z1 z2, ?_⟩
  obtain ⟨z3, z4, H⟩ := H
  refine ⟨inW_mk (N := 40) (Ly.t176 L :) (Ly.n176 L :) z3 z4, ?_⟩
  exact H (Ly.wi L (a := 176) (k := Int.toNat (w32 (30 + v1))) (x := ji h 153 (Int.toNat v1)) (by decide))
set_option maxRecDepth 100000 in
theorem c_157_135 {p : Lpar} {d : Nat} {h : AH} {Q : Option AV → AH → Prop} {v1 : Int} (hd : 9 ≤ d) (L : Ly p h) (H : WF d 157 42 [jP 141, jI (w32 (v1 + 1))] [] h Q) : WF d 157 135 [jP 141, jI v1] [] h Q := by
  refine b_157_135 ?_
  exact H
set_option maxRecDepth 100000 in
theorem c_157_143 {p : Lpar} {d : Nat} {h : AH} {Q : Option AV → AH → Prop} {v1 : Int} (hd : 9 ≤ d) (L : Ly p h) (H : (6 ≤ v1 → WF d 157 193 [jP 141, jI 0] [] h Q) ∧ (¬ (6 ≤ v1) → 0 ≤ v1 ∧ v1 < 6 ∧ 0 ≤ v1 ∧ v1 < 6 ∧ (Ly p (wi h 177 (Int.toNat v1) (ji h 144 (Int.toNat v1))) → WF d 157 161 [jP 141, jI v1] [] (wi h 177 (Int.toNat v1) (ji h 144 (Int.toNat v1))) Q))) : WF d 157 143 [jP 141, jI v1] [] h Q := by
  refine b_157_143 ?_
  refine ⟨fun c5 => ?_, fun c5 => ?_⟩
  · have H := H.1 c5
    exact H
  · have H := H.2 c5
    refine ⟨(Ly.t141 L :), ?_⟩
    rw [show jr h 141 59 = 177 from (Ly.r141_59 L :)]
    refine ⟨(Ly.t141 L :), ?_⟩
    rw [show jr h 141 9 = 144 from (Ly.r141_9 L :)]
    obtain ⟨z1, z2, H⟩ := H
    refine ⟨inA_mk (N := 6) (Ly.t144 L :) (Ly.n144 L :) z1 z2, ?_⟩
    obtain ⟨z3, z4, H⟩ := H
    refine ⟨inW_mk (N := 6) (Ly.t177 L :) (Ly.n177 L :) z3 z4, ?_⟩
    exact H (Ly.wi L (a := 177) (k := Int.toNat v1) (x := ji h 144 (Int.toNat v1)) (by decide))
set_option maxRecDepth 100000 in
theorem c_157_161 {p : Lpar} {d : Nat} {h : AH} {Q : Option AV → AH → Prop} {v1 : Int} (hd : 9 ≤ d) (L : Ly p h) (H : 0 ≤ v1 ∧ v1 < 6 ∧ 0 ≤ v1 ∧ v1 < 6 ∧ (Ly p (wi h 178 (Int.toNat v1) (ji h 145 (Int.toNat v1))) → WF d 157 173 [jP 141, jI v1] [] (wi h 178 (Int.toNat v1) (ji h 145 (Int.toNat v1))) Q)) : WF d 157 161 [jP 141, jI v1] [] h Q := by
  refine b_157_161 ?_
  refine ⟨(Ly.t141 L :), ?_⟩
  rw [show jr h 141 60 = 178 from (Ly.r141_60 L :)]
  refine ⟨(Ly.t141 L :), ?_⟩
  rw [show jr h 141 10 = 145 from (Ly.r141_10 L :)]
  obtain ⟨z1, z2, H⟩ := H
  refine ⟨inA_mk (N := 6) (Ly.t145 L :) (Ly.n145 L :) z1 z2, ?_⟩
  obtain ⟨z3, z4, H⟩ := H
  refine ⟨inW_mk (N := 6) (Ly.t178 L :) (Ly.n178 L :) z3 z4, ?_⟩
  exact H (Ly.wi L (a := 178) (k := Int.toNat v1) (x := ji h 145 (Int.toNat v1)) (by decide))
set_option maxRecDepth 100000 in
theorem c_157_173 {p : Lpar} {d : Nat} {h : AH} {Q : Option AV → AH → Prop} {v1 : Int} (hd : 9 ≤ d) (L : Ly p h) (H : 0 ≤ v1 ∧ v1 < 7 ∧ 0 ≤ v1 ∧ v1 < 7 ∧ (Ly p (wi h 182 (Int.toNat v1) (ji h 174 (Int.toNat v1))) → WF d 157 185 [jP 141, jI v1] [] (wi h 182 (Int.toNat v1) (ji h 174 (Int.toNat v1))) Q)) : WF d 157 173 [jP 141, jI v1] [] h Q := by
  refine b_157_173 ?_
  refine ⟨(Ly.t141 L :), ?_⟩
  rw [show jr h 141 64 = 182 from (Ly.r141_64 L :)]
  refine ⟨(Ly.t141 L :), ?_⟩
  rw [show jr h 141 56 = 174 from (Ly.r141_56 L :)]
  obtain ⟨z1, z2, H⟩ := H
  refine ⟨inA_mk (N := 7) (Ly.t174 L :) (Ly.n174 L :) z1 z2, ?_⟩
  obtain ⟨z3, z4, H⟩ := H
  refine ⟨inW_mk (N := 7) (Ly.t182 L :) (Ly.n182 L :) z3 z4, ?_⟩
  exact H (Ly.wi L (a := 182) (k := Int.toNat v1) (x := ji h 174 (Int.toNat v1)) (by decide))
set_option maxRecDepth 100000 in
theorem c_157_185 {p : Lpar} {d : Nat} {h : AH} {Q : Option AV → AH → Prop} {v1 : Int} (hd : 9 ≤ d) (L : Ly p h) (H : WF d 157 143 [jP 141, jI (w32 (v1 + 1))] [] h Q) : WF d 157 185 [jP 141, jI v1] [] h Q := by
  refine b_157_185 ?_
  exact H
set_option maxRecDepth 100000 in
theorem c_157_193 {p : Lpar} {d : Nat} {h : AH} {Q : Option AV → AH → Prop} {v1 : Int} (hd : 9 ≤ d) (L : Ly p h) (H : (12 ≤ v1 → WF d 157 231 [jP 141, jI 0] [] h Q) ∧ (¬ (12 ≤ v1) → 0 ≤ v1 ∧ v1 < 12 ∧ 0 ≤ v1 ∧ v1 < 12 ∧ (Ly p (wi h 179 (Int.toNat v1) (ji h 147 (Int.toNat v1))) → WF d 157 211 [jP 141, jI v1] [] (wi h 179 (Int.toNat v1) (ji h 147 (Int.toNat v1))) Q))) : WF d 157 193 [jP 141, jI v1] [] h Q := by
  refine b_157_193 ?_
  refine ⟨fun c5 => ?_, fun c5 => ?_⟩
  · have H := H.1 c5
    exact H
  · have H := H.2 c5
    refine ⟨(Ly.t141 L :), ?_⟩
    rw [show jr h 141 61 = 179 from (Ly.r141_61 L :)]
    refine ⟨(Ly.t141 L :), ?_⟩
    rw [show jr h 141 13 = 147 from (Ly.r141_13 L :)]
    obtain ⟨z1, z2, H⟩ := H
    refine ⟨inA_mk (N := 12) (Ly.t147 L :) (Ly.n147 L :) z1 z2, ?_⟩
    obtain ⟨z3, z4, H⟩ := H
    refine ⟨inW_mk (N := 12) (Ly.t179 L :) (Ly.n179 L :) z3 z4, ?_⟩
    exact H (Ly.wi L (a := 179) (k := Int.toNat v1) (x := ji h 147 (Int.toNat v1)) (by decide))
set_option maxRecDepth 100000 in
theorem c_157_211 {p : Lpar} {d : Nat} {h : AH} {Q : Option AV → AH → Prop} {v1 : Int} (hd : 9 ≤ d) (L : Ly p h) (H : 0 ≤ v1 ∧ v1 < 12 ∧ 0 ≤ v1 ∧ v1 < 12 ∧ (Ly p (wi h 181 (Int.toNat v1) (ji h 150 (Int.toNat v1))) → WF d 157 223 [jP 141, jI v1] [] (wi h 181 (Int.toNat v1) (ji h 150 (Int.toNat v1))) Q)) : WF d 157 211 [jP 141, jI v1] [] h Q := by
  refine b_157_211 ?_
  refine ⟨(Ly.t141 L :), ?_⟩
  rw [show jr h 141 63 = 181 from (Ly.r141_63 L :)]
  refine ⟨(Ly.t141 L :), ?_⟩
  rw [show jr h 141 17 = 150 from (Ly.r141_17 L :)]
  obtain ⟨z1, z2, H⟩ := H
  refine ⟨inA_mk (N := 12) (Ly.t150 L :) (Ly.n150 L :) z1 z2, ?_⟩
  obtain ⟨z3, z4, H⟩ := H
  refine ⟨inW_mk (N := 12) (Ly.t181 L :) (Ly.n181 L :) z3 z4, ?_⟩
  exact H (Ly.wi L (a := 181) (k := Int.toNat v1) (x := ji h 150 (Int.toNat v1)) (by decide))
set_option maxRecDepth 100000 in
theorem c_157_223 {p : Lpar} {d : Nat} {h : AH} {Q : Option AV → AH → Prop} {v1 : Int} (hd : 9 ≤ d) (L : Ly p h) (H : WF d 157 193 [jP 141, jI (w32 (v1 + 1))] [] h Q) : WF d 157 223 [jP 141, jI v1] [] h Q := by
  refine b_157_223 ?_
  exact H
set_option maxRecDepth 100000 in
theorem c_157_231 {p : Lpar} {d : Nat} {h : AH} {Q : Option AV → AH → Prop} {v1 : Int} (hd : 9 ≤ d) (L : Ly p h) (H : (384 ≤ v1 → Q none h) ∧ (¬ (384 ≤ v1) → 0 ≤ v1 ∧ v1 < 384 ∧ 0 ≤ v1 ∧ v1 < 384 ∧ (Ly p (wi h 180 (Int.toNat v1) (ji h 148 (Int.toNat v1))) → WF d 157 250 [jP 141, jI v1] [] (wi h 180 (Int.toNat v1) (ji h 148 (Int.toNat v1))) Q))) : WF d 157 231 [jP 141, jI v1] [] h Q := by
  refine b_157_231 ?_
  refine ⟨fun c5 => ?_, fun c5 => ?_⟩
  · have H := H.1 c5
    exact H
  · have H := H.2 c5
    refine ⟨(Ly.t141 L :), ?_⟩
    rw [show jr h 141 62 = 180 from (Ly.r141_62 L :)]
    refine ⟨(Ly.t141 L :), ?_⟩
    rw [show jr h 141 14 = 148 from (Ly.r141_14 L :)]
    obtain ⟨z1, z2, H⟩ := H
    refine ⟨inA_mk (N := 384) (Ly.t148 L :) (Ly.n148 L :) z1 z2, ?_⟩
    obtain ⟨z3, z4, H⟩ := H
    refine ⟨inW_mk (N := 384) (Ly.t180 L :) (Ly.n180 L :) z3 z4, ?_⟩
    exact H (Ly.wi L (a := 180) (k := Int.toNat v1) (x := ji h 148 (Int.toNat v1)) (by decide))
set_option maxRecDepth 100000 in
theorem c_157_250 {p : Lpar} {d : Nat} {h : AH} {Q : Option AV → AH → Prop} {v1 : Int} (hd : 9 ≤ d) (L : Ly p h) (H : WF d 157 231 [jP 141, jI (w32 (v1 + 1))] [] h Q) : WF d 157 250 [jP 141, jI v1] [] h Q := by
  refine b_157_250 ?_
  exact H
set_option maxRecDepth 100000 in
theorem c_158_0 {p : Lpar} {d : Nat} {h : AH} {Q : Option AV → AH → Prop} {v1 : Int} (hd : 9 ≤ d) (L : Ly p h) (H : (Ly p (wi h 141 65 v1) → WF d 158 5 [jP 141, jI v1, jU, jU, jU, jU, jU] [] (wi h 141 65 v1) Q)) : WF d 158 0 [jP 141, jI v1, jU, jU, jU, jU, jU] [] h Q := by
  refine b_158_0 ?_
  refine ⟨(Ly.t141 L :), ?_⟩
  exact H (Ly.wi L (a := 141) (k := 65) (x := v1) (by decide))
set_option maxRecDepth 100000 in
theorem c_158_5 {p : Lpar} {d : Nat} {h : AH} {Q : Option AV → AH → Prop} {v1 : Int} {z2 : AV} {z3 : AV} {z4 : AV} {z5 : AV} {z6 : AV} (hd : 9 ≤ d) (L : Ly p h) (H : WF d 158 7 [jP 141, jI v1, jI 0, z3, z4, z5, z6] [] h Q) : WF d 158 5 [jP 141, jI v1, z2, z3, z4, z5, z6] [] h Q := by
  refine b_158_5 ?_
  exact H
set_option maxRecDepth 100000 in
theorem c_158_7 {p : Lpar} {d : Nat} {h : AH} {Q : Option AV → AH → Prop} {v1 : Int} {v2 : Int} {z3 : AV} {z4 : AV} {z5 : AV} {z6 : AV} (hd : 9 ≤ d) (L : Ly p h) (H : ((ji h 141 15) ≤ v2 → Q none h) ∧ (¬ ((ji h 141 15) ≤ v2) → 0 ≤ (w32 (2 * v2)) ∧ (w32 (2 * v2)) < 12 ∧ WF d 158 24 [jP 141, jI v1, jI v2, jI (ji h 150 (Int.toNat (w32 (2 * v2)))), z4, z5, z6] [] h Q)) : WF d 158 7 [jP 141, jI v1, jI v2, z3, z4, z5, z6] [] h Q := by
  refine b_158_7 ?_
  refine ⟨(Ly.t141 L :), ?_⟩
  refine ⟨fun c3 => ?_, fun c3 => ?_⟩
  · have H := H.1 c3
    exact H
  · have H := H.2 c3
    refine ⟨(Ly.t141 L :), ?_⟩
    rw [show jr h 141 17 = 150 from (Ly.r141_17 L :)]
    obtain ⟨z1, z2, H⟩ := H
    refine ⟨inA_mk (N := 12) (Ly.t150 L :) (Ly.n150 L :) z1 z2, ?_⟩
    exact H
set_option maxRecDepth 100000 in
theorem c_158_24 {p : Lpar} {d : Nat} {h : AH} {Q : Option AV → AH → Prop} {v1 : Int} {v2 : Int} {v3 : Int} {z4 : AV} {z5 : AV} {z6 : AV} (hd : 9 ≤ d) (L : Ly p h) (H : 0 ≤ (w32 ((w32 (2 * v2)) + 1)) ∧ (w32 ((w32 (2 * v2)) + 1)) < 12 ∧ WF d 158 36 [jP 141, jI v1, jI v2, jI v3, jI (ji h 150 (Int.toNat (w32 ((w32 (2 * v2)) + 1)))), z5, z6] [] h Q) : WF d 158 24 [jP 141, jI v1, jI v2, jI v3, z4, z5, z6] [] h Q := by
  refine b_158_24 ?_
  refine ⟨(Ly.t141 L :), ?_⟩
  rw [show jr h 141 17 = 150 from (Ly.r141_17 L :)]
  obtain ⟨z1, z2, H⟩ := H
  refine ⟨inA_mk (N := 12) (Ly.t150 L :) (Ly.n150 L :) z1 z2, ?_⟩
  exact H
set_option maxRecDepth 100000 in
theorem c_158_36 {p : Lpar} {d : Nat} {h : AH} {Q : Option AV → AH → Prop} {v1 : Int} {v2 : Int} {v3 : Int} {v4 : Int} {z5 : AV} {z6 : AV} (hd : 9 ≤ d) (L : Ly p h) (H : WF d 158 39 [jP 141, jI v1, jI v2, jI v3, jI v4, jI 0, z6] [] h Q) : WF d 158 36 [jP 141, jI v1, jI v2, jI v3, jI v4, z5, z6] [] h Q := by
  refine b_158_36 ?_
  exact H
set_option maxRecDepth 100000 in
theorem c_158_39 {p : Lpar} {d : Nat} {h : AH} {Q : Option AV → AH → Prop} {v1 : Int} {v2 : Int} {v3 : Int} {v4 : Int} {v5 : Int} {z6 : AV} (hd : 9 ≤ d) (L : Ly p h) (H : (v3 = -1 ∨ (0 ≤ v3 ∧ v3 < 6)) ∧ (v4 = -1 ∨ (0 ≤ v4 ∧ v4 < 6)) ∧ ((w32 ((if v3 = -1 then 1 else ji h 145 (Int.toNat v3)) * (if v4 = -1 then 1 else ji h 145 (Int.toNat v4)))) ≤ v5 → WF d 158 7 [jP 141, jI v1, jI (w32 (v2 + 1)), jI v3, jI v4, jI v5, z6] [] h Q) ∧ (¬ ((w32 ((if v3 = -1 then 1 else ji h 145 (Int.toNat v3)) * (if v4 = -1 then 1 else ji h 145 (Int.toNat v4)))) ≤ v5) → 0 ≤ v2 ∧ v2 < 7 ∧ WF d 158 67 [jP 141, jI v1, jI v2, jI v3, jI v4, jI v5, jI (w32 ((ji h 174 (Int.toNat v2)) + v5))] [] h Q)) : WF d 158 39 [jP 141, jI v1, jI v2, jI v3, jI v4, jI v5, z6] [] h Q := by
  refine b_158_39 ?_
  refine ⟨(Ly.t141 L :), ?_⟩
  obtain ⟨z1, H⟩ := H
  refine ⟨_, _, m_127 (d := d) (by omega) L z1, ?_⟩
  refine ⟨(Ly.t141 L :), ?_⟩
  obtain ⟨z2, H⟩ := H
  refine ⟨_, _, m_127 (d := d) (by omega) L z2, ?_⟩
  refine ⟨fun c5 => ?_, fun c5 => ?_⟩
  · have H := H.1 c5
    exact H
  · have H := H.2 c5
    refine ⟨(Ly.t141 L :), ?_⟩
    rw [show jr h 141 56 = 174 from (Ly.r141_56 L :)]
    obtain ⟨z3, z4, H⟩ := H
    refine ⟨inA_mk (N := 7) (Ly.t174 L :) (Ly.n174 L :) z3 z4, ?_⟩
    exact H
set_option maxRecDepth 100000 in
theorem c_158_67 {p : Lpar} {d : Nat} {h : AH} {Q : Option AV → AH → Prop} {v1 : Int} {v2 : Int} {v3 : Int} {v4 : Int} {v5 : Int} {v6 : Int} (hd : 9 ≤ d) (L : Ly p h) (H : 0 ≤ v6 ∧ v6 < 40 ∧ (Ly p (wi h 183 (Int.toNat v6) v2) → WF d 158 75 [jP 141, jI v1, jI v2, jI v3, jI v4, jI v5, jI v6] [] (wi h 183 (Int.toNat v6) v2) Q)) : WF d 158 67 [jP 141, jI v1, jI v2, jI v3, jI v4, jI v5, jI v6] [] h Q := by
  refine b_158_67 ?_
  refine ⟨(Ly.t141 L :), ?_⟩
  rw [show jr h 141 66 = 183 from (Ly.r141_66 L :)]
  obtain ⟨z1, z2, H⟩ := H
  refine ⟨inW_mk (N := 40) (Ly.t183 L :) (Ly.n183 L :) z1 z2, ?_⟩
  exact H (Ly.wi L (a := 183) (k := Int.toNat v6) (x := v2) (by decide))
set_option maxRecDepth 100000 in
theorem c_158_75 {p : Lpar} {d : Nat} {h : AH} {Q : Option AV → AH → Prop} {v1 : Int} {v2 : Int} {v3 : Int} {v4 : Int} {v5 : Int} {v6 : Int} (hd : 9 ≤ d) (L : Ly p h) (H : (v3 = (-1) → 0 ≤ v6 ∧ v6 < 40 ∧ (Ly p (wi h 184 (Int.toNat v6) (-1 : Int)) → WF d 158 107 [jP 141, jI v1, jI v2, jI v3, jI v4, jI v5, jI v6] [] (wi h 184 (Int.toNat v6) (-1 : Int)) Q)) ∧ (¬ v3 = (-1) → 0 ≤ v3 ∧ v3 < 6 ∧ (v4 = -1 ∨ (0 ≤ v4 ∧ v4 < 6)) ∧ ¬ (if v4 = -1 then 1 else ji h 145 (Int.toNat v4)) = 0 ∧ 0 ≤ v6 ∧ v6 < 40 ∧ (Ly p (wi h 184 (Int.toNat v6) (w32 ((ji h 144 (Int.toNat v3)) + (w32 (Int.tdiv v5 (if v4 = -1 then 1 else ji h 145 (Int.toNat v4))))))) → WF d 158 107 [jP 141, jI v1, jI v2, jI v3, jI v4, jI v5, jI v6] [] (wi h 184 (Int.toNat v6) (w32 ((ji h 144 (Int.toNat v3)) + (w32 (Int.tdiv v5 (if v4 = -1 then 1 else ji h 145 (Int.toNat v4))))))) Q))) : WF d 158 75 [jP 141, jI v1, jI v2, jI v3, jI v4, jI v5, jI v6] [] h Q := by
  refine b_158_75 ?_
  refine ⟨(Ly.t141 L :), ?_⟩
  rw [show jr h 141 67 = 184 from (Ly.r141_67 L :)]
  refine ⟨fun c9 => ?_, fun c9 => ?_⟩
  · have H := H.2 c9
    refine ⟨(Ly.t141 L :), ?_⟩
    rw [show jr h 141 9 = 144 from (Ly.r141_9 L :)]
    obtain ⟨z1, z2, H⟩ := H
    refine ⟨inA_mk (N := 6) (Ly.t144 L :) (Ly.n144 L :) z1 z2, ?_⟩
    refine ⟨(Ly.t141 L :), ?_⟩
    obtain ⟨z3, H⟩ := H
    refine ⟨_, _, m_127 (d := d) (by omega) L z3, ?_⟩
    obtain ⟨z6, H⟩ := H
    refine ⟨z6, ?_⟩
    obtain ⟨z4, z5, H⟩ := H
    refine ⟨inW_mk (N := 40) (Ly.t184 L :) (Ly.n184 L :) z4 z5, ?_⟩
    exact H (Ly.wi L (a := 184) (k := Int.toNat v6) (x := w32 ((ji h 144 (Int.toNat v3)) + (w32 (Int.tdiv v5 (if v4 = -1 then 1 else ji h 145 (Int.toNat v4)))))) (by decide))
  · have c9 := Decidable.not_not.mp c9
    have H := H.1 c9
    obtain ⟨z7, z8, H⟩ := H
    refine ⟨inW_mk (N := 40) (Ly.t184 L :) (Ly.n184 L :) z7 z8, ?_⟩
    exact H (Ly.wi L (a := 184) (k := Int.toNat v6) (x := (-1)) (by decide))
set_option maxRecDepth 100000 in
theorem c_158_107 {p : Lpar} {d : Nat} {h : AH} {Q : Option AV → AH → Prop} {v1 : Int} {v2 : Int} {v3 : Int} {v4 : Int} {v5 : Int} {v6 : Int} (hd : 9 ≤ d) (L : Ly p h) (H : (v4 = (-1) → 0 ≤ v6 ∧ v6 < 40 ∧ (Ly p (wi h 185 (Int.toNat v6) (-1 : Int)) → WF d 158 141 [jP 141, jI v1, jI v2, jI v3, jI v4, jI v5, jI v6] [] (wi h 185 (Int.toNat v6) (-1 : Int)) Q)) ∧ (¬ v4 = (-1) → 0 ≤ v4 ∧ v4 < 6 ∧ (v4 = -1 ∨ (0 ≤ v4 ∧ v4 < 6)) ∧ ¬ (if v4 = -1 then 1 else ji h 145 (Int.toNat v4)) = 0 ∧ 0 ≤ v6 ∧ v6 < 40 ∧ (Ly p (wi h 185 (Int.toNat v6) (w32 ((ji h 144 (Int.toNat v4)) + (w32 (Int.tmod v5 (if v4 = -1 then 1 else ji h 145 (Int.toNat v4))))))) → WF d 158 141 [jP 141, jI v1, jI v2, jI v3, jI v4, jI v5, jI v6] [] (wi h 185 (Int.toNat v6) (w32 ((ji h 144 (Int.toNat v4)) + (w32 (Int.tmod v5 (if v4 = -1 then 1 else ji h 145 (Int.toNat v4))))))) Q))) : WF d 158 107 [jP 141, jI v1, jI v2, jI v3, jI v4, jI v5, jI v6] [] h Q := by
  refine b_158_107 ?_
  refine ⟨(Ly.t141 L :), ?_⟩
  rw [show jr h 141 68 = 185 from (Ly.r141_68 L :)]
  refine ⟨fun c9 => ?_, fun c9 => ?_⟩
  · have H := H.2 c9
    refine ⟨(Ly.t141 L :), ?_⟩
    rw [show jr h 141 9 = 144 from (Ly.r141_9 L :)]
    obtain ⟨z1, z2, H⟩ := H
    refine ⟨inA_mk (N := 6) (Ly.t144 L :) (Ly.n144 L :) z1 z2, ?_⟩
    refine ⟨(Ly.t141 L :), ?_⟩
    obtain ⟨z3, H⟩ := H
    refine ⟨_, _, m_127 (d := d) (by omega) L z3, ?_⟩
    obtain ⟨z6, H⟩ := H
    refine ⟨z6, ?_⟩
    obtain ⟨z4, z5, H⟩ := H
    refine ⟨inW_mk (N := 40) (Ly.t185 L :) (Ly.n185 L :) z4 z5, ?_⟩
    exact H (Ly.wi L (a := 185) (k := Int.toNat v6) (x := w32 ((ji h 144 (Int.toNat v4)) + (w32 (Int.tmod v5 (if v4 = -1 then 1 else ji h 145 (Int.toNat v4)))))) (by decide))
  · have c9 := Decidable.not_not.mp c9
    have H := H.1 c9
    obtain ⟨z7, z8, H⟩ := H
    refine ⟨inW_mk (N := 40) (Ly.t185 L :) (Ly.n185 L :) z7 z8, ?_⟩
    exact H (Ly.wi L (a := 185) (k := Int.toNat v6) (x := (-1)) (by decide))
set_option maxRecDepth 100000 in
theorem c_158_141 {p : Lpar} {d : Nat} {h : AH} {Q : Option AV → AH → Prop} {v1 : Int} {v2 : Int} {v3 : Int} {v4 : Int} {v5 : Int} {v6 : Int} (hd : 9 ≤ d) (L : Ly p h) (H : 0 ≤ v2 ∧ v2 < 6 ∧ 0 ≤ v6 ∧ v6 < 40 ∧ (Ly p (wi h 186 (Int.toNat v6) (ji h 151 (Int.toNat v2))) → WF d 158 154 [jP 141, jI v1, jI v2, jI v3, jI v4, jI v5, jI v6] [] (wi h 186 (Int.toNat v6) (ji h 151 (Int.toNat v2))) Q)) : WF d 158 141 [jP 141, jI v1, jI v2, jI v3, jI v4, jI v5, jI v6] [] h Q := by
  refine b_158_141 ?_
  refine ⟨(Ly.t141 L :), ?_⟩
  rw [show jr h 141 69 = 186 from (Ly.r141_69 L :)]
  refine ⟨(Ly.t141 L :), ?_⟩
  rw [show jr h 141 18 = 151 from (Ly.r141_18 L :)]
  obtain ⟨z1, z2, H⟩ := H
  refine ⟨inA_mk (N := 6) (Ly.t151 L :) (Ly.n151 L :) z1 z2, ?_⟩
  obtain ⟨z3, z4, H⟩ := H
  refine ⟨inW_mk (N := 40) (Ly.t186 L :) (Ly.n186 L :) z3 z4, ?_⟩
  exact H (Ly.wi L (a := 186) (k := Int.toNat v6) (x := ji h 151 (Int.toNat v2)) (by decide))
set_option maxRecDepth 100000 in
theorem c_158_154 {p : Lpar} {d : Nat} {h : AH} {Q : Option AV → AH → Prop} {v1 : Int} {v2 : Int} {v3 : Int} {v4 : Int} {v5 : Int} {v6 : Int} (hd : 9 ≤ d) (L : Ly p h) (H : 0 ≤ v2 ∧ v2 < 6 ∧ 0 ≤ v6 ∧ v6 < 40 ∧ (Ly p (wi h 187 (Int.toNat v6) (ji h 152 (Int.toNat v2))) → WF d 158 167 [jP 141, jI v1, jI v2, jI v3, jI v4, jI v5, jI v6] [] (wi h 187 (Int.toNat v6) (ji h 152 (Int.toNat v2))) Q)) : WF d 158 154 [jP 141, jI v1, jI v2, jI v3, jI v4, jI v5, jI v6] [] h Q := by
  refine b_158_154 ?_
  refine ⟨(Ly.t141 L :), ?_⟩
  rw [show jr h 141 70 = 187 from (Ly.r141_70 L :)]
  refine ⟨(Ly.t141 L :), ?_⟩
  rw [show jr h 141 19 = 152 from (Ly.r141_19 L :)]
  obtain ⟨z1, z2, H⟩ := H
  refine ⟨inA_mk (N := 6) (Ly.t152 L :) (Ly.n152 L :) z1 z2, ?_⟩
  obtain ⟨z3, z4, H⟩ := H
  refine ⟨inW_mk (N := 40) (Ly.t187 L :) (Ly.n187 L :) z3 z4, ?_⟩
  exact H (Ly.wi L (a := 187) (k := Int.toNat v6) (x := ji h 152 (Int.toNat v2)) (by decide))
set_option maxRecDepth 100000 in
theorem c_158_167 {p : Lpar} {d : Nat} {h : AH} {Q : Option AV → AH → Prop} {v1 : Int} {v2 : Int} {v3 : Int} {v4 : Int} {v5 : Int} {v6 : Int} (hd : 9 ≤ d) (L : Ly p h) (H : 0 ≤ v2 ∧ v2 < 6 ∧ 0 ≤ v6 ∧ v6 < 40 ∧ (Ly p (wi h 188 (Int.toNat v6) (ji h 151 (Int.toNat v2))) → WF d 158 180 [jP 141, jI v1, jI v2, jI v3, jI v4, jI v5, jI v6] [] (wi h 188 (Int.toNat v6) (ji h 151 (Int.toNat v2))) Q)) : WF d 158 167 [jP 141, jI v1, jI v2, jI v3, jI v4, jI v5, jI v6] [] h Q := by
  refine b_158_167 ?_
  refine ⟨(Ly.t141 L :), ?_⟩
  rw [show jr h 141 71 = 188 from (Ly.r141_71 L :)]
  refine ⟨(Ly.t141 L :), ?_⟩
  rw [show jr h 141 18 = 151 from (Ly.r141_18 L :)]
  obtain ⟨z1, z2, H⟩ := H
  refine ⟨inA_mk (N := 6) (Ly.t151 L :) (Ly.n151 L :) z1 z2, ?_⟩
  obtain ⟨z3, z4, H⟩ := H
  refine ⟨inW_mk (N := 40) (Ly.t188 L :) (Ly.n188 L :) z3 z4, ?_⟩
  exact H (Ly.wi L (a := 188) (k := Int.toNat v6) (x := ji h 151 (Int.toNat v2)) (by decide))
set_option maxRecDepth 100000 in
theorem c_158_180 {p : Lpar} {d : Nat} {h : AH} {Q : Option AV → AH → Prop} {v1 : Int} {v2 : Int} {v3 : Int} {v4 : Int} {v5 : Int} {v6 : Int} (hd : 9 ≤ d) (L : Ly p h) (H : WF d 158 39 [jP 141, jI v1, jI v2, jI v3, jI v4, jI (w32 (v5 + 1)), jI v6] [] h Q) : WF d 158 180 [jP 141, jI v1, jI v2, jI v3, jI v4, jI v5, jI v6] [] h Q := by
  refine b_158_180 ?_
  exact H
set_option maxRecDepth 100000 in
theorem c_159_0 {p : Lpar} {d : Nat} {h : AH} {Q : Option AV → AH → Prop}  (hd : 9 ≤ d) (L : Ly p h) (H : (Ly p (wi h 141 72 0) → WF d 159 5 [jP 141, jU, jU, jU, jU, jU] [] (wi h 141 72 0) Q)) : WF d 159 0 [jP 141, jU, jU, jU, jU, jU] [] h Q := by
  refine b_159_0 ?_
  refine ⟨(Ly.t141 L :), ?_⟩
  exact H (Ly.wi L (a := 141) (k := 72) (x := 0) (by decide))
set_option maxRecDepth 100000 in
theorem c_159_5 {p : Lpar} {d : Nat} {h : AH} {Q : Option AV → AH → Prop} {z1 : AV} {z2 : AV} {z3 : AV} {z4 : AV} {z5 : AV} (hd : 9 ≤ d) (L : Ly p h) (H : WF d 159 7 [jP 141, jI 0, z2, z3, z4, z5] [] h Q) : WF d 159 5 [jP 141, z1, z2, z3, z4, z5] [] h Q := by
  refine b_159_5 ?_
  exact H
set_option maxRecDepth 100000 in
theorem c_159_7 {p : Lpar} {d : Nat} {h : AH} {Q : Option AV → AH → Prop} {v1 : Int} {z2 : AV} {z3 : AV} {z4 : AV} {z5 : AV} (hd : 9 ≤ d) (L : Ly p h) (H : ((ji h 141 20) ≤ v1 → Q none h) ∧ (¬ ((ji h 141 20) ≤ v1) → 0 ≤ (w32 (2 * v1)) ∧ (w32 (2 * v1)) < 20 ∧ WF d 159 24 [jP 141, jI v1, jI (ji h 154 (Int.toNat (w32 (2 * v1)))), z3, z4, z5] [] h Q)) : WF d 159 7 [jP 141, jI v1, z2, z3, z4, z5] [] h Q := by
  refine b_159_7 ?_
  refine ⟨(Ly.t141 L :), ?_⟩
  refine ⟨fun c3 => ?_, fun c3 => ?_⟩
  · have H := H.1 c3
    exact H
  · have H := H.2 c3
    refine ⟨(Ly.t141 L :), ?_⟩
    rw [show jr h 141 22 = 154 from (Ly.r141_22 L :)]
    obtain ⟨z1, z2, H⟩ := H
    refine ⟨inA_mk (N := 20) (Ly.t154 L :) (Ly.n154 L :) z1 z2, ?_⟩
    exact H
set_option maxRecDepth 100000 in
theorem c_159_24 {p : Lpar} {d : Nat} {h : AH} {Q : Option AV → AH → Prop} {v1 : Int} {v2 : Int} {z3 : AV} {z4 : AV} {z5 : AV} (hd : 9 ≤ d) (L : Ly p h) (H : 0 ≤ (w32 ((w32 (2 * v1)) + 1)) ∧ (w32 ((w32 (2 * v1)) + 1)) < 20 ∧ WF d 159 35 [jP 141, jI v1, jI v2, jI (ji h 154 (Int.toNat (w32 ((w32 (2 * v1)) + 1)))), z4, z5] [] h Q) : WF d 159 24 [jP 141, jI v1, jI v2, z3, z4, z5] [] h Q := by
  refine b_159_24 ?_
  refine ⟨(Ly.t141 L :), ?_⟩
  rw [show jr h 141 22 = 154 from (Ly.r141_22 L :)]
  obtain ⟨z1, z2, H⟩ := H
  refine ⟨inA_mk (N := 20) (Ly.t154 L :) (Ly.n154 L :) z1 z2, ?_⟩
  exact H
set_option maxRecDepth 100000 in
theorem c_159_35 {p : Lpar} {d : Nat} {h : AH} {Q : Option AV → AH → Prop} {v1 : Int} {v2 : Int} {v3 : Int} {z4 : AV} {z5 : AV} (hd : 9 ≤ d) (L : Ly p h) (H : WF d 159 38 [jP 141, jI v1, jI v2, jI v3, jI 0, z5] [] h Q) : WF d 159 35 [jP 141, jI v1, jI v2, jI v3, z4, z5] [] h Q := by
  refine b_159_35 ?_
  exact H
set_option maxRecDepth 100000 in
theorem c_159_38 {p : Lpar} {d : Nat} {h : AH} {Q : Option AV → AH → Prop} {v1 : Int} {v2 : Int} {v3 : Int} {v4 : Int} {z5 : AV} (hd : 9 ≤ d) (L : Ly p h) (H : ∃ x4 h1, jE d 155 [jP 141, jI v1] h (some (jI x4)) h1 ∧ Ly p h1 ∧ (x4 ≤ v4 → WF d 159 7 [jP 141, jI (w32 (v1 + 1)), jI v2, jI v3, jI v4, z5] [] h1 Q) ∧ (¬ (x4 ≤ v4) → 0 ≤ (ji h1 141 72) ∧ (ji h1 141 72) < 40 ∧ (Ly p (wi h1 189 (Int.toNat (ji h1 141 72)) v1) → WF d 159 58 [jP 141, jI v1, jI v2, jI v3, jI v4, z5] [] (wi h1 189 (Int.toNat (ji h1 141 72)) v1) Q))) : WF d 159 38 [jP 141, jI v1, jI v2, jI v3, jI v4, z5] [] h Q := by
  refine b_159_38 ?_
  refine ⟨(Ly.t141 L :), ?_⟩
  obtain ⟨x4, h1, e3, L2, H⟩ := H
  refine ⟨x4, h1, e3, ?_⟩
  refine ⟨fun c7 => ?_, fun c7 => ?_⟩
  · have H := H.1 c7
    exact H
  · have H := H.2 c7
    refine ⟨(Ly.t141 L2 :), ?_⟩
    rw [show jr h1 141 73 = 189 from (Ly.r141_73 L2 :)]
    refine ⟨(Ly.t141 L2 :), ?_⟩
    obtain ⟨z5, z6, H⟩ := H
    refine ⟨inW_mk (N := 40) (Ly.t189 L2 :) (Ly.n189 L2 :) z5 z6, ?_⟩
    exact H (Ly.wi L2 (a := 189) (k := Int.toNat (ji h1 141 72)) (x := v1) (by decide))
set_option maxRecDepth 100000 in
theorem c_159_58 {p : Lpar} {d : Nat} {h : AH} {Q : Option AV → AH → Prop} {v1 : Int} {v2 : Int} {v3 : Int} {v4 : Int} {z5 : AV} (hd : 9 ≤ d) (L : Ly p h) (H : (v2 = (-1) → 0 ≤ (ji h 141 72) ∧ (ji h 141 72) < 40 ∧ (Ly p (wi h 190 (Int.toNat (ji h 141 72)) (-1 : Int)) → WF d 159 91 [jP 141, jI v1, jI v2, jI v3, jI v4, z5] [] (wi h 190 (Int.toNat (ji h 141 72)) (-1 : Int)) Q)) ∧ (¬ v2 = (-1) → 0 ≤ v2 ∧ v2 < 6 ∧ (v3 = -1 ∨ (0 ≤ v3 ∧ v3 < 6)) ∧ ¬ (if v3 = -1 then 1 else ji h 145 (Int.toNat v3)) = 0 ∧ 0 ≤ (ji h 141 72) ∧ (ji h 141 72) < 40 ∧ (Ly p (wi h 190 (Int.toNat (ji h 141 72)) (w32 ((ji h 144 (Int.toNat v2)) + (w32 (Int.tdiv v4 (if v3 = -1 then 1 else ji h 145 (Int.toNat v3))))))) → WF d 159 91 [jP 141, jI v1, jI v2, jI v3, jI v4, z5] [] (wi h 190 (Int.toNat (ji h 141 72)) (w32 ((ji h 144 (Int.toNat v2)) + (w32 (Int.tdiv v4 (if v3 = -1 then 1 else ji h 145 (Int.toNat v3))))))) Q))) : WF d 159 58 [jP 141, jI v1, jI v2, jI v3, jI v4, z5] [] h Q := by
  refine b_159_58 ?_
  refine ⟨(Ly.t141 L :), ?_⟩
  rw [show jr h 141 74 = 190 from (Ly.r141_74 L :)]
  refine ⟨(Ly.t141 L :), ?_⟩
  refine ⟨fun c9 => ?_, fun c9 => ?_⟩
  · have H := H.2 c9
    refine ⟨(Ly.t141 L :), ?_⟩
    rw [show jr h 141 9 = 144 from (Ly.r141_9 L :)]
    obtain ⟨z1, z2, H⟩ := H
    refine ⟨inA_mk (N := 6) (Ly.t144 L :) (Ly.n144 L :) z1 z2, ?_⟩
    refine ⟨(Ly.t141 L :), ?_⟩
    obtain ⟨z3, H⟩ := H
    refine ⟨_, _, m_127 (d := d) (by omega) L z3, ?_⟩
    obtain ⟨z6, H⟩ := H
    refine ⟨z6, ?_⟩
    obtain ⟨z4, z5, H⟩ := H
    refine ⟨inW_mk (N := 40) (Ly.t190 L :) (Ly.n190 L :) z4 z5, ?_⟩
    exact H (Ly.wi L (a := 190) (k := Int.toNat (ji h 141 72)) (x := w32 ((ji h 144 (Int.toNat v2)) + (w32 (Int.tdiv v4 (if v3 = -1 then 1 else ji h 145 (Int.toNat v3)))))) (by decide))
  · have c9 := Decidable.not_not.mp c9
    have H := H.1 c9
    obtain ⟨z7, z8, H⟩ := H
    refine ⟨inW_mk (N := 40) (Ly.t190 L :) (Ly.n190 L :) z7 z8, ?_⟩
    exact H (Ly.wi L (a := 190) (k := Int.toNat (ji h 141 72)) (x := (-1)) (by decide))
set_option maxRecDepth 100000 in
theorem c_159_91 {p : Lpar} {d : Nat} {h : AH} {Q : Option AV → AH → Prop} {v1 : Int} {v2 : Int} {v3 : Int} {v4 : Int} {z5 : AV} (hd : 9 ≤ d) (L : Ly p h) (H : (v3 = (-1) → 0 ≤ (ji h 141 72) ∧ (ji h 141 72) < 40 ∧ (Ly p (wi h 191 (Int.toNat (ji h 141 72)) (-1 : Int)) → WF d 159 124 [jP 141, jI v1, jI v2, jI v3, jI v4, z5] [] (wi h 191 (Int.toNat (ji h 141 72)) (-1 : Int)) Q)) ∧ (¬ v3 = (-1) → 0 ≤ v3 ∧ v3 < 6 ∧ (v3 = -1 ∨ (0 ≤ v3 ∧ v3 < 6)) ∧ ¬ (if v3 = -1 then 1 else ji h 145 (Int.toNat v3)) = 0 ∧ 0 ≤ (ji h 141 72) ∧ (ji h 141 72) < 40 ∧ (Ly p (wi h 191 (Int.toNat (ji h 141 72)) (w32 ((ji h 144 (Int.toNat v3)) + (w32 (Int.tmod v4 (if v3 = -1 then 1 else ji h 145 (Int.toNat v3))))))) → WF d 159 124 [jP 141, jI v1, jI v2, jI v3, jI v4, z5] [] (wi h 191 (Int.toNat (ji h 141 72)) (w32 ((ji h 144 (Int.toNat v3)) + (w32 (Int.tmod v4 (if v3 = -1 then 1 else ji h 145 (Int.toNat v3))))))) Q))) : WF d 159 91 [jP 141, jI v1, jI v2, jI v3, jI v4, z5] [] h Q := by
  refine b_159_91 ?_
  refine ⟨(Ly.t141 L :), ?_⟩
  rw [show jr h 141 75 = 191 from (Ly.r141_75 L :)]
  refine ⟨(Ly.t141 L :), ?_⟩
  refine ⟨fun c9 => ?_, fun c9 => ?_⟩
  · have H := H.2 c9
    refine ⟨(Ly.t141 L :), ?_⟩
    rw [show jr h 141 9 = 144 from (Ly.r141_9 L :)]
    obtain ⟨z1, z2, H⟩ := H
    refine ⟨inA_mk (N := 6) (Ly.t144 L :) (Ly.n144 L :) z1 z2, ?_⟩
    refine ⟨(Ly.t141 L :), ?_⟩
    obtain ⟨z3, H⟩ := H
    refine ⟨_, _, m_127 (d := d) (by omega) L z3, ?_⟩
    obtain ⟨z6, H⟩ := H
    refine ⟨z6, ?_⟩
    obtain ⟨z4, z5, H⟩ := H
    refine ⟨inW_mk (N := 40) (Ly.t191 L :) (Ly.n191 L :) z4 z5, ?_⟩
    exact H (Ly.wi L (a := 191) (k := Int.toNat (ji h 141 72)) (x := w32 ((ji h 144 (Int.toNat v3)) + (w32 (Int.tmod v4 (if v3 = -1 then 1 else ji h 145 (Int.toNat v3)))))) (by decide))
  · have c9 := Decidable.not_not.mp c9
    have H := H.1 c9
    obtain ⟨z7, z8, H⟩ := H
    refine ⟨inW_mk (N := 40) (Ly.t191 L :) (Ly.n191 L :) z7 z8, ?_⟩
    exact H (Ly.wi L (a := 191) (k := Int.toNat (ji h 141 72)) (x := (-1)) (by decide))
set_option maxRecDepth 100000 in
theorem c_159_124 {p : Lpar} {d : Nat} {h : AH} {Q : Option AV → AH → Prop} {v1 : Int} {v2 : Int} {v3 : Int} {v4 : Int} {z5 : AV} (hd : 9 ≤ d) (L : Ly p h) (H : 0 ≤ v1 ∧ v1 < 10 ∧ 0 ≤ (ji h 141 72) ∧ (ji h 141 72) < 40 ∧ (Ly p (wi h 192 (Int.toNat (ji h 141 72)) (ji h 155 (Int.toNat v1))) → WF d 159 139 [jP 141, jI v1, jI v2, jI v3, jI v4, z5] [] (wi h 192 (Int.toNat (ji h 141 72)) (ji h 155 (Int.toNat v1))) Q)) : WF d 159 124 [jP 141, jI v1, jI v2, jI v3, jI v4, z5] [] h Q := by
  refine b_159_124 ?_
  refine ⟨(Ly.t141 L :), ?_⟩
  rw [show jr h 141 76 = 192 from (Ly.r141_76 L :)]
  refine ⟨(Ly.t141 L :), ?_⟩
  refine ⟨(Ly.t141 L :), ?_⟩
  rw [show jr h 141 23 = 155 from (Ly.r141_23 L :)]
  obtain ⟨z1, z2, H⟩ := H
  refine ⟨inA_mk (N := 10) (Ly.t155 L :) (Ly.n155 L :) z1 z2, ?_⟩
  obtain ⟨z3, z4, H⟩ := H
  refine ⟨inW_mk (N := 40) (Ly.t192 L :) (Ly.n192 L :) z3 z4, ?_⟩
  exact H (Ly.wi L (a := 192) (k := Int.toNat (ji h 141 72)) (x := ji h 155 (Int.toNat v1)) (by decide))
set_option maxRecDepth 100000 in
theorem c_159_139 {p : Lpar} {d : Nat} {h : AH} {Q : Option AV → AH → Prop} {v1 : Int} {v2 : Int} {v3 : Int} {v4 : Int} {z5 : AV} (hd : 9 ≤ d) (L : Ly p h) (H : 0 ≤ (ji h 141 72) ∧ (ji h 141 72) < 40 ∧ (Ly p (wi h 173 (Int.toNat 0) (ji h 190 (Int.toNat (ji h 141 72)))) → WF d 159 154 [jP 141, jI v1, jI v2, jI v3, jI v4, z5] [] (wi h 173 (Int.toNat 0) (ji h 190 (Int.toNat (ji h 141 72)))) Q)) : WF d 159 139 [jP 141, jI v1, jI v2, jI v3, jI v4, z5] [] h Q := by
  refine b_159_139 ?_
  refine ⟨(Ly.t141 L :), ?_⟩
  rw [show jr h 141 55 = 173 from (Ly.r141_55 L :)]
  refine ⟨(Ly.t141 L :), ?_⟩
  rw [show jr h 141 74 = 190 from (Ly.r141_74 L :)]
  refine ⟨(Ly.t141 L :), ?_⟩
  obtain ⟨z1, z2, H⟩ := H
  refine ⟨inA_mk (N := 40) (Ly.t190 L :) (Ly.n190 L :) z1 z2, ?_⟩
  refine ⟨inW_mk (N := 20) (Ly.t173 L :) (Ly.n173 L :) (by decide) (by decide), ?_⟩
  exact H (Ly.wi L (a := 173) (k := Int.toNat 0) (x := ji h 190 (Int.toNat (ji h 141 72))) (by decide))
set_option maxRecDepth 100000 in
theorem c_159_154 {p : Lpar} {d : Nat} {h : AH} {Q : Option AV → AH → Prop} {v1 : Int} {v2 : Int} {v3 : Int} {v4 : Int} {z5 : AV} (hd : 9 ≤ d) (L : Ly p h) (H : 0 ≤ (ji h 141 72) ∧ (ji h 141 72) < 40 ∧ (Ly p (wi h 173 (Int.toNat 1) (ji h 191 (Int.toNat (ji h 141 72)))) → WF d 159 169 [jP 141, jI v1, jI v2, jI v3, jI v4, z5] [] (wi h 173 (Int.toNat 1) (ji h 191 (Int.toNat (ji h 141 72)))) Q)) : WF d 159 154 [jP 141, jI v1, jI v2, jI v3, jI v4, z5] [] h Q := by
  refine b_159_154 ?_
  refine ⟨(Ly.t141 L :), ?_⟩
  rw [show jr h 141 55 = 173 from (Ly.r141_55 L :)]
  refine ⟨(Ly.t141 L :), ?_⟩
  rw [show jr h 141 75 = 191 from (Ly.r141_75 L :)]
  refine ⟨(Ly.t141 L :), ?_⟩
  obtain ⟨z1, z2, H⟩ := H
  refine ⟨inA_mk (N := 40) (Ly.t191 L :) (Ly.n191 L :) z1 z2, ?_⟩
  refine ⟨inW_mk (N := 20) (Ly.t173 L :) (Ly.n173 L :) (by decide) (by decide), ?_⟩
  exact H (Ly.wi L (a := 173) (k := Int.toNat 1) (x := ji h 191 (Int.toNat (ji h 141 72))) (by decide))
set_option maxRecDepth 100000 in
theorem c_159_169 {p : Lpar} {d : Nat} {h : AH} {Q : Option AV → AH → Prop} {v1 : Int} {v2 : Int} {v3 : Int} {v4 : Int} {z5 : AV} (hd : 9 ≤ d) (L : Ly p h) (H : (Ly p (wi h 141 54 0) → WF d 159 174 [jP 141, jI v1, jI v2, jI v3, jI v4, z5] [] (wi h 141 54 0) Q)) : WF d 159 169 [jP 141, jI v1, jI v2, jI v3, jI v4, z5] [] h Q := by
  refine b_159_169 ?_
  refine ⟨(Ly.t141 L :), ?_⟩
  exact H (Ly.wi L (a := 141) (k := 54) (x := 0) (by decide))
set_option maxRecDepth 100000 in
theorem c_159_174 {p : Lpar} {d : Nat} {h : AH} {Q : Option AV → AH → Prop} {v1 : Int} {v2 : Int} {v3 : Int} {v4 : Int} {z5 : AV} (hd : 9 ≤ d) (L : Ly p h) (H : 0 ≤ (w32 (3 * v1)) ∧ (w32 (3 * v1)) < 30 ∧ 0 ≤ (w32 ((w32 (3 * v1)) + 1)) ∧ (w32 ((w32 (3 * v1)) + 1)) < 30 ∧ ∃ h5, jE d 151 [jP 141, jI (ji h 156 (Int.toNat (w32 (3 * v1)))), jI (ji h 156 (Int.toNat (w32 ((w32 (3 * v1)) + 1))))] h none h5 ∧ Ly p h5 ∧ WF d 159 196 [jP 141, jI v1, jI v2, jI v3, jI v4, z5] [] h5 Q) : WF d 159 174 [jP 141, jI v1, jI v2, jI v3, jI v4, z5] [] h Q := by
  refine b_159_174 ?_
  refine ⟨(Ly.t141 L :), ?_⟩
  rw [show jr h 141 24 = 156 from (Ly.r141_24 L :)]
  obtain ⟨z1, z2, H⟩ := H
  refine ⟨inA_mk (N := 30) (Ly.t156 L :) (Ly.n156 L :) z1 z2, ?_⟩
  refine ⟨(Ly.t141 L :), ?_⟩
  obtain ⟨z3, z4, H⟩ := H
  refine ⟨inA_mk (N := 30) (Ly.t156 L :) (Ly.n156 L :) z3 z4, ?_⟩
  refine ⟨(Ly.t141 L :), ?_⟩
  obtain ⟨h5, e7, L6, H⟩ := H
  refine ⟨h5, e7, ?_⟩
  exact H
set_option maxRecDepth 100000 in
theorem c_159_196 {p : Lpar} {d : Nat} {h : AH} {Q : Option AV → AH → Prop} {v1 : Int} {v2 : Int} {v3 : Int} {v4 : Int} {z5 : AV} (hd : 9 ≤ d) (L : Ly p h) (H : 0 ≤ (w32 ((w32 (3 * v1)) + 1)) ∧ (w32 ((w32 (3 * v1)) + 1)) < 30 ∧ 0 ≤ (w32 ((w32 (3 * v1)) + 2)) ∧ (w32 ((w32 (3 * v1)) + 2)) < 30 ∧ ∃ h5, jE d 151 [jP 141, jI (ji h 156 (Int.toNat (w32 ((w32 (3 * v1)) + 1)))), jI (ji h 156 (Int.toNat (w32 ((w32 (3 * v1)) + 2))))] h none h5 ∧ Ly p h5 ∧ WF d 159 220 [jP 141, jI v1, jI v2, jI v3, jI v4, z5] [] h5 Q) : WF d 159 196 [jP 141, jI v1, jI v2, jI v3, jI v4, z5] [] h Q := by
  refine b_159_196 ?_
  refine ⟨(Ly.t141 L :), ?_⟩
  rw [show jr h 141 24 = 156 from (Ly.r141_24 L :)]
  obtain ⟨z1, z2, H⟩ := H
  refine ⟨inA_mk (N := 30) (Ly.t156 L :) (Ly.n156 L :) z1 z2, ?_⟩
  refine ⟨(Ly.t141 L :), ?_⟩
  obtain ⟨z3, z4, H⟩ := H
  refine ⟨inA_mk (N := 30) (Ly.t156 L :) (Ly.n156 L :) z3 z4, ?_⟩
  refine ⟨(Ly.t141 L :), ?_⟩
  obtain ⟨h5, e7, L6, H⟩ := H
  refine ⟨h5, e7, ?_⟩
  exact H
set_option maxRecDepth 100000 in
theorem c_159_220 {p : Lpar} {d : Nat} {h : AH} {Q : Option AV → AH → Prop} {v1 : Int} {v2 : Int} {v3 : Int} {v4 : Int} {z5 : AV} (hd : 9 ≤ d) (L : Ly p h) (H : WF d 159 223 [jP 141, jI v1, jI v2, jI v3, jI v4, jI 0] [] h Q) : WF d 159 220 [jP 141, jI v1, jI v2, jI v3, jI v4, z5] [] h Q := by
  refine b_159_220 ?_
  exact H
set_option maxRecDepth 100000 in
theorem c_159_223 {p : Lpar} {d : Nat} {h : AH} {Q : Option AV → AH → Prop} {v1 : Int} {v2 : Int} {v3 : Int} {v4 : Int} {v5 : Int} (hd : 9 ≤ d) (L : Ly p h) (H : (40 ≤ v5 → 0 ≤ (w32 ((w32 (41 * (ji h 141 72))) + 40)) ∧ (w32 ((w32 (41 * (ji h 141 72))) + 40)) < 1640 ∧ (Ly p (wl h 193 (Int.toNat (w32 ((w32 (41 * (ji h 141 72))) + 40))) (w64 ((jl h 172 (Int.toNat 81)) - (jl h 172 (Int.toNat 40))))) → WF d 159 299 [jP 141, jI v1, jI v2, jI v3, jI v4, jI v5] [] (wl h 193 (Int.toNat (w32 ((w32 (41 * (ji h 141 72))) + 40))) (w64 ((jl h 172 (Int.toNat 81)) - (jl h 172 (Int.toNat 40))))) Q)) ∧ (¬ (40 ≤ v5) → 0 ≤ v5 ∧ v5 < 1640 ∧ 0 ≤ (w32 (41 + v5)) ∧ (w32 (41 + v5)) < 1640 ∧ 0 ≤ (w32 ((w32 (41 * (ji h 141 72))) + v5)) ∧ (w32 ((w32 (41 * (ji h 141 72))) + v5)) < 1640 ∧ (Ly p (wl h 193 (Int.toNat (w32 ((w32 (41 * (ji h 141 72))) + v5))) (w64 ((jl h 172 (Int.toNat v5)) - (jl h 172 (Int.toNat (w32 (41 + v5))))))) → WF d 159 263 [jP 141, jI v1, jI v2, jI v3, jI v4, jI v5] [] (wl h 193 (Int.toNat (w32 ((w32 (41 * (ji h 141 72))) + v5))) (w64 ((jl h 172 (Int.toNat v5)) - (jl h 172 (Int.toNat (w32 (41 + v5))))))) Q))) : WF d 159 223 [jP 141, jI v1, jI v2, jI v3, jI v4, jI v5] [] h Q := by
  refine b_159_223 ?_
  refine ⟨fun c9 => ?_, fun c9 => ?_⟩
  · have H := H.1 c9
    refine ⟨(Ly.t141 L :), ?_⟩
    rw [show jr h 141 77 = 193 from (Ly.r141_77 L :)]
    refine ⟨(Ly.t141 L :), ?_⟩
    refine ⟨(Ly.t141 L :), ?_⟩
    rw [show jr h 141 53 = 172 from (Ly.r141_53 L :)]
    refine ⟨inA_mk (N := 1640) (Ly.t172 L :) (Ly.n172 L :) (by decide) (by decide), ?_⟩
    refine ⟨(Ly.t141 L :), ?_⟩
    refine ⟨inA_mk (N := 1640) (Ly.t172 L :) (Ly.n172 L :) (by decide) (by decide), ?_⟩
    obtain ⟨z1, z2, H⟩ := H
    refine ⟨inW_mk (N := 1640) (Ly.t193 L :) (Ly.n193 L :) z1 z2, ?_⟩
    exact H (Ly.wl L (a := 193) (k := Int.toNat (w32 ((w32 (41 * (ji h 141 72))) + 40))) (x := w64 ((jl h 172 (Int.toNat 81)) - (jl h 172 (Int.toNat 40)))))
  · have H := H.2 c9
    refine ⟨(Ly.t141 L :), ?_⟩
    rw [show jr h 141 77 = 193 from (Ly.r141_77 L :)]
    refine ⟨(Ly.t141 L :), ?_⟩
    refine ⟨(Ly.t141 L :), ?_⟩
    rw [show jr h 141 53 = 172 from (Ly.r141_53 L :)]
    obtain ⟨z3, z4, H⟩ := H
    refine ⟨inA_mk (N := 1640) (Ly.t172 L :) (Ly.n172 L :) z3 z4, ?_⟩
    refine ⟨(Ly.t141 L :), ?_⟩
    obtain ⟨z5, z6, H⟩ := H
    refine ⟨inA_mk (N := 1640) (Ly.t172 L :) (Ly.n172 L :) z5 z6, ?_⟩
    obtain ⟨z7, z8, H⟩ := H
    refine ⟨inW_mk (N := 1640) (Ly.t193 L :) (Ly.n193 L :) z7 z8, ?_⟩
    exact H (Ly.wl L (a := 193) (k := Int.toNat (w32 ((w32 (41 * (ji h 141 72))) + v5))) (x := w64 ((jl h 172 (Int.toNat v5)) - (jl h 172 (Int.toNat (w32 (41 + v5)))))))
set_option maxRecDepth 100000 in
theorem c_159_263 {p : Lpar} {d : Nat} {h : AH} {Q : Option AV → AH → Prop} {v1 : Int} {v2 : Int} {v3 : Int} {v4 : Int} {v5 : Int} (hd : 9 ≤ d) (L : Ly p h) (H : WF d 159 223 [jP 141, jI v1, jI v2, jI v3, jI v4, jI (w32 (v5 + 1))] [] h Q) : WF d 159 263 [jP 141, jI v1, jI v2, jI v3, jI v4, jI v5] [] h Q := by
  refine b_159_263 ?_
  exact H
set_option maxRecDepth 100000 in
theorem c_159_299 {p : Lpar} {d : Nat} {h : AH} {Q : Option AV → AH → Prop} {v1 : Int} {v2 : Int} {v3 : Int} {v4 : Int} {v5 : Int} (hd : 9 ≤ d) (L : Ly p h) (H : (Ly p (wi h 141 72 (w32 ((ji h 141 72) + 1))) → WF d 159 309 [jP 141, jI v1, jI v2, jI v3, jI v4, jI v5] [] (wi h 141 72 (w32 ((ji h 141 72) + 1))) Q)) : WF d 159 299 [jP 141, jI v1, jI v2, jI v3, jI v4, jI v5] [] h Q := by
  refine b_159_299 ?_
  refine ⟨(Ly.t141 L :), ?_⟩
  refine ⟨(Ly.t141 L :), ?_⟩
  exact H (Ly.wi L (a := 141) (k := 72) (x := w32 ((ji h 141 72) + 1)) (by decide))
set_option maxRecDepth 100000 in
theorem c_159_309 {p : Lpar} {d : Nat} {h : AH} {Q : Option AV → AH → Prop} {v1 : Int} {v2 : Int} {v3 : Int} {v4 : Int} {v5 : Int} (hd : 9 ≤ d) (L : Ly p h) (H : WF d 159 38 [jP 141, jI v1, jI v2, jI v3, jI (w32 (v4 + 1)), jI v5] [] h Q) : WF d 159 309 [jP 141, jI v1, jI v2, jI v3, jI v4, jI v5] [] h Q := by
  refine b_159_309 ?_
  exact H
