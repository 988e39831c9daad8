-- needs: 20.num 21.lay 22.spec 23.va 24.leaf 25.tbls 26.thg 27.tok
set_option maxRecDepth 100000 in
theorem c_13_5 {p : Lpar} {d : Nat} {h : AH} {Q : Option AV → AH → Prop} {a1 : Nat} {z2 : AV} {z3 : AV} (hd : 9 ≤ d) (L : Ly p h) (H : WF d 13 7 [jP 95, jP a1, jI 0, z3] [] h Q) : WF d 13 5 [jP 95, jP a1, z2, z3] [] h Q := by
  refine b_13_5 ?_
  exact H
set_option maxRecDepth 100000 in
theorem c_13_7 {p : Lpar} {d : Nat} {h : AH} {Q : Option AV → AH → Prop} {a1 : Nat} {v2 : Int} {z3 : AV} (hd : 9 ≤ d) (L : Ly p h) (H : ((ji h (pM p + 18) 5) ≤ v2 → WF d 13 71 [jP 95, jP a1, jI 0, z3] [] h Q) ∧ (¬ ((ji h (pM p + 18) 5) ≤ v2) → (40 ≤ v2 → WF d 13 71 [jP 95, jP a1, jI 0, z3] [] h Q) ∧ (¬ (40 ≤ v2) → ∃ x4 h1, jE d 61 [jP (pM p + 18), jI v2] h (some (jI x4)) h1 ∧ Ly p h1 ∧ WF d 13 39 [jP 95, jP a1, jI v2, jI x4] [] h1 Q))) : WF d 13 7 [jP 95, jP a1, jI v2, z3] [] h Q := by
  refine b_13_7 ?_
  refine ⟨(Ly.t95 L :), ?_⟩
  rw [show jr h 95 0 = pM p from (Ly.r95_0 L :)]
  refine ⟨(Ly.dt0 L (Ly.iM L) :), ?_⟩
  rw [show jr h (pM p) 3 = (pM p + 18) from (Ly.dr0_3 L (Ly.iM L) :)]
  refine ⟨(Ly.dt18 L (Ly.iM L) :), ?_⟩
  refine ⟨fun c6 => ?_, fun c6 => ?_⟩
  · have H := H.1 c6
    exact H
  · have H := H.2 c6
    refine ⟨fun c5 => ?_, fun c5 => ?_⟩
    · have H := H.1 c5
      exact H
    · have H := H.2 c5
      refine ⟨(Ly.t95 L :), ?_⟩
      refine ⟨(Ly.dt0 L (Ly.iM L) :), ?_⟩
      refine ⟨(Ly.dt18 L (Ly.iM L) :), ?_⟩
      obtain ⟨x4, h1, e3, L2, H⟩ := H
      refine ⟨x4, h1, e3, ?_⟩
      exact H
set_option maxRecDepth 100000 in
theorem c_13_39 {p : Lpar} {d : Nat} {h : AH} {Q : Option AV → AH → Prop} {a1 : Nat} {v2 : Int} {v3 : Int} (hd : 9 ≤ d) (L : Ly p h) (H : (v3 = (-1) → 0 ≤ v2 ∧ v2 < 40 ∧ (Ly p (wi h 139 (Int.toNat v2) (0 : Int)) → WF d 13 63 [jP 95, jP a1, jI v2, jI v3] [] (wi h 139 (Int.toNat v2) (0 : Int)) Q)) ∧ (¬ v3 = (-1) → 0 ≤ v3 ∧ v3 < 6 ∧ 0 ≤ v2 ∧ v2 < 40 ∧ (Ly p (wi h 139 (Int.toNat v2) (ji h (pM p + 9) (Int.toNat v3))) → WF d 13 63 [jP 95, jP a1, jI v2, jI v3] [] (wi h 139 (Int.toNat v2) (ji h (pM p + 9) (Int.toNat v3))) Q))) : WF d 13 39 [jP 95, jP a1, jI v2, jI v3] [] h Q := by
  refine b_13_39 ?_
  refine ⟨(Ly.t95 L :), ?_⟩
  rw [show jr h 95 5 = 139 from (Ly.r95_5 L :)]
  refine ⟨fun c7 => ?_, fun c7 => ?_⟩
  · have H := H.2 c7
    refine ⟨(Ly.t95 L :), ?_⟩
    rw [show jr h 95 0 = pM p from (Ly.r95_0 L :)]
    refine ⟨(Ly.dt0 L (Ly.iM L) :), ?_⟩
    rw [show jr h (pM p) 7 = (pM p + 9) from (Ly.dr0_7 L (Ly.iM L) :)]
    obtain ⟨z1, z2, H⟩ := H
    refine ⟨inA_mk (N := 6) (Ly.dt9 L (Ly.iM L) :) (Ly.dn9 L (Ly.iM L) :) z1 z2, ?_⟩
    obtain ⟨z3, z4, H⟩ := H
    refine ⟨inW_mk (N := 40) (Ly.t139 L :) (Ly.n139 L :) z3 z4, ?_⟩
    exact H (Ly.wi L (a := 139) (k := Int.toNat v2) (x := ji h (pM p + 9) (Int.toNat v3)) (by decide))
  · have c7 := Decidable.not_not.mp c7
    have H := H.1 c7
    obtain ⟨z5, z6, H⟩ := H
    refine ⟨inW_mk (N := 40) (Ly.t139 L :) (Ly.n139 L :) z5 z6, ?_⟩
    exact H (Ly.wi L (a := 139) (k := Int.toNat v2) (x := 0) (by decide))
set_option maxRecDepth 100000 in
theorem c_13_63 {p : Lpar} {d : Nat} {h : AH} {Q : Option AV → AH → Prop} {a1 : Nat} {v2 : Int} {v3 : Int} (hd : 9 ≤ d) (L : Ly p h) (H : WF d 13 7 [jP 95, jP a1, jI (w32 (v2 + 1)), jI v3] [] h Q) : WF d 13 63 [jP 95, jP a1, jI v2, jI v3] [] h Q := by
  refine b_13_63 ?_
  exact H
set_option maxRecDepth 100000 in
theorem c_13_71 {p : Lpar} {d : Nat} {h : AH} {Q : Option AV → AH → Prop} {a1 : Nat} {v2 : Int} {z3 : AV} (hd : 9 ≤ d) (L : Ly p h) (H : ((ji h (pM p + 22) 5) ≤ v2 → ∃ h1, jE d 15 [jP 95, jP 138] h none h1 ∧ Ly p h1 ∧ WF d 13 110 [jP 95, jP a1, jI v2, z3] [] h1 Q) ∧ (¬ ((ji h (pM p + 22) 5) ≤ v2) → (40 ≤ v2 → ∃ h4, jE d 15 [jP 95, jP 138] h none h4 ∧ Ly p h4 ∧ WF d 13 110 [jP 95, jP a1, jI v2, z3] [] h4 Q) ∧ (¬ (40 ≤ v2) → ∃ h7, jE d 14 [jP 95, jI v2] h none h7 ∧ Ly p h7 ∧ WF d 13 96 [jP 95, jP a1, jI v2, z3] [] h7 Q))) : WF d 13 71 [jP 95, jP a1, jI v2, z3] [] h Q := by
  refine b_13_71 ?_
  refine ⟨(Ly.t95 L :), ?_⟩
  rw [show jr h 95 0 = pM p from (Ly.r95_0 L :)]
  refine ⟨(Ly.dt0 L (Ly.iM L) :), ?_⟩
  rw [show jr h (pM p) 4 = (pM p + 22) from (Ly.dr0_4 L (Ly.iM L) :)]
  refine ⟨(Ly.dt22 L (Ly.iM L) :), ?_⟩
  refine ⟨fun c11 => ?_, fun c11 => ?_⟩
  · have H := H.1 c11
    refine ⟨(Ly.t95 L :), ?_⟩
    rw [show jr h 95 3 = 138 from (Ly.r95_3 L :)]
    refine ⟨(Ly.t95 L :), ?_⟩
    obtain ⟨h1, e3, L2, H⟩ := H
    refine ⟨h1, e3, ?_⟩
    exact H
  · have H := H.2 c11
    refine ⟨fun c10 => ?_, fun c10 => ?_⟩
    · have H := H.1 c10
      refine ⟨(Ly.t95 L :), ?_⟩
      rw [show jr h 95 3 = 138 from (Ly.r95_3 L :)]
      refine ⟨(Ly.t95 L :), ?_⟩
      obtain ⟨h4, e6, L5, H⟩ := H
      refine ⟨h4, e6, ?_⟩
      exact H
    · have H := H.2 c10
      refine ⟨(Ly.t95 L :), ?_⟩
      obtain ⟨h7, e9, L8, H⟩ := H
      refine ⟨h7, e9, ?_⟩
      exact H
set_option maxRecDepth 100000 in
theorem c_13_96 {p : Lpar} {d : Nat} {h : AH} {Q : Option AV → AH → Prop} {a1 : Nat} {v2 : Int} {z3 : AV} (hd : 9 ≤ d) (L : Ly p h) (H : WF d 13 71 [jP 95, jP a1, jI (w32 (v2 + 1)), z3] [] h Q) : WF d 13 96 [jP 95, jP a1, jI v2, z3] [] h Q := by
  refine b_13_96 ?_
  exact H
set_option maxRecDepth 100000 in
theorem c_13_110 {p : Lpar} {d : Nat} {h : AH} {Q : Option AV → AH → Prop} {a1 : Nat} {v2 : Int} {z3 : AV} (hd : 9 ≤ d) (L : Ly p h) (H : ∃ h1, jE d 16 [jP 95, jP (jr h (pM p) 13), jL 1, jI 0] h none h1 ∧ Ly p h1 ∧ WF d 13 123 [jP 95, jP a1, jI v2, z3] [] h1 Q) : WF d 13 110 [jP 95, jP a1, jI v2, z3] [] h Q := by
  refine b_13_110 ?_
  refine ⟨(Ly.t95 L :), ?_⟩
  rw [show jr h 95 0 = pM p from (Ly.r95_0 L :)]
  refine ⟨(Ly.dt0 L (Ly.iM L) :), ?_⟩
  refine ⟨(Ly.t95 L :), ?_⟩
  obtain ⟨h1, e3, L2, H⟩ := H
  refine ⟨h1, e3, ?_⟩
  exact H
set_option maxRecDepth 100000 in
theorem c_13_123 {p : Lpar} {d : Nat} {h : AH} {Q : Option AV → AH → Prop} {a1 : Nat} {v2 : Int} {z3 : AV} (hd : 9 ≤ d) (L : Ly p h) (H : (Ly p (wl h 95 4 (jl h 95 8)) → WF d 13 131 [jP 95, jP a1, jI v2, z3] [] (wl h 95 4 (jl h 95 8)) Q)) : WF d 13 123 [jP 95, jP a1, jI v2, z3] [] h Q := by
  refine b_13_123 ?_
  refine ⟨(Ly.t95 L :), ?_⟩
  refine ⟨(Ly.t95 L :), ?_⟩
  exact H (Ly.wl L (a := 95) (k := 4) (x := jl h 95 8))
set_option maxRecDepth 100000 in
theorem c_13_131 {p : Lpar} {d : Nat} {h : AH} {Q : Option AV → AH → Prop} {a1 : Nat} {v2 : Int} {z3 : AV} (hd : 9 ≤ d) (L : Ly p h) (H : Q none h) : WF d 13 131 [jP 95, jP a1, jI v2, z3] [] h Q := by
  refine b_13_131 ?_
  exact H
set_option maxRecDepth 100000 in
theorem c_14_0 {p : Lpar} {d : Nat} {h : AH} {Q : Option AV → AH → Prop} {v1 : Int} (hd : 9 ≤ d) (L : Ly p h) (H : ∃ x4 h1, jE d 61 [jP (pM p + 22), jI v1] h (some (jI x4)) h1 ∧ Ly p h1 ∧ WF d 14 12 [jP 95, jI v1, jI x4] [] h1 Q) : WF d 14 0 [jP 95, jI v1, jU] [] h Q := by
  refine b_14_0 ?_
  refine ⟨(Ly.t95 L :), ?_⟩
  rw [show jr h 95 0 = pM p from (Ly.r95_0 L :)]
  refine ⟨(Ly.dt0 L (Ly.iM L) :), ?_⟩
  rw [show jr h (pM p) 4 = (pM p + 22) from (Ly.dr0_4 L (Ly.iM L) :)]
  refine ⟨(Ly.dt22 L (Ly.iM L) :), ?_⟩
  obtain ⟨x4, h1, e3, L2, H⟩ := H
  refine ⟨x4, h1, e3, ?_⟩
  exact H
set_option maxRecDepth 100000 in
theorem c_14_12 {p : Lpar} {d : Nat} {h : AH} {Q : Option AV → AH → Prop} {v1 : Int} {v2 : Int} (hd : 9 ≤ d) (L : Ly p h) (H : (v2 = (-1) → Q none h) ∧ (¬ v2 = (-1) → ∃ x4 h1, jE d 62 [jP (pM p + 22), jI v1] h (some (jI x4)) h1 ∧ Ly p h1 ∧ (Ly p (wi h1 140 (Int.toNat 0) x4) → WF d 14 35 [jP 95, jI v1, jI v2] [] (wi h1 140 (Int.toNat 0) x4) Q))) : WF d 14 12 [jP 95, jI v1, jI v2] [] h Q := by
  refine b_14_12 ?_
  refine ⟨fun c5 => ?_, fun c5 => ?_⟩
  · have H := H.2 c5
    refine ⟨(Ly.t95 L :), ?_⟩
    rw [show jr h 95 6 = 140 from (Ly.r95_6 L :)]
    refine ⟨(Ly.t95 L :), ?_⟩
    rw [show jr h 95 0 = pM p from (Ly.r95_0 L :)]
    refine ⟨(Ly.dt0 L (Ly.iM L) :), ?_⟩
    rw [show jr h (pM p) 4 = (pM p + 22) from (Ly.dr0_4 L (Ly.iM L) :)]
    refine ⟨(Ly.dt22 L (Ly.iM L) :), ?_⟩
    obtain ⟨x4, h1, e3, L2, H⟩ := H
    refine ⟨x4, h1, e3, ?_⟩
    refine ⟨inW_mk (N := 18) (Ly.t140 L2 :) (Ly.n140 L2 :) (by decide) (by decide), ?_⟩
    exact H (Ly.wi L2 (a := 140) (k := Int.toNat 0) (x := x4) (by decide))
  · have c5 := Decidable.not_not.mp c5
    have H := H.1 c5
    exact H
set_option maxRecDepth 100000 in
theorem c_14_35 {p : Lpar} {d : Nat} {h : AH} {Q : Option AV → AH → Prop} {v1 : Int} {v2 : Int} (hd : 9 ≤ d) (L : Ly p h) (H : ∃ x4 h1, jE d 63 [jP (pM p + 22), jI v1] h (some (jI x4)) h1 ∧ Ly p h1 ∧ (Ly p (wi h1 140 (Int.toNat 1) x4) → WF d 14 52 [jP 95, jI v1, jI v2] [] (wi h1 140 (Int.toNat 1) x4) Q)) : WF d 14 35 [jP 95, jI v1, jI v2] [] h Q := by
  refine b_14_35 ?_
  refine ⟨(Ly.t95 L :), ?_⟩
  rw [show jr h 95 6 = 140 from (Ly.r95_6 L :)]
  refine ⟨(Ly.t95 L :), ?_⟩
  rw [show jr h 95 0 = pM p from (Ly.r95_0 L :)]
  refine ⟨(Ly.dt0 L (Ly.iM L) :), ?_⟩
  rw [show jr h (pM p) 4 = (pM p + 22) from (Ly.dr0_4 L (Ly.iM L) :)]
  refine ⟨(Ly.dt22 L (Ly.iM L) :), ?_⟩
  obtain ⟨x4, h1, e3, L2, H⟩ := H
  refine ⟨x4, h1, e3, ?_⟩
  refine ⟨inW_mk (N := 18) (Ly.t140 L2 :) (Ly.n140 L2 :) (by decide) (by decide), ?_⟩
  exact H (Ly.wi L2 (a := 140) (k := Int.toNat 1) (x := x4) (by decide))
set_option maxRecDepth 100000 in
theorem c_14_52 {p : Lpar} {d : Nat} {h : AH} {Q : Option AV → AH → Prop} {v1 : Int} {v2 : Int} (hd : 9 ≤ d) (L : Ly p h) (H : 0 ≤ v1 ∧ v1 < 40 ∧ ∃ h3, jE d 15 [jP 95, jP (97 + Int.toNat v1)] h none h3 ∧ Ly p h3 ∧ WF d 14 62 [jP 95, jI v1, jI v2] [] h3 Q) : WF d 14 52 [jP 95, jI v1, jI v2] [] h Q := by
  refine b_14_52 ?_
  refine ⟨(Ly.t95 L :), ?_⟩
  rw [show jr h 95 1 = 96 from (Ly.r95_1 L :)]
  obtain ⟨z1, z2, H⟩ := H
  refine ⟨Or.inr (inA_mk (N := 40) (Ly.t96 L :) (Ly.n96 L :) z1 z2), ?_⟩
  rw [show jr h 96 (Int.toNat v1) = (97 + Int.toNat v1) from (Ly.row L (k := Int.toNat v1) (by omega) :)]
  refine ⟨(Ly.t95 L :), ?_⟩
  obtain ⟨h3, e5, L4, H⟩ := H
  refine ⟨h3, e5, ?_⟩
  exact H
set_option maxRecDepth 100000 in
theorem c_14_62 {p : Lpar} {d : Nat} {h : AH} {Q : Option AV → AH → Prop} {v1 : Int} {v2 : Int} (hd : 9 ≤ d) (L : Ly p h) (H : 0 ≤ v2 ∧ v2 < 10 ∧ ∃ h3, jE d 16 [jP 95, jP (jr h (pM p + 12) (Int.toNat v2)), jL 1, jI 0] h none h3 ∧ Ly p h3 ∧ WF d 14 77 [jP 95, jI v1, jI v2] [] h3 Q) : WF d 14 62 [jP 95, jI v1, jI v2] [] h Q := by
  refine b_14_62 ?_
  refine ⟨(Ly.t95 L :), ?_⟩
  rw [show jr h 95 0 = pM p from (Ly.r95_0 L :)]
  refine ⟨(Ly.dt0 L (Ly.iM L) :), ?_⟩
  rw [show jr h (pM p) 10 = (pM p + 12) from (Ly.dr0_10 L (Ly.iM L) :)]
  obtain ⟨z1, z2, H⟩ := H
  refine ⟨Or.inl (inA_mk (N := 10) (Ly.dt12 L (Ly.iM L) :) (Ly.dn12 L (Ly.iM L) :) z1 z2), ?_⟩
  refine ⟨(Ly.t95 L :), ?_⟩
  obtain ⟨h3, e5, L4, H⟩ := H
  refine ⟨h3, e5, ?_⟩
  exact H
set_option maxRecDepth 100000 in
theorem c_14_77 {p : Lpar} {d : Nat} {h : AH} {Q : Option AV → AH → Prop} {v1 : Int} {v2 : Int} (hd : 9 ≤ d) (L : Ly p h) (H : 0 ≤ v2 ∧ v2 < 10 ∧ ∃ h3, jE d 16 [jP 95, jP (jr h (pM p + 13) (Int.toNat v2)), jL (-1), jI 0] h none h3 ∧ Ly p h3 ∧ WF d 14 94 [jP 95, jI v1, jI v2] [] h3 Q) : WF d 14 77 [jP 95, jI v1, jI v2] [] h Q := by
  refine b_14_77 ?_
  refine ⟨(Ly.t95 L :), ?_⟩
  rw [show jr h 95 0 = pM p from (Ly.r95_0 L :)]
  refine ⟨(Ly.dt0 L (Ly.iM L) :), ?_⟩
  rw [show jr h (pM p) 11 = (pM p + 13) from (Ly.dr0_11 L (Ly.iM L) :)]
  obtain ⟨z1, z2, H⟩ := H
  refine ⟨Or.inl (inA_mk (N := 10) (Ly.dt13 L (Ly.iM L) :) (Ly.dn13 L (Ly.iM L) :) z1 z2), ?_⟩
  refine ⟨(Ly.t95 L :), ?_⟩
  obtain ⟨h3, e5, L4, H⟩ := H
  refine ⟨h3, e5, ?_⟩
  exact H
set_option maxRecDepth 100000 in
theorem c_14_94 {p : Lpar} {d : Nat} {h : AH} {Q : Option AV → AH → Prop} {v1 : Int} {v2 : Int} (hd : 9 ≤ d) (L : Ly p h) (H : 0 ≤ v1 ∧ v1 < 40 ∧ (Ly p (wl h 137 (Int.toNat v1) (w64 (-(jl h 95 8)))) → WF d 14 105 [jP 95, jI v1, jI v2] [] (wl h 137 (Int.toNat v1) (w64 (-(jl h 95 8)))) Q)) : WF d 14 94 [jP 95, jI v1, jI v2] [] h Q := by
  refine b_14_94 ?_
  refine ⟨(Ly.t95 L :), ?_⟩
  rw [show jr h 95 2 = 137 from (Ly.r95_2 L :)]
  refine ⟨(Ly.t95 L :), ?_⟩
  obtain ⟨z1, z2, H⟩ := H
  refine ⟨inW_mk (N := 40) (Ly.t137 L :) (Ly.n137 L :) z1 z2, ?_⟩
  exact H (Ly.wl L (a := 137) (k := Int.toNat v1) (x := w64 (-(jl h 95 8))))
set_option maxRecDepth 100000 in
theorem c_14_105 {p : Lpar} {d : Nat} {h : AH} {Q : Option AV → AH → Prop} {v1 : Int} {v2 : Int} (hd : 9 ≤ d) (L : Ly p h) (H : Q none h) : WF d 14 105 [jP 95, jI v1, jI v2] [] h Q := by
  refine b_14_105 ?_
  exact H
set_option maxRecDepth 100000 in
theorem c_15_0 {p : Lpar} {d : Nat} {h : AH} {Q : Option AV → AH → Prop} {a1 : Nat} (hd : 9 ≤ d) (L : Ly p h) (H : (Ly p (wr h 95 7 a1) → ∃ h1, jE d 200 [jP a1, jL 0] (wr h 95 7 a1) none h1 ∧ Ly p h1 ∧ (Ly p (wl h1 95 8 0) → Q none (wl h1 95 8 0)))) : WF d 15 0 [jP 95, jP a1] [] h Q := by
  refine b_15_0 ?_
  refine ⟨(Ly.t95 L :), ?_⟩
  refine ⟨(Ly.t95 L :), ?_⟩
  have H := H (Ly.wr L (a := 95) (k := 7) (b := a1) (by unfold mutR; omega))
  obtain ⟨h1, e3, L2, H⟩ := H
  refine ⟨h1, e3, ?_⟩
  refine ⟨(Ly.t95 L2 :), ?_⟩
  exact H (Ly.wl L2 (a := 95) (k := 8) (x := 0))
set_option maxRecDepth 100000 in
theorem c_16_0 {p : Lpar} {d : Nat} {h : AH} {Q : Option AV → AH → Prop} {a1 : Nat} {v2 : Int} {v4 : Int} (hd : 9 ≤ d) (L : Ly p h) (H : WF d 16 3 [jP 95, jP a1, jL v2, jU, jI v4, jP a1, jU, jU, jU] [] h Q) : WF d 16 0 [jP 95, jP a1, jL v2, jU, jI v4, jU, jU, jU, jU] [] h Q := by
  refine b_16_0 ?_
  exact H
set_option maxRecDepth 100000 in
theorem c_16_3 {p : Lpar} {d : Nat} {h : AH} {Q : Option AV → AH → Prop} {a1 : Nat} {v2 : Int} {v4 : Int} {a5 : Nat} {z6 : AV} {z7 : AV} {z8 : AV} (hd : 9 ≤ d) (L : Ly p h) (H : ¬ a5 = 1 ∧ (a5 = 0 → Q none h) ∧ (¬ a5 = 0 → jt h a5 = 6 ∧ ((ji h a5 0) = (0 : Int) → jt h a5 = 6 ∧ WF d 16 31 [jP 95, jP a1, jL v2, jU, jI v4, jP a5, jL v2, jU, jP (jr h a5 1)] [] h Q) ∧ (¬ ((ji h a5 0) = (0 : Int)) → jt h a5 = 6 ∧ WF d 16 31 [jP 95, jP a1, jL v2, jU, jI v4, jP a5, jL (w64 (-v2)), jU, jP (jr h a5 1)] [] h Q))) : WF d 16 3 [jP 95, jP a1, jL v2, jU, jI v4, jP a5, z6, z7, z8] [] h Q := by
  refine b_16_3 ?_
  obtain ⟨z5, H⟩ := H
  refine ⟨z5, fun c6 => ?_, fun c6 => ?_⟩
  · have H := H.1 c6
    exact H
  · have H := H.2 c6
    obtain ⟨z4, H⟩ := H
    refine ⟨z4, ?_⟩
    refine ⟨fun c3 => ?_, fun c3 => ?_⟩
    · have H := H.1 c3
      obtain ⟨z1, H⟩ := H
      refine ⟨z1, ?_⟩
      exact H
    · have H := H.2 c3
      obtain ⟨z2, H⟩ := H
      refine ⟨z2, ?_⟩
      exact H
set_option maxRecDepth 100000 in
theorem c_16_31 {p : Lpar} {d : Nat} {h : AH} {Q : Option AV → AH → Prop} {a1 : Nat} {v2 : Int} {v4 : Int} {a5 : Nat} {v6 : Int} {a8 : Nat} (hd : 9 ≤ d) (L : Ly p h) (H : ¬ a8 = 1 ∧ (a8 = 0 → jt h a5 = 6 ∧ ¬ (jr h a5 2) = 1 ∧ (¬ (jr h a5 2) = 0 → jt h a5 = 6 ∧ ∃ h1, jE d 17 [jP 95, jP (jr h a5 2), jL v6, jI v4] h none h1 ∧ Ly p h1 ∧ jt h1 a5 = 6 ∧ WF d 16 3 [jP 95, jP a1, jL v2, jU, jI v4, jP (jr h1 a5 3), jL v6, jU, jP a8] [] h1 Q) ∧ ((jr h a5 2) = 0 → jt (wl h 95 8 (w64 ((jl h 95 8) + v6))) a5 = 6 ∧ (Ly p (wl h 95 8 (w64 ((jl h 95 8) + v6))) → WF d 16 3 [jP 95, jP a1, jL v2, jU, jI v4, jP (jr (wl h 95 8 (w64 ((jl h 95 8) + v6))) a5 3), jL v6, jU, jP a8] [] (wl h 95 8 (w64 ((jl h 95 8) + v6))) Q))) ∧ (¬ a8 = 0 → ∃ l13 h10, jE d 20 [jP 95, jP a8, jI v4] h (some (jL l13)) h10 ∧ Ly p h10 ∧ jt h10 a8 = 3 ∧ WF d 16 31 [jP 95, jP a1, jL v2, jU, jI v4, jP a5, jL (w64 (v6 * l13)), jU, jP (jr h10 a8 6)] [] h10 Q)) : WF d 16 31 [jP 95, jP a1, jL v2, jU, jI v4, jP a5, jL v6, jU, jP a8] [] h Q := by
  refine b_16_31 ?_
  obtain ⟨z15, H⟩ := H
  refine ⟨z15, fun c16 => ?_, fun c16 => ?_⟩
  · have H := H.1 c16
    obtain ⟨z9, H⟩ := H
    refine ⟨z9, ?_⟩
    obtain ⟨z7, H⟩ := H
    refine ⟨z7, fun c8 => ?_, fun c8 => ?_⟩
    · have H := H.1 c8
      obtain ⟨z5, H⟩ := H
      refine ⟨z5, ?_⟩
      refine ⟨(Ly.t95 L :), ?_⟩
      obtain ⟨h1, e3, L2, H⟩ := H
      refine ⟨h1, e3, ?_⟩
      obtain ⟨z4, H⟩ := H
      refine ⟨z4, ?_⟩
      exact H
    · have H := H.2 c8
      refine ⟨(Ly.t95 L :), ?_⟩
      refine ⟨(Ly.t95 L :), ?_⟩
      obtain ⟨z6, H⟩ := H
      refine ⟨z6, ?_⟩
      exact H (Ly.wl L (a := 95) (k := 8) (x := w64 ((jl h 95 8) + v6)))
  · have H := H.2 c16
    refine ⟨(Ly.t95 L :), ?_⟩
    obtain ⟨l13, h10, e12, L11, H⟩ := H
    refine ⟨l13, h10, e12, ?_⟩
    obtain ⟨z14, H⟩ := H
    refine ⟨z14, ?_⟩
    exact H
set_option maxRecDepth 100000 in
theorem c_17_0 {p : Lpar} {d : Nat} {h : AH} {Q : Option AV → AH → Prop} {a1 : Nat} {v2 : Int} {v4 : Int} (hd : 9 ≤ d) (L : Ly p h) (H : jt h a1 = 3 ∧ ((ji h a1 0) = 4 → ∃ h22, jE d 18 [jP 95, jP a1, jL v2, jI v4] h none h22 ∧ Ly p h22 ∧ Q none h22) ∧ (¬ (ji h a1 0) = 4 → jt h a1 = 3 ∧ jt h a1 = 3 ∧ ∃ x4 h1, jE d 21 [jP 95, jI (ji h a1 2)] h (some (jI x4)) h1 ∧ Ly p h1 ∧ jt h1 a1 = 3 ∧ ∃ x8 h5, jE d 21 [jP 95, jI (ji h1 a1 3)] h1 (some (jI x8)) h5 ∧ Ly p h5 ∧ ∃ x12 h9, jE d 60 [jP (pM p + 18), jI (ji h a1 1), jI x4, jI x8] h5 (some (jI x12)) h9 ∧ Ly p h9 ∧ (x12 < 0 → Q none h9) ∧ (¬ (x12 < 0) → 20 ≤ jt h9 (jr h9 95 7) ∧ jt h9 (jr h9 95 7) < 60 ∧ ((jn h9 (jr h9 95 7) : Int) ≤ x12 → Q none h9) ∧ (¬ ((jn h9 (jr h9 95 7) : Int) ≤ x12) → inA h9 (jr h9 95 7) 1 x12 ∧ inW h9 (jr h9 95 7) 1 x12 ∧ (Ly p (wl h9 (jr h9 95 7) (Int.toNat x12) (w64 ((jl h9 (jr h9 95 7) (Int.toNat x12)) + v2))) → Q none (wl h9 (jr h9 95 7) (Int.toNat x12) (w64 ((jl h9 (jr h9 95 7) (Int.toNat x12)) + v2)))))))) : WF d 17 0 [jP 95, jP a1, jL v2, jU, jI v4, jU] [] h Q := by
  refine b_17_0 ?_
  obtain ⟨z26, H⟩ := H
  refine ⟨z26, ?_⟩
  refine ⟨fun c25 => ?_, fun c25 => ?_⟩
  · have H := H.2 c25
    refine ⟨(Ly.t95 L :), ?_⟩
    rw [show jr h 95 0 = pM p from (Ly.r95_0 L :)]
    refine ⟨(Ly.dt0 L (Ly.iM L) :), ?_⟩
    rw [show jr h (pM p) 3 = (pM p + 18) from (Ly.dr0_3 L (Ly.iM L) :)]
    obtain ⟨z21, H⟩ := H
    refine ⟨z21, ?_⟩
    obtain ⟨z20, H⟩ := H
    refine ⟨z20, ?_⟩
    refine ⟨(Ly.t95 L :), ?_⟩
    obtain ⟨x4, h1, e3, L2, H⟩ := H
    refine ⟨x4, h1, e3, ?_⟩
    obtain ⟨z19, H⟩ := H
    refine ⟨z19, ?_⟩
    refine ⟨(Ly.t95 L2 :), ?_⟩
    obtain ⟨x8, h5, e7, L6, H⟩ := H
    refine ⟨x8, h5, e7, ?_⟩
    refine ⟨(Ly.dt18 L6 (Ly.iM L6) :), ?_⟩
    obtain ⟨x12, h9, e11, L10, H⟩ := H
    refine ⟨x12, h9, e11, ?_⟩
    refine ⟨fun c18 => ?_, fun c18 => ?_⟩
    · have H := H.1 c18
      exact H
    · have H := H.2 c18
      refine ⟨(Ly.t95 L10 :), ?_⟩
      obtain ⟨z16, z17, H⟩ := H
      refine ⟨z16, z17, ?_⟩
      refine ⟨fun c15 => ?_, fun c15 => ?_⟩
      · have H := H.1 c15
        exact H
      · have H := H.2 c15
        refine ⟨(Ly.t95 L10 :), ?_⟩
        obtain ⟨z14, H⟩ := H
        refine ⟨z14, ?_⟩
        obtain ⟨z13, H⟩ := H
        refine ⟨z13, ?_⟩
        exact H (Ly.wl L10 (a := jr h9 95 7) (k := Int.toNat x12) (x := w64 ((jl h9 (jr h9 95 7) (Int.toNat x12)) + v2)))
  · have c25 := Decidable.not_not.mp c25
    have H := H.1 c25
    refine ⟨(Ly.t95 L :), ?_⟩
    obtain ⟨h22, e24, L23, H⟩ := H
    refine ⟨h22, e24, ?_⟩
    exact H
set_option maxRecDepth 100000 in
theorem c_18_0 {p : Lpar} {d : Nat} {h : AH} {Q : Option AV → AH → Prop} {a1 : Nat} {v2 : Int} {v4 : Int} (hd : 9 ≤ d) (L : Ly p h) (H : (v4 < 8 → jt h a1 = 3 ∧ ∃ x4 h1, jE d 53 [jP (pM p + 5), jI (ji h a1 2)] h (some (jI x4)) h1 ∧ Ly p h1 ∧ WF d 18 24 [jP 95, jP a1, jL v2, jU, jI v4, jI x4, jU, jU, jU] [] h1 Q) ∧ (¬ (v4 < 8) → Q none h)) : WF d 18 0 [jP 95, jP a1, jL v2, jU, jI v4, jU, jU, jU, jU] [] h Q := by
  refine b_18_0 ?_
  refine ⟨fun c6 => ?_, fun c6 => ?_⟩
  · have H := H.1 c6
    refine ⟨(Ly.t95 L :), ?_⟩
    rw [show jr h 95 0 = pM p from (Ly.r95_0 L :)]
    refine ⟨(Ly.dt0 L (Ly.iM L) :), ?_⟩
    rw [show jr h (pM p) 1 = (pM p + 5) from (Ly.dr0_1 L (Ly.iM L) :)]
    obtain ⟨z5, H⟩ := H
    refine ⟨z5, ?_⟩
    refine ⟨(Ly.dt5 L (Ly.iM L) :), ?_⟩
    obtain ⟨x4, h1, e3, L2, H⟩ := H
    refine ⟨x4, h1, e3, ?_⟩
    exact H
  · have H := H.2 c6
    exact H
set_option maxRecDepth 100000 in
theorem c_18_24 {p : Lpar} {d : Nat} {h : AH} {Q : Option AV → AH → Prop} {a1 : Nat} {v2 : Int} {v4 : Int} {v5 : Int} {z6 : AV} {z7 : AV} {z8 : AV} (hd : 9 ≤ d) (L : Ly p h) (H : jt h a1 = 3 ∧ ∃ x4 h1, jE d 53 [jP (pM p + 5), jI (ji h a1 3)] h (some (jI x4)) h1 ∧ Ly p h1 ∧ WF d 18 40 [jP 95, jP a1, jL v2, jU, jI v4, jI v5, jI x4, z7, z8] [] h1 Q) : WF d 18 24 [jP 95, jP a1, jL v2, jU, jI v4, jI v5, z6, z7, z8] [] h Q := by
  refine b_18_24 ?_
  refine ⟨(Ly.t95 L :), ?_⟩
  rw [show jr h 95 0 = pM p from (Ly.r95_0 L :)]
  refine ⟨(Ly.dt0 L (Ly.iM L) :), ?_⟩
  rw [show jr h (pM p) 1 = (pM p + 5) from (Ly.dr0_1 L (Ly.iM L) :)]
  obtain ⟨z5, H⟩ := H
  refine ⟨z5, ?_⟩
  refine ⟨(Ly.dt5 L (Ly.iM L) :), ?_⟩
  obtain ⟨x4, h1, e3, L2, H⟩ := H
  refine ⟨x4, h1, e3, ?_⟩
  exact H
set_option maxRecDepth 100000 in
theorem c_18_40 {p : Lpar} {d : Nat} {h : AH} {Q : Option AV → AH → Prop} {a1 : Nat} {v2 : Int} {v4 : Int} {v5 : Int} {v6 : Int} {z7 : AV} {z8 : AV} (hd : 9 ≤ d) (L : Ly p h) (H : WF d 18 43 [jP 95, jP a1, jL v2, jU, jI v4, jI v5, jI v6, jI 0, z8] [] h Q) : WF d 18 40 [jP 95, jP a1, jL v2, jU, jI v4, jI v5, jI v6, z7, z8] [] h Q := by
  refine b_18_40 ?_
  exact H
set_option maxRecDepth 100000 in
theorem c_18_43 {p : Lpar} {d : Nat} {h : AH} {Q : Option AV → AH → Prop} {a1 : Nat} {v2 : Int} {v4 : Int} {v5 : Int} {v6 : Int} {v7 : Int} {z8 : AV} (hd : 9 ≤ d) (L : Ly p h) (H : (v5 ≤ v7 → Q none h) ∧ (¬ (v5 ≤ v7) → jt h a1 = 3 ∧ jt h a1 = 3 ∧ ∃ h1, jE d 19 [jP 95, jI (ji h a1 1), jI (ji h a1 2), jI v7] h none h1 ∧ Ly p h1 ∧ WF d 18 64 [jP 95, jP a1, jL v2, jU, jI v4, jI v5, jI v6, jI v7, z8] [] h1 Q)) : WF d 18 43 [jP 95, jP a1, jL v2, jU, jI v4, jI v5, jI v6, jI v7, z8] [] h Q := by
  refine b_18_43 ?_
  refine ⟨fun c6 => ?_, fun c6 => ?_⟩
  · have H := H.1 c6
    exact H
  · have H := H.2 c6
    obtain ⟨z5, H⟩ := H
    refine ⟨z5, ?_⟩
    obtain ⟨z4, H⟩ := H
    refine ⟨z4, ?_⟩
    refine ⟨(Ly.t95 L :), ?_⟩
    obtain ⟨h1, e3, L2, H⟩ := H
    refine ⟨h1, e3, ?_⟩
    exact H
set_option maxRecDepth 100000 in
theorem c_18_64 {p : Lpar} {d : Nat} {h : AH} {Q : Option AV → AH → Prop} {a1 : Nat} {v2 : Int} {v4 : Int} {v5 : Int} {v6 : Int} {v7 : Int} {z8 : AV} (hd : 9 ≤ d) (L : Ly p h) (H : WF d 18 67 [jP 95, jP a1, jL v2, jU, jI v4, jI v5, jI v6, jI v7, jI 0] [] h Q) : WF d 18 64 [jP 95, jP a1, jL v2, jU, jI v4, jI v5, jI v6, jI v7, z8] [] h Q := by
  refine b_18_64 ?_
  exact H
set_option maxRecDepth 100000 in
theorem c_18_67 {p : Lpar} {d : Nat} {h : AH} {Q : Option AV → AH → Prop} {a1 : Nat} {v2 : Int} {v4 : Int} {v5 : Int} {v6 : Int} {v7 : Int} {v8 : Int} (hd : 9 ≤ d) (L : Ly p h) (H : (v6 ≤ v8 → WF d 18 43 [jP 95, jP a1, jL v2, jU, jI v4, jI v5, jI v6, jI (w32 (v7 + 1)), jI v8] [] h Q) ∧ (¬ (v6 ≤ v8) → jt h a1 = 3 ∧ jt h a1 = 3 ∧ ∃ h1, jE d 19 [jP 95, jI (w32 ((ji h a1 1) + 1)), jI (ji h a1 3), jI v8] h none h1 ∧ Ly p h1 ∧ WF d 18 90 [jP 95, jP a1, jL v2, jU, jI v4, jI v5, jI v6, jI v7, jI v8] [] h1 Q)) : WF d 18 67 [jP 95, jP a1, jL v2, jU, jI v4, jI v5, jI v6, jI v7, jI v8] [] h Q := by
  refine b_18_67 ?_
  refine ⟨fun c6 => ?_, fun c6 => ?_⟩
  · have H := H.1 c6
    exact H
  · have H := H.2 c6
    obtain ⟨z5, H⟩ := H
    refine ⟨z5, ?_⟩
    obtain ⟨z4, H⟩ := H
    refine ⟨z4, ?_⟩
    refine ⟨(Ly.t95 L :), ?_⟩
    obtain ⟨h1, e3, L2, H⟩ := H
    refine ⟨h1, e3, ?_⟩
    exact H
set_option maxRecDepth 100000 in
theorem c_18_90 {p : Lpar} {d : Nat} {h : AH} {Q : Option AV → AH → Prop} {a1 : Nat} {v2 : Int} {v4 : Int} {v5 : Int} {v6 : Int} {v7 : Int} {v8 : Int} (hd : 9 ≤ d) (L : Ly p h) (H : jt h a1 = 3 ∧ ∃ h1, jE d 16 [jP 95, jP (jr h a1 4), jL v2, jI (w32 (v4 + 1))] h none h1 ∧ Ly p h1 ∧ WF d 18 103 [jP 95, jP a1, jL v2, jU, jI v4, jI v5, jI v6, jI v7, jI v8] [] h1 Q) : WF d 18 90 [jP 95, jP a1, jL v2, jU, jI v4, jI v5, jI v6, jI v7, jI v8] [] h Q := by
  refine b_18_90 ?_
  obtain ⟨z4, H⟩ := H
  refine ⟨z4, ?_⟩
  refine ⟨(Ly.t95 L :), ?_⟩
  obtain ⟨h1, e3, L2, H⟩ := H
  refine ⟨h1, e3, ?_⟩
  exact H
set_option maxRecDepth 100000 in
theorem c_18_103 {p : Lpar} {d : Nat} {h : AH} {Q : Option AV → AH → Prop} {a1 : Nat} {v2 : Int} {v4 : Int} {v5 : Int} {v6 : Int} {v7 : Int} {v8 : Int} (hd : 9 ≤ d) (L : Ly p h) (H : WF d 18 67 [jP 95, jP a1, jL v2, jU, jI v4, jI v5, jI v6, jI v7, jI (w32 (v8 + 1))] [] h Q) : WF d 18 103 [jP 95, jP a1, jL v2, jU, jI v4, jI v5, jI v6, jI v7, jI v8] [] h Q := by
  refine b_18_103 ?_
  exact H
set_option maxRecDepth 100000 in
theorem c_19_0 {p : Lpar} {d : Nat} {h : AH} {Q : Option AV → AH → Prop} {v1 : Int} {v2 : Int} {v3 : Int} (hd : 9 ≤ d) (L : Ly p h) (H : (v2 = (-1) → Q none h) ∧ (¬ (v2 = (-1)) → (v1 < 0 → Q none h) ∧ (¬ (v1 < 0) → (18 ≤ v1 → Q none h) ∧ (¬ (18 ≤ v1) → ∃ x4 h1, jE d 54 [jP (pM p + 5), jI v2, jI v3] h (some (jI x4)) h1 ∧ Ly p h1 ∧ 0 ≤ v1 ∧ v1 < 18 ∧ (Ly p (wi h1 140 (Int.toNat v1) x4) → Q none (wi h1 140 (Int.toNat v1) x4)))))) : WF d 19 0 [jP 95, jI v1, jI v2, jI v3] [] h Q := by
  refine b_19_0 ?_
  refine ⟨fun c9 => ?_, fun c9 => ?_⟩
  · have H := H.1 c9
    exact H
  · have H := H.2 c9
    refine ⟨fun c8 => ?_, fun c8 => ?_⟩
    · have H := H.1 c8
      exact H
    · have H := H.2 c8
      refine ⟨(Ly.t95 L :), ?_⟩
      rw [show jr h 95 6 = 140 from (Ly.r95_6 L :)]
      refine ⟨by rw [show jt h 140 = _ from (Ly.t140 L :)]; decide, by rw [show jt h 140 = _ from (Ly.t140 L :)]; decide, ?_⟩
      rw [show (jn h 140 : Int) = 18 from by rw [show jn h 140 = 18 from (Ly.n140 L :)]; rfl]
      refine ⟨fun c7 => ?_, fun c7 => ?_⟩
      · have H := H.1 c7
        exact H
      · have H := H.2 c7
        refine ⟨(Ly.t95 L :), ?_⟩
        refine ⟨(Ly.t95 L :), ?_⟩
        rw [show jr h 95 0 = pM p from (Ly.r95_0 L :)]
        refine ⟨(Ly.dt0 L (Ly.iM L) :), ?_⟩
        rw [show jr h (pM p) 1 = (pM p + 5) from (Ly.dr0_1 L (Ly.iM L) :)]
        refine ⟨(Ly.dt5 L (Ly.iM L) :), ?_⟩
        obtain ⟨x4, h1, e3, L2, H⟩ := H
        refine ⟨x4, h1, e3, ?_⟩
        obtain ⟨z5, z6, H⟩ := H
        refine ⟨inW_mk (N := 18) (Ly.t140 L2 :) (Ly.n140 L2 :) z5 z6, ?_⟩
        exact H (Ly.wi L2 (a := 140) (k := Int.toNat v1) (x := x4) (by decide))
set_option maxRecDepth 100000 in
theorem c_20_0 {p : Lpar} {d : Nat} {h : AH} {Q : Option AV → AH → Prop} {a1 : Nat} {v2 : Int} (hd : 9 ≤ d) (L : Ly p h) (H : jt h a1 = 3 ∧ (((ji h a1 0) < 0 ∨ 2 < (ji h a1 0)) → WF d 20 94 [jP 95, jP a1, jI v2, jL (jl h 95 8), jU, jU, jU] [] h Q) ∧ ((ji h a1 0) = 0 → jt h a1 = 3 ∧ Q (some (jL (ji h a1 1))) h) ∧ ((ji h a1 0) = 1 → jt h a1 = 3 ∧ ∃ x6 h3, jE d 21 [jP 95, jI (jxor (ji h a1 1) (-1))] h (some (jI x6)) h3 ∧ Ly p h3 ∧ Q (some (jL x6)) h3) ∧ ((ji h a1 0) = 2 → jt h a1 = 3 ∧ jt h a1 = 3 ∧ ∃ x11 h8, jE d 21 [jP 95, jI (ji h a1 2)] h (some (jI x11)) h8 ∧ Ly p h8 ∧ jt h8 a1 = 3 ∧ ∃ x15 h12, jE d 21 [jP 95, jI (ji h8 a1 3)] h8 (some (jI x15)) h12 ∧ Ly p h12 ∧ ∃ x19 h16, jE d 60 [jP (pM p + 14), jI (ji h a1 1), jI x11, jI x15] h12 (some (jI x19)) h16 ∧ Ly p h16 ∧ ∃ x23 h20, jE d 9 [jP (pM p), jI x19] h16 (some (jI x23)) h20 ∧ Ly p h20 ∧ Q (some (jL x23)) h20)) : WF d 20 0 [jP 95, jP a1, jI v2, jU, jU, jU, jU] [] h Q := by
  refine b_20_0 ?_
  obtain ⟨z27, H⟩ := H
  refine ⟨z27, ?_⟩
  obtain ⟨H0, H1, H2, H3⟩ := H
  refine ⟨fun c1 => ?_, fun c1 => ?_, fun c1 => ?_, fun c1 => ?_, trivial⟩
  · have H := H0 c1
    refine ⟨(Ly.t95 L :), ?_⟩
    exact H
  · have H := H1 c1
    obtain ⟨z2, H⟩ := H
    refine ⟨z2, ?_⟩
    exact H
  · have H := H2 c1
    obtain ⟨z7, H⟩ := H
    refine ⟨z7, ?_⟩
    refine ⟨(Ly.t95 L :), ?_⟩
    obtain ⟨x6, h3, e5, L4, H⟩ := H
    refine ⟨x6, h3, e5, ?_⟩
    exact H
  · have H := H3 c1
    refine ⟨(Ly.t95 L :), ?_⟩
    rw [show jr h 95 0 = pM p from (Ly.r95_0 L :)]
    refine ⟨(Ly.t95 L :), ?_⟩
    refine ⟨(Ly.dt0 L (Ly.iM L) :), ?_⟩
    rw [show jr h (pM p) 2 = (pM p + 14) from (Ly.dr0_2 L (Ly.iM L) :)]
    obtain ⟨z26, H⟩ := H
    refine ⟨z26, ?_⟩
    obtain ⟨z25, H⟩ := H
    refine ⟨z25, ?_⟩
    refine ⟨(Ly.t95 L :), ?_⟩
    obtain ⟨x11, h8, e10, L9, H⟩ := H
    refine ⟨x11, h8, e10, ?_⟩
    obtain ⟨z24, H⟩ := H
    refine ⟨z24, ?_⟩
    refine ⟨(Ly.t95 L9 :), ?_⟩
    obtain ⟨x15, h12, e14, L13, H⟩ := H
    refine ⟨x15, h12, e14, ?_⟩
    refine ⟨(Ly.dt14 L13 (Ly.iM L13) :), ?_⟩
    obtain ⟨x19, h16, e18, L17, H⟩ := H
    refine ⟨x19, h16, e18, ?_⟩
    refine ⟨(Ly.dt0 L17 (Ly.iM L17) :), ?_⟩
    obtain ⟨x23, h20, e22, L21, H⟩ := H
    refine ⟨x23, h20, e22, ?_⟩
    exact H
set_option maxRecDepth 100000 in
theorem c_20_94 {p : Lpar} {d : Nat} {h : AH} {Q : Option AV → AH → Prop} {a1 : Nat} {v2 : Int} {v3 : Int} {z5 : AV} {z6 : AV} (hd : 9 ≤ d) (L : Ly p h) (H : (Ly p (wl h 95 8 0) → WF d 20 99 [jP 95, jP a1, jI v2, jL v3, jU, z5, z6] [] (wl h 95 8 0) Q)) : WF d 20 94 [jP 95, jP a1, jI v2, jL v3, jU, z5, z6] [] h Q := by
  refine b_20_94 ?_
  refine ⟨(Ly.t95 L :), ?_⟩
  exact H (Ly.wl L (a := 95) (k := 8) (x := 0))
set_option maxRecDepth 100000 in
theorem c_20_99 {p : Lpar} {d : Nat} {h : AH} {Q : Option AV → AH → Prop} {a1 : Nat} {v2 : Int} {v3 : Int} {z5 : AV} {z6 : AV} (hd : 9 ≤ d) (L : Ly p h) (H : ∃ h1, jE d 18 [jP 95, jP a1, jL 1, jI v2] h none h1 ∧ Ly p h1 ∧ WF d 20 106 [jP 95, jP a1, jI v2, jL v3, jU, z5, z6] [] h1 Q) : WF d 20 99 [jP 95, jP a1, jI v2, jL v3, jU, z5, z6] [] h Q := by
  refine b_20_99 ?_
  refine ⟨(Ly.t95 L :), ?_⟩
  obtain ⟨h1, e3, L2, H⟩ := H
  refine ⟨h1, e3, ?_⟩
  exact H
set_option maxRecDepth 100000 in
theorem c_20_106 {p : Lpar} {d : Nat} {h : AH} {Q : Option AV → AH → Prop} {a1 : Nat} {v2 : Int} {v3 : Int} {z5 : AV} {z6 : AV} (hd : 9 ≤ d) (L : Ly p h) (H : WF d 20 112 [jP 95, jP a1, jI v2, jL v3, jU, jL (jl h 95 8), jU] [] h Q) : WF d 20 106 [jP 95, jP a1, jI v2, jL v3, jU, z5, z6] [] h Q := by
  refine b_20_106 ?_
  refine ⟨(Ly.t95 L :), ?_⟩
  exact H
set_option maxRecDepth 100000 in
theorem c_20_112 {p : Lpar} {d : Nat} {h : AH} {Q : Option AV → AH → Prop} {a1 : Nat} {v2 : Int} {v3 : Int} {v5 : Int} (hd : 9 ≤ d) (L : Ly p h) (H : (Ly p (wl h 95 8 v3) → WF d 20 117 [jP 95, jP a1, jI v2, jL v3, jU, jL v5, jU] [] (wl h 95 8 v3) Q)) : WF d 20 112 [jP 95, jP a1, jI v2, jL v3, jU, jL v5, jU] [] h Q := by
  refine b_20_112 ?_
  refine ⟨(Ly.t95 L :), ?_⟩
  exact H (Ly.wl L (a := 95) (k := 8) (x := v3))
set_option maxRecDepth 100000 in
theorem c_20_117 {p : Lpar} {d : Nat} {h : AH} {Q : Option AV → AH → Prop} {a1 : Nat} {v2 : Int} {v3 : Int} {v5 : Int} (hd : 9 ≤ d) (L : Ly p h) (H : Q (some (jL v5)) h) : WF d 20 117 [jP 95, jP a1, jI v2, jL v3, jU, jL v5, jU] [] h Q := by
  refine b_20_117 ?_
  exact H
set_option maxRecDepth 100000 in
theorem c_21_0 {p : Lpar} {d : Nat} {h : AH} {Q : Option AV → AH → Prop} {v1 : Int} (hd : 9 ≤ d) (L : Ly p h) (H : (v1 < 0 → (18 ≤ (jxor v1 (-1)) → Q (some (jI 0)) h) ∧ (¬ (18 ≤ (jxor v1 (-1))) → 0 ≤ (jxor v1 (-1)) ∧ (jxor v1 (-1)) < 18 ∧ Q (some (jI (ji h 140 (Int.toNat (jxor v1 (-1)))))) h)) ∧ (¬ (v1 < 0) → Q (some (jI v1)) h)) : WF d 21 0 [jP 95, jI v1] [] h Q := by
  refine b_21_0 ?_
  refine ⟨fun c4 => ?_, fun c4 => ?_⟩
  · have H := H.1 c4
    refine ⟨(Ly.t95 L :), ?_⟩
    rw [show jr h 95 6 = 140 from (Ly.r95_6 L :)]
    refine ⟨by rw [show jt h 140 = _ from (Ly.t140 L :)]; decide, by rw [show jt h 140 = _ from (Ly.t140 L :)]; decide, ?_⟩
    rw [show (jn h 140 : Int) = 18 from by rw [show jn h 140 = 18 from (Ly.n140 L :)]; rfl]
    refine ⟨fun c3 => ?_, fun c3 => ?_⟩
    · have H := H.1 c3
      exact H
    · have H := H.2 c3
      refine ⟨(Ly.t95 L :), ?_⟩
      obtain ⟨z1, z2, H⟩ := H
      refine ⟨inA_mk (N := 18) (Ly.t140 L :) (Ly.n140 L :) z1 z2, ?_⟩
      exact H
  · have H := H.2 c4
    exact H
set_option maxRecDepth 100000 in
theorem c_22_0 {p : Lpar} {d : Nat} {h : AH} {Q : Option AV → AH → Prop} {a1 : Nat} (hd : 9 ≤ d) (L : Ly p h) (H : WF d 22 5 [jP 95, jP a1, jL 0, jU, jI 0] [] h Q) : WF d 22 0 [jP 95, jP a1, jU, jU, jU] [] h Q := by
  refine b_22_0 ?_
  exact H
set_option maxRecDepth 100000 in
theorem c_22_5 {p : Lpar} {d : Nat} {h : AH} {Q : Option AV → AH → Prop} {a1 : Nat} {v2 : Int} {v4 : Int} (hd : 9 ≤ d) (L : Ly p h) (H : ((ji h (pM p + 18) 5) ≤ v4 → Q (some (jL v2)) h) ∧ (¬ ((ji h (pM p + 18) 5) ≤ v4) → 20 ≤ jt h a1 ∧ jt h a1 < 60 ∧ ((jn h a1 : Int) ≤ v4 → Q (some (jL v2)) h) ∧ (¬ ((jn h a1 : Int) ≤ v4) → inA h a1 1 v4 ∧ 0 ≤ v4 ∧ v4 < 40 ∧ WF d 22 5 [jP 95, jP a1, jL (w64 (v2 + (w64 ((jl h a1 (Int.toNat v4)) * (ji h 139 (Int.toNat v4)))))), jU, jI (w32 (v4 + 1))] [] h Q))) : WF d 22 5 [jP 95, jP a1, jL v2, jU, jI v4] [] h Q := by
  refine b_22_5 ?_
  refine ⟨(Ly.t95 L :), ?_⟩
  rw [show jr h 95 0 = pM p from (Ly.r95_0 L :)]
  refine ⟨(Ly.dt0 L (Ly.iM L) :), ?_⟩
  rw [show jr h (pM p) 3 = (pM p + 18) from (Ly.dr0_3 L (Ly.iM L) :)]
  refine ⟨(Ly.dt18 L (Ly.iM L) :), ?_⟩
  refine ⟨fun c7 => ?_, fun c7 => ?_⟩
  · have H := H.1 c7
    exact H
  · have H := H.2 c7
    obtain ⟨z5, z6, H⟩ := H
    refine ⟨z5, z6, ?_⟩
    refine ⟨fun c4 => ?_, fun c4 => ?_⟩
    · have H := H.1 c4
      exact H
    · have H := H.2 c4
      obtain ⟨z3, H⟩ := H
      refine ⟨z3, ?_⟩
      refine ⟨(Ly.t95 L :), ?_⟩
      rw [show jr h 95 5 = 139 from (Ly.r95_5 L :)]
      obtain ⟨z1, z2, H⟩ := H
      refine ⟨inA_mk (N := 40) (Ly.t139 L :) (Ly.n139 L :) z1 z2, ?_⟩
      exact H
set_option maxRecDepth 100000 in
theorem c_200_0 {p : Lpar} {d : Nat} {h : AH} {Q : Option AV → AH → Prop} {a0 : Nat} {v1 : Int} (hd : 9 ≤ d) (L : Ly p h) (H : 20 ≤ jt h a0 ∧ jt h a0 < 60 ∧ WF d 200 6 [jP a0, jL v1, jU, jI 0, jI (jn h a0 : Int)] [] h Q) : WF d 200 0 [jP a0, jL v1, jU, jU, jU] [] h Q := by
  refine b_200_0 ?_
  obtain ⟨z1, z2, H⟩ := H
  refine ⟨z1, z2, ?_⟩
  exact H
set_option maxRecDepth 100000 in
theorem c_200_6 {p : Lpar} {d : Nat} {h : AH} {Q : Option AV → AH → Prop} {a0 : Nat} {v1 : Int} {v3 : Int} {v4 : Int} (hd : 9 ≤ d) (L : Ly p h) (H : (v4 ≤ v3 → Q none h) ∧ (¬ (v4 ≤ v3) → inW h a0 1 v3 ∧ (Ly p (wl h a0 (Int.toNat v3) v1) → WF d 200 6 [jP a0, jL v1, jU, jI (w32 (v3 + 1)), jI v4] [] (wl h a0 (Int.toNat v3) v1) Q))) : WF d 200 6 [jP a0, jL v1, jU, jI v3, jI v4] [] h Q := by
  refine b_200_6 ?_
  refine ⟨fun c2 => ?_, fun c2 => ?_⟩
  · have H := H.1 c2
    exact H
  · have H := H.2 c2
    obtain ⟨z1, H⟩ := H
    refine ⟨z1, ?_⟩
    exact H (Ly.wl L (a := a0) (k := Int.toNat v3) (x := v1))
