-- needs: 20.num 21.lay
theorem inA_mk {h : AH} {a n N : Nat} {i : Int} (ht : jt h a = 20 + n) (hn : jn h a = N) (h0 : 0 ≤ i) (h1 : i < (N : Int)) : inA h a n i := ⟨Or.inl ht, h0, by rw [hn]; exact h1⟩
theorem inW_mk {h : AH} {a n N : Nat} {i : Int} (ht : jt h a = 20 + n) (hn : jn h a = N) (h0 : 0 ≤ i) (h1 : i < (N : Int)) : inW h a n i := ⟨ht, h0, by rw [hn]; exact h1⟩
theorem layT_row : ∀ k, k < 40 → layT.getD (65 + k) 0 = 21 ∧ layN.getD (65 + k) 0 = 40 := by decide +kernel
theorem Ly.trow {p : Lpar} {h : AH} (L : Ly p h) {k : Nat} (hk : k < 40) : jt h (97 + k) = 21 := by
  have := (L.tn (65 + k) (by omega)).1
  rw [(layT_row k hk).1] at this
  rw [show 97 + k = 65 + k + 32 by omega]; exact this
theorem Ly.nrow {p : Lpar} {h : AH} (L : Ly p h) {k : Nat} (hk : k < 40) : jn h (97 + k) = 40 := by
  have := (L.tn (65 + k) (by omega)).2
  rw [(layT_row k hk).2] at this
  rw [show 97 + k = 65 + k + 32 by omega]; exact this
set_option maxRecDepth 100000 in
theorem c_144_0 {p : Lpar} {d : Nat} {h : AH} {Q : Option AV → AH → Prop}  (hd : 9 ≤ d) (L : Ly p h) (H : ((ji h 141 51) = (0 : Int) → ((ji h 141 48) = (0 : Int) → ((ji h 141 51) = (0 : Int) → (Ly p (wi h 141 48 0) → WF d 144 47 [jP 141] [] (wi h 141 48 0) Q)) ∧ (¬ ((ji h 141 51) = (0 : Int)) → (Ly p (wi h 141 48 1) → WF d 144 47 [jP 141] [] (wi h 141 48 1) Q))) ∧ (¬ (ji h 141 48) = (0 : Int) → (Ly p (wi h 141 48 1) → WF d 144 47 [jP 141] [] (wi h 141 48 1) Q))) ∧ (¬ ((ji h 141 51) = (0 : Int)) → ((ji h 141 48) = (0 : Int) → ((ji h 141 48) = (0 : Int) → ((ji h 141 51) = (0 : Int) → (Ly p (wi h 141 48 0) → WF d 144 47 [jP 141] [] (wi h 141 48 0) Q)) ∧ (¬ ((ji h 141 51) = (0 : Int)) → (Ly p (wi h 141 48 1) → WF d 144 47 [jP 141] [] (wi h 141 48 1) Q))) ∧ (¬ (ji h 141 48) = (0 : Int) → (Ly p (wi h 141 48 1) → WF d 144 47 [jP 141] [] (wi h 141 48 1) Q))) ∧ (¬ ((ji h 141 48) = (0 : Int)) → ∃ h5, jE d 119 [jP 141, jI (ji h 141 50)] h none h5 ∧ Ly p h5 ∧ WF d 144 22 [jP 141] [] h5 Q))) : WF d 144 0 [jP 141] [] h Q := by
  refine b_144_0 ?_
  refine ⟨(Ly.t141 L), ?_⟩
  refine ⟨fun c9 => ?_, fun c9 => ?_⟩
  · have H := H.1 c9
    refine ⟨(Ly.t141 L), ?_⟩
    refine ⟨fun c2 => ?_, fun c2 => ?_⟩
    · have H := H.2 c2
      refine ⟨Or.inr rfl, ?_⟩
      refine ⟨(Ly.t141 L), ?_⟩
      exact H (Ly.wi L (by decide))
    · have c2 := Decidable.not_not.mp c2
      have H := H.1 c2
      refine ⟨(Ly.t141 L), ?_⟩
      refine ⟨fun c1 => ?_, fun c1 => ?_⟩
      · have H := H.1 c1
        refine ⟨Or.inl rfl, ?_⟩
        refine ⟨(Ly.t141 L), ?_⟩
        exact H (Ly.wi L (by decide))
      · have H := H.2 c1
        refine ⟨Or.inr rfl, ?_⟩
        refine ⟨(Ly.t141 L), ?_⟩
        exact H (Ly.wi L (by decide))
  · have H := H.2 c9
    refine ⟨(Ly.t141 L), ?_⟩
    refine ⟨fun c8 => ?_, fun c8 => ?_⟩
    · have H := H.1 c8
      refine ⟨(Ly.t141 L), ?_⟩
      refine ⟨fun c4 => ?_, fun c4 => ?_⟩
      · have H := H.2 c4
        refine ⟨Or.inr rfl, ?_⟩
        refine ⟨(Ly.t141 L), ?_⟩
        exact H (Ly.wi L (by decide))
      · have c4 := Decidable.not_not.mp c4
        have H := H.1 c4
        refine ⟨(Ly.t141 L), ?_⟩
        refine ⟨fun c3 => ?_, fun c3 => ?_⟩
        · have H := H.1 c3
          refine ⟨Or.inl rfl, ?_⟩
          refine ⟨(Ly.t141 L), ?_⟩
          exact H (Ly.wi L (by decide))
        · have H := H.2 c3
          refine ⟨Or.inr rfl, ?_⟩
          refine ⟨(Ly.t141 L), ?_⟩
          exact H (Ly.wi L (by decide))
    · have H := H.2 c8
      refine ⟨(Ly.t141 L), ?_⟩
      refine ⟨(Ly.t141 L), ?_⟩
      obtain ⟨h5, e7, L6, H⟩ := H
      refine ⟨h5, e7, ?_⟩
      exact H
set_option maxRecDepth 100000 in
theorem c_144_22 {p : Lpar} {d : Nat} {h : AH} {Q : Option AV → AH → Prop}  (hd : 9 ≤ d) (L : Ly p h) (H : Q (some (jI 2)) h) : WF d 144 22 [jP 141] [] h Q := by
  refine b_144_22 ?_
  exact H
set_option maxRecDepth 100000 in
theorem c_144_47 {p : Lpar} {d : Nat} {h : AH} {Q : Option AV → AH → Prop}  (hd : 9 ≤ d) (L : Ly p h) (H : ∃ h1, jE d 136 [jP 141, jI 6, jI 0, jI 0, jI 0] h none h1 ∧ Ly p h1 ∧ WF d 144 56 [jP 141] [] h1 Q) : WF d 144 47 [jP 141] [] h Q := by
  refine b_144_47 ?_
  refine ⟨(Ly.t141 L), ?_⟩
  obtain ⟨h1, e3, L2, H⟩ := H
  refine ⟨h1, e3, ?_⟩
  exact H
set_option maxRecDepth 100000 in
theorem c_144_56 {p : Lpar} {d : Nat} {h : AH} {Q : Option AV → AH → Prop}  (hd : 9 ≤ d) (L : Ly p h) (H : ((ji h 141 2) = 142 → ∃ h8, jE d 118 [jP 141] h none h8 ∧ Ly p h8 ∧ WF d 144 70 [jP 141] [] h8 Q) ∧ (¬ (ji h 141 2) = 142 → ((ji h 141 47) ≤ 0 → ∃ h1, jE d 136 [jP 141, jI 8, jI 0, jI 0, jI 0] h none h1 ∧ Ly p h1 ∧ WF d 144 93 [jP 141] [] h1 Q) ∧ (¬ ((ji h 141 47) ≤ 0) → ∃ h4, jE d 136 [jP 141, jI 7, jI 0, jI 0, jI 0] h none h4 ∧ Ly p h4 ∧ WF d 144 93 [jP 141] [] h4 Q))) : WF d 144 56 [jP 141] [] h Q := by
  refine b_144_56 ?_
  refine ⟨(Ly.t141 L), ?_⟩
  refine ⟨fun c11 => ?_, fun c11 => ?_⟩
  · have H := H.2 c11
    refine ⟨(Ly.t141 L), ?_⟩
    refine ⟨fun c7 => ?_, fun c7 => ?_⟩
    · have H := H.1 c7
      refine ⟨(Ly.t141 L), ?_⟩
      obtain ⟨h1, e3, L2, H⟩ := H
      refine ⟨h1, e3, ?_⟩
      exact H
    · have H := H.2 c7
      refine ⟨(Ly.t141 L), ?_⟩
      obtain ⟨h4, e6, L5, H⟩ := H
      refine ⟨h4, e6, ?_⟩
      exact H
  · have c11 := Decidable.not_not.mp c11
    have H := H.1 c11
    refine ⟨(Ly.t141 L), ?_⟩
    obtain ⟨h8, e10, L9, H⟩ := H
    refine ⟨h8, e10, ?_⟩
    exact H
set_option maxRecDepth 100000 in
theorem c_144_70 {p : Lpar} {d : Nat} {h : AH} {Q : Option AV → AH → Prop}  (hd : 9 ≤ d) (L : Ly p h) (H : Q (some (jI 0)) h) : WF d 144 70 [jP 141] [] h Q := by
  refine b_144_70 ?_
  exact H
set_option maxRecDepth 100000 in
theorem c_144_93 {p : Lpar} {d : Nat} {h : AH} {Q : Option AV → AH → Prop}  (hd : 9 ≤ d) (L : Ly p h) (H : ((ji h 141 49) = (0 : Int) → ((ji h 141 48) = (0 : Int) → (Ly p (wi h 141 49 0) → WF d 144 116 [jP 141] [] (wi h 141 49 0) Q)) ∧ (¬ ((ji h 141 48) = (0 : Int)) → (Ly p (wi h 141 49 1) → WF d 144 116 [jP 141] [] (wi h 141 49 1) Q))) ∧ (¬ (ji h 141 49) = (0 : Int) → (Ly p (wi h 141 49 1) → WF d 144 116 [jP 141] [] (wi h 141 49 1) Q))) : WF d 144 93 [jP 141] [] h Q := by
  refine b_144_93 ?_
  refine ⟨(Ly.t141 L), ?_⟩
  refine ⟨fun c2 => ?_, fun c2 => ?_⟩
  · have H := H.2 c2
    refine ⟨Or.inr rfl, ?_⟩
    refine ⟨(Ly.t141 L), ?_⟩
    exact H (Ly.wi L (by decide))
  · have c2 := Decidable.not_not.mp c2
    have H := H.1 c2
    refine ⟨(Ly.t141 L), ?_⟩
    refine ⟨fun c1 => ?_, fun c1 => ?_⟩
    · have H := H.1 c1
      refine ⟨Or.inl rfl, ?_⟩
      refine ⟨(Ly.t141 L), ?_⟩
      exact H (Ly.wi L (by decide))
    · have H := H.2 c1
      refine ⟨Or.inr rfl, ?_⟩
      refine ⟨(Ly.t141 L), ?_⟩
      exact H (Ly.wi L (by decide))
set_option maxRecDepth 100000 in
theorem c_144_116 {p : Lpar} {d : Nat} {h : AH} {Q : Option AV → AH → Prop}  (hd : 9 ≤ d) (L : Ly p h) (H : ((ji h 141 2) = 143 → ((ji h 141 2) = 143 → (Ly p (wi h 141 47 1) → WF d 144 155 [jP 141] [] (wi h 141 47 1) Q)) ∧ (¬ (ji h 141 2) = 143 → (Ly p (wi h 141 47 (-1)) → WF d 144 155 [jP 141] [] (wi h 141 47 (-1)) Q))) ∧ (¬ ((ji h 141 2) = 143) → ((ji h 141 2) = 145 → ((ji h 141 2) = 143 → (Ly p (wi h 141 47 1) → WF d 144 155 [jP 141] [] (wi h 141 47 1) Q)) ∧ (¬ (ji h 141 2) = 143 → (Ly p (wi h 141 47 (-1)) → WF d 144 155 [jP 141] [] (wi h 141 47 (-1)) Q))) ∧ (¬ (ji h 141 2) = 145 → ((ji h 141 38) = (0 : Int) → Q (some (jI 2)) h) ∧ (¬ (ji h 141 38) = (0 : Int) → ∃ x5 h2, jE d 121 [jP 141, jI 41] h (some (jI x5)) h2 ∧ Ly p h2 ∧ (x5 = (0 : Int) → Q (some (jI 2)) h2) ∧ (¬ x5 = (0 : Int) → ∃ h6, jE d 145 [jP 141] h2 none h6 ∧ Ly p h6 ∧ WF d 144 189 [jP 141] [] h6 Q))))) : WF d 144 116 [jP 141] [] h Q := by
  refine b_144_116 ?_
  refine ⟨(Ly.t141 L), ?_⟩
  refine ⟨fun c13 => ?_, fun c13 => ?_⟩
  · have H := H.1 c13
    refine ⟨(Ly.t141 L), ?_⟩
    refine ⟨fun c1 => ?_, fun c1 => ?_⟩
    · have H := H.2 c1
      refine ⟨(Ly.t141 L), ?_⟩
      exact H (Ly.wi L (by decide))
    · have c1 := Decidable.not_not.mp c1
      have H := H.1 c1
      refine ⟨(Ly.t141 L), ?_⟩
      exact H (Ly.wi L (by decide))
  · have H := H.2 c13
    refine ⟨(Ly.t141 L), ?_⟩
    refine ⟨fun c12 => ?_, fun c12 => ?_⟩
    · have H := H.2 c12
      refine ⟨(Ly.t141 L), ?_⟩
      refine ⟨fun c10 => ?_, fun c10 => ?_⟩
      · have H := H.2 c10
        refine ⟨(Ly.t141 L), ?_⟩
        obtain ⟨x5, h2, e4, L3, H⟩ := H
        refine ⟨x5, h2, e4, ?_⟩
        refine ⟨fun c9 => ?_, fun c9 => ?_⟩
        · have H := H.2 c9
          refine ⟨(Ly.t141 L3), ?_⟩
          obtain ⟨h6, e8, L7, H⟩ := H
          refine ⟨h6, e8, ?_⟩
          exact H
        · have c9 := Decidable.not_not.mp c9
          have H := H.1 c9
          exact H
      · have c10 := Decidable.not_not.mp c10
        have H := H.1 c10
        exact H
    · have c12 := Decidable.not_not.mp c12
      have H := H.1 c12
      refine ⟨(Ly.t141 L), ?_⟩
      refine ⟨fun c11 => ?_, fun c11 => ?_⟩
      · have H := H.2 c11
        refine ⟨(Ly.t141 L), ?_⟩
        exact H (Ly.wi L (by decide))
      · have c11 := Decidable.not_not.mp c11
        have H := H.1 c11
        refine ⟨(Ly.t141 L), ?_⟩
        exact H (Ly.wi L (by decide))
set_option maxRecDepth 100000 in
theorem c_144_155 {p : Lpar} {d : Nat} {h : AH} {Q : Option AV → AH → Prop}  (hd : 9 ≤ d) (L : Ly p h) (H : ∃ h1, jE d 118 [jP 141] h none h1 ∧ Ly p h1 ∧ WF d 144 159 [jP 141] [] h1 Q) : WF d 144 155 [jP 141] [] h Q := by
  refine b_144_155 ?_
  refine ⟨(Ly.t141 L), ?_⟩
  obtain ⟨h1, e3, L2, H⟩ := H
  refine ⟨h1, e3, ?_⟩
  exact H
set_option maxRecDepth 100000 in
theorem c_144_159 {p : Lpar} {d : Nat} {h : AH} {Q : Option AV → AH → Prop}  (hd : 9 ≤ d) (L : Ly p h) (H : ∃ h1, jE d 138 [jP 141] h none h1 ∧ Ly p h1 ∧ WF d 144 163 [jP 141] [] h1 Q) : WF d 144 159 [jP 141] [] h Q := by
  refine b_144_159 ?_
  refine ⟨(Ly.t141 L), ?_⟩
  obtain ⟨h1, e3, L2, H⟩ := H
  refine ⟨h1, e3, ?_⟩
  exact H
set_option maxRecDepth 100000 in
theorem c_144_163 {p : Lpar} {d : Nat} {h : AH} {Q : Option AV → AH → Prop}  (hd : 9 ≤ d) (L : Ly p h) (H : Q (some (jI 0)) h) : WF d 144 163 [jP 141] [] h Q := by
  refine b_144_163 ?_
  exact H
set_option maxRecDepth 100000 in
theorem c_144_189 {p : Lpar} {d : Nat} {h : AH} {Q : Option AV → AH → Prop}  (hd : 9 ≤ d) (L : Ly p h) (H : Q (some (jI 1)) h) : WF d 144 189 [jP 141] [] h Q := by
  refine b_144_189 ?_
  exact H
set_option maxRecDepth 100000 in
theorem c_33_0 {p : Lpar} {d : Nat} {h : AH} {Q : Option AV → AH → Prop} {v1 : Int} {v2 : Int} {v3 : Int} (hd : 9 ≤ d) (L : Ly p h) (H : ∃ h1, jE d 74 [jP 37] h none h1 ∧ Ly p h1 ∧ ∃ x7 h4, jE d 70 [jP 37] h1 (some (jI x7)) h4 ∧ Ly p h4 ∧ (x7 = 3 → (v3 ≤ v2 → ∃ x16 h13, jE d 76 [jP 37] h4 (some (jI x16)) h13 ∧ Ly p h13 ∧ (x16 = 0 ∨ x16 = 1) ∧ Q (some (jI x16)) h13) ∧ (¬ (v3 ≤ v2) → ∃ x21 h18, jE d 73 [jP 37] h4 (some (jI x21)) h18 ∧ Ly p h18 ∧ ∃ x25 h22, jE d 25 [jP (pT p + 1), jI x21] h18 (some (jI x25)) h22 ∧ Ly p h22 ∧ (x25 = (-1) → ∃ x29 h26, jE d 73 [jP 37] h22 (some (jI x29)) h26 ∧ Ly p h26 ∧ ∃ h30, jE d 24 [jP (pT p + 1), jI x29, jI v1, jI v2] h26 none h30 ∧ Ly p h30 ∧ ∃ h33, jE d 74 [jP 37] h30 none h33 ∧ Ly p h33 ∧ Q (some (jI 1)) h33) ∧ (¬ (x25 = (-1)) → ∃ x39 h36, jE d 76 [jP 37] h22 (some (jI x39)) h36 ∧ Ly p h36 ∧ (x39 = 0 ∨ x39 = 1) ∧ Q (some (jI x39)) h36))) ∧ (¬ x7 = 3 → ∃ x11 h8, jE d 76 [jP 37] h4 (some (jI x11)) h8 ∧ Ly p h8 ∧ (x11 = 0 ∨ x11 = 1) ∧ Q (some (jI x11)) h8)) : WF d 33 0 [jP 93, jI v1, jI v2, jI v3] [] h Q := by
  refine b_33_0 ?_
  refine ⟨(Ly.t93 L), ?_⟩
  rw [show jr h 93 0 = 37 from Ly.r93_0 L]
  refine ⟨(Ly.t37 L), ?_⟩
  obtain ⟨h1, e3, L2, H⟩ := H
  refine ⟨h1, e3, ?_⟩
  refine ⟨(Ly.t93 L2), ?_⟩
  rw [show jr h1 93 0 = 37 from Ly.r93_0 L2]
  refine ⟨(Ly.t37 L2), ?_⟩
  obtain ⟨x7, h4, e6, L5, H⟩ := H
  refine ⟨x7, h4, e6, ?_⟩
  refine ⟨fun c43 => ?_, fun c43 => ?_⟩
  · have H := H.2 c43
    refine ⟨(Ly.t93 L5), ?_⟩
    rw [show jr h4 93 0 = 37 from Ly.r93_0 L5]
    refine ⟨(Ly.t37 L5), ?_⟩
    obtain ⟨x11, h8, e10, L9, H⟩ := H
    refine ⟨x11, h8, e10, ?_⟩
    obtain ⟨z12, H⟩ := H
    refine ⟨z12, ?_⟩
    exact H
  · have c43 := Decidable.not_not.mp c43
    have H := H.1 c43
    refine ⟨fun c42 => ?_, fun c42 => ?_⟩
    · have H := H.1 c42
      refine ⟨(Ly.t93 L5), ?_⟩
      rw [show jr h4 93 0 = 37 from Ly.r93_0 L5]
      refine ⟨(Ly.t37 L5), ?_⟩
      obtain ⟨x16, h13, e15, L14, H⟩ := H
      refine ⟨x16, h13, e15, ?_⟩
      obtain ⟨z17, H⟩ := H
      refine ⟨z17, ?_⟩
      exact H
    · have H := H.2 c42
      refine ⟨(Ly.t93 L5), ?_⟩
      rw [show jr h4 93 1 = pT p from Ly.r93_1 L5]
      refine ⟨(Ly.dt0 L5 (Ly.iT L5)), ?_⟩
      rw [show jr h4 (pT p) 0 = (pT p + 1) from Ly.dr0_0 L5 (Ly.iT L5)]
      refine ⟨(Ly.t93 L5), ?_⟩
      rw [show jr h4 93 0 = 37 from Ly.r93_0 L5]
      refine ⟨(Ly.t37 L5), ?_⟩
      obtain ⟨x21, h18, e20, L19, H⟩ := H
      refine ⟨x21, h18, e20, ?_⟩
      refine ⟨(Ly.dt1 L19 (Ly.iT L19)), ?_⟩
      obtain ⟨x25, h22, e24, L23, H⟩ := H
      refine ⟨x25, h22, e24, ?_⟩
      refine ⟨fun c41 => ?_, fun c41 => ?_⟩
      · have H := H.1 c41
        refine ⟨(Ly.t93 L23), ?_⟩
        rw [show jr h22 93 1 = pT p from Ly.r93_1 L23]
        refine ⟨(Ly.dt0 L23 (Ly.iT L23)), ?_⟩
        rw [show jr h22 (pT p) 0 = (pT p + 1) from Ly.dr0_0 L23 (Ly.iT L23)]
        refine ⟨(Ly.t93 L23), ?_⟩
        rw [show jr h22 93 0 = 37 from Ly.r93_0 L23]
        refine ⟨(Ly.t37 L23), ?_⟩
        obtain ⟨x29, h26, e28, L27, H⟩ := H
        refine ⟨x29, h26, e28, ?_⟩
        refine ⟨(Ly.dt1 L27 (Ly.iT L27)), ?_⟩
        obtain ⟨h30, e32, L31, H⟩ := H
        refine ⟨h30, e32, ?_⟩
        refine ⟨(Ly.t93 L31), ?_⟩
        rw [show jr h30 93 0 = 37 from Ly.r93_0 L31]
        refine ⟨(Ly.t37 L31), ?_⟩
        obtain ⟨h33, e35, L34, H⟩ := H
        refine ⟨h33, e35, ?_⟩
        refine ⟨Or.inr rfl, ?_⟩
        exact H
      · have H := H.2 c41
        refine ⟨(Ly.t93 L23), ?_⟩
        rw [show jr h22 93 0 = 37 from Ly.r93_0 L23]
        refine ⟨(Ly.t37 L23), ?_⟩
        obtain ⟨x39, h36, e38, L37, H⟩ := H
        refine ⟨x39, h36, e38, ?_⟩
        obtain ⟨z40, H⟩ := H
        refine ⟨z40, ?_⟩
        exact H
set_option maxRecDepth 100000 in
theorem c_46_0 {p : Lpar} {d : Nat} {h : AH} {Q : Option AV → AH → Prop} {v1 : Int} (hd : 9 ≤ d) (L : Ly p h) (H : (Ly p (nw h 6 4) → ∃ x4 h1, jE d 70 [jP 37] (nw h 6 4) (some (jI x4)) h1 ∧ Ly p h1 ∧ (x4 = 45 → ∃ h8, jE d 29 [jP (jx h), jI 1] h1 none h8 ∧ Ly p h8 ∧ WF d 46 25 [jP 93, jI v1, jP (jx h), jU, jU, jU, jU, jU] [] h8 Q) ∧ (¬ x4 = 45 → ∃ h5, jE d 29 [jP (jx h), jI 0] h1 none h5 ∧ Ly p h5 ∧ WF d 46 25 [jP 93, jI v1, jP (jx h), jU, jU, jU, jU, jU] [] h5 Q))) : WF d 46 0 [jP 93, jI v1, jU, jU, jU, jU, jU, jU] [] h Q := by
  refine b_46_0 ?_
  refine ⟨(Ly.t93 (Ly.nw L)), ?_⟩
  rw [show jr (nw h 6 4) 93 0 = 37 from Ly.r93_0 (Ly.nw L)]
  refine ⟨(Ly.t37 (Ly.nw L)), ?_⟩
  have H := H (Ly.nw L)
  obtain ⟨x4, h1, e3, L2, H⟩ := H
  refine ⟨x4, h1, e3, ?_⟩
  refine ⟨fun c11 => ?_, fun c11 => ?_⟩
  · have H := H.2 c11
    refine ⟨Nat.le_trans (by decide) (Ly.nx L), ?_⟩
    obtain ⟨h5, e7, L6, H⟩ := H
    refine ⟨h5, e7, ?_⟩
    exact H
  · have c11 := Decidable.not_not.mp c11
    have H := H.1 c11
    refine ⟨Nat.le_trans (by decide) (Ly.nx L), ?_⟩
    obtain ⟨h8, e10, L9, H⟩ := H
    refine ⟨h8, e10, ?_⟩
    exact H
set_option maxRecDepth 100000 in
theorem c_46_25 {p : Lpar} {d : Nat} {h : AH} {Q : Option AV → AH → Prop} {v1 : Int} {a2 : Nat} {z3 : AV} {z4 : AV} {z5 : AV} {z6 : AV} {z7 : AV} (hd : 9 ≤ d) (L : Ly p h) (H : jt h a2 = 6 ∧ ((ji h a2 0) = (0 : Int) → WF d 46 39 [jP 93, jI v1, jP a2, z3, z4, z5, z6, z7] [] h Q) ∧ (¬ ((ji h a2 0) = (0 : Int)) → ∃ h1, jE d 74 [jP 37] h none h1 ∧ Ly p h1 ∧ WF d 46 39 [jP 93, jI v1, jP a2, z3, z4, z5, z6, z7] [] h1 Q)) : WF d 46 25 [jP 93, jI v1, jP a2, z3, z4, z5, z6, z7] [] h Q := by
  refine b_46_25 ?_
  obtain ⟨z5, H⟩ := H
  refine ⟨z5, ?_⟩
  refine ⟨fun c4 => ?_, fun c4 => ?_⟩
  · have H := H.1 c4
    exact H
  · have H := H.2 c4
    refine ⟨(Ly.t93 L), ?_⟩
    rw [show jr h 93 0 = 37 from Ly.r93_0 L]
    refine ⟨(Ly.t37 L), ?_⟩
    obtain ⟨h1, e3, L2, H⟩ := H
    refine ⟨h1, e3, ?_⟩
    exact H
set_option maxRecDepth 100000 in
theorem c_46_39 {p : Lpar} {d : Nat} {h : AH} {Q : Option AV → AH → Prop} {v1 : Int} {a2 : Nat} {z3 : AV} {z4 : AV} {z5 : AV} {z6 : AV} {z7 : AV} (hd : 9 ≤ d) (L : Ly p h) (H : WF d 46 41 [jP 93, jI v1, jP a2, jP a2, z4, z5, z6, z7] [] h Q) : WF d 46 39 [jP 93, jI v1, jP a2, z3, z4, z5, z6, z7] [] h Q := by
  refine b_46_39 ?_
  exact H
set_option maxRecDepth 100000 in
theorem c_46_41 {p : Lpar} {d : Nat} {h : AH} {Q : Option AV → AH → Prop} {v1 : Int} {a2 : Nat} {a3 : Nat} {z4 : AV} {z5 : AV} {z6 : AV} {z7 : AV} (hd : 9 ≤ d) (L : Ly p h) (H : WF d 46 44 [jP 93, jI v1, jP a2, jP a3, jI 0, z5, z6, z7] [] h Q) : WF d 46 41 [jP 93, jI v1, jP a2, jP a3, z4, z5, z6, z7] [] h Q := by
  refine b_46_41 ?_
  exact H
set_option maxRecDepth 100000 in
theorem c_46_44 {p : Lpar} {d : Nat} {h : AH} {Q : Option AV → AH → Prop} {v1 : Int} {a2 : Nat} {a3 : Nat} {v4 : Int} {z5 : AV} {z6 : AV} {z7 : AV} (hd : 9 ≤ d) (L : Ly p h) (H : (400 ≤ v4 → ∃ x4 h1, jE d 76 [jP 37] h (some (jI x4)) h1 ∧ Ly p h1 ∧ WF d 46 195 [jP 93, jI v1, jP a2, jP a3, jI v4, z5, z6, z7] [] h1 Q) ∧ (¬ (400 ≤ v4) → ∃ x8 h5, jE d 71 [jP 37] h (some (jI x8)) h5 ∧ Ly p h5 ∧ WF d 46 61 [jP 93, jI v1, jP a2, jP a3, jI v4, jI x8, z6, z7] [] h5 Q)) : WF d 46 44 [jP 93, jI v1, jP a2, jP a3, jI v4, z5, z6, z7] [] h Q := by
  refine b_46_44 ?_
  refine ⟨fun c9 => ?_, fun c9 => ?_⟩
  · have H := H.1 c9
    refine ⟨(Ly.t93 L), ?_⟩
    rw [show jr h 93 0 = 37 from Ly.r93_0 L]
    refine ⟨(Ly.t37 L), ?_⟩
    obtain ⟨x4, h1, e3, L2, H⟩ := H
    refine ⟨x4, h1, e3, ?_⟩
    exact H
  · have H := H.2 c9
    refine ⟨(Ly.t93 L), ?_⟩
    rw [show jr h 93 0 = 37 from Ly.r93_0 L]
    refine ⟨(Ly.t37 L), ?_⟩
    obtain ⟨x8, h5, e7, L6, H⟩ := H
    refine ⟨x8, h5, e7, ?_⟩
    exact H
set_option maxRecDepth 100000 in
theorem c_46_61 {p : Lpar} {d : Nat} {h : AH} {Q : Option AV → AH → Prop} {v1 : Int} {a2 : Nat} {a3 : Nat} {v4 : Int} {v5 : Int} {z6 : AV} {z7 : AV} (hd : 9 ≤ d) (L : Ly p h) (H : ∃ p4 h1, jE d 47 [jP 93, jI v1] h (some (jP p4)) h1 ∧ Ly p h1 ∧ WF d 46 68 [jP 93, jI v1, jP a2, jP a3, jI v4, jI v5, jP p4, z7] [] h1 Q) : WF d 46 61 [jP 93, jI v1, jP a2, jP a3, jI v4, jI v5, z6, z7] [] h Q := by
  refine b_46_61 ?_
  refine ⟨(Ly.t93 L), ?_⟩
  obtain ⟨p4, h1, e3, L2, H⟩ := H
  refine ⟨p4, h1, e3, ?_⟩
  exact H
set_option maxRecDepth 100000 in
theorem c_46_68 {p : Lpar} {d : Nat} {h : AH} {Q : Option AV → AH → Prop} {v1 : Int} {a2 : Nat} {a3 : Nat} {v4 : Int} {v5 : Int} {a6 : Nat} {z7 : AV} (hd : 9 ≤ d) (L : Ly p h) (H : ¬ a6 = 1 ∧ (¬ a6 = 0 → jt h a6 = 3 ∧ ((ji h a6 5) = (0 : Int) → jt h a3 = 6 ∧ ∃ h1, jE d 30 [jP a3, jP a6] h none h1 ∧ Ly p h1 ∧ WF d 46 107 [jP 93, jI v1, jP a2, jP a3, jI v4, jI v5, jP a6, z7] [] h1 Q) ∧ (¬ ((ji h a6 5) = (0 : Int)) → jt h a3 = 6 ∧ ¬ (jr h a3 2) = 1 ∧ ((jr h a3 2) = 0 → jt h a3 = 6 ∧ ∃ h5, jE d 30 [jP a3, jP a6] h none h5 ∧ Ly p h5 ∧ WF d 46 107 [jP 93, jI v1, jP a2, jP a3, jI v4, jI v5, jP a6, z7] [] h5 Q) ∧ (¬ (jr h a3 2) = 0 → ∃ h9, jE d 77 [jP 37, jI v5] h none h9 ∧ Ly p h9 ∧ WF d 46 99 [jP 93, jI v1, jP a2, jP a3, jI v4, jI v5, jP a6, z7] [] h9 Q))) ∧ (a6 = 0 → Q (some (jP 0)) h)) : WF d 46 68 [jP 93, jI v1, jP a2, jP a3, jI v4, jI v5, jP a6, z7] [] h Q := by
  refine b_46_68 ?_
  obtain ⟨z17, H⟩ := H
  refine ⟨z17, fun c18 => ?_, fun c18 => ?_⟩
  · have H := H.1 c18
    obtain ⟨z16, H⟩ := H
    refine ⟨z16, ?_⟩
    refine ⟨fun c15 => ?_, fun c15 => ?_⟩
    · have H := H.1 c15
      obtain ⟨z4, H⟩ := H
      refine ⟨z4, ?_⟩
      obtain ⟨h1, e3, L2, H⟩ := H
      refine ⟨h1, e3, ?_⟩
      exact H
    · have H := H.2 c15
      obtain ⟨z14, H⟩ := H
      refine ⟨z14, ?_⟩
      obtain ⟨z12, H⟩ := H
      refine ⟨z12, fun c13 => ?_, fun c13 => ?_⟩
      · have H := H.1 c13
        obtain ⟨z8, H⟩ := H
        refine ⟨z8, ?_⟩
        obtain ⟨h5, e7, L6, H⟩ := H
        refine ⟨h5, e7, ?_⟩
        exact H
      · have H := H.2 c13
        refine ⟨(Ly.t93 L), ?_⟩
        rw [show jr h 93 0 = 37 from Ly.r93_0 L]
        refine ⟨(Ly.t37 L), ?_⟩
        obtain ⟨h9, e11, L10, H⟩ := H
        refine ⟨h9, e11, ?_⟩
        exact H
  · have H := H.2 c18
    exact H
set_option maxRecDepth 100000 in
theorem c_46_99 {p : Lpar} {d : Nat} {h : AH} {Q : Option AV → AH → Prop} {v1 : Int} {a2 : Nat} {a3 : Nat} {v4 : Int} {v5 : Int} {a6 : Nat} {z7 : AV} (hd : 9 ≤ d) (L : Ly p h) (H : Q (some (jP 0)) h) : WF d 46 99 [jP 93, jI v1, jP a2, jP a3, jI v4, jI v5, jP a6, z7] [] h Q := by
  refine b_46_99 ?_
  exact H
set_option maxRecDepth 100000 in
theorem c_46_107 {p : Lpar} {d : Nat} {h : AH} {Q : Option AV → AH → Prop} {v1 : Int} {a2 : Nat} {a3 : Nat} {v4 : Int} {v5 : Int} {a6 : Nat} {z7 : AV} (hd : 9 ≤ d) (L : Ly p h) (H : ∃ x4 h1, jE d 70 [jP 37] h (some (jI x4)) h1 ∧ Ly p h1 ∧ WF d 46 116 [jP 93, jI v1, jP a2, jP a3, jI v4, jI v5, jP a6, jI x4] [] h1 Q) : WF d 46 107 [jP 93, jI v1, jP a2, jP a3, jI v4, jI v5, jP a6, z7] [] h Q := by
  refine b_46_107 ?_
  refine ⟨(Ly.t93 L), ?_⟩
  rw [show jr h 93 0 = 37 from Ly.r93_0 L]
  refine ⟨(Ly.t37 L), ?_⟩
  obtain ⟨x4, h1, e3, L2, H⟩ := H
  refine ⟨x4, h1, e3, ?_⟩
  exact H
set_option maxRecDepth 100000 in
theorem c_46_116 {p : Lpar} {d : Nat} {h : AH} {Q : Option AV → AH → Prop} {v1 : Int} {a2 : Nat} {a3 : Nat} {v4 : Int} {v5 : Int} {a6 : Nat} {v7 : Int} (hd : 9 ≤ d) (L : Ly p h) (H : (v7 = 42 → ∃ h1, jE d 74 [jP 37] h none h1 ∧ Ly p h1 ∧ WF d 46 146 [jP 93, jI v1, jP a2, jP a3, jI v4, jI v5, jP a6, jI v7] [] h1 Q) ∧ (¬ (v7 = 42) → (v7 = 43 → ∃ h4, jE d 74 [jP 37] h none h4 ∧ Ly p h4 ∧ WF d 46 146 [jP 93, jI v1, jP a2, jP a3, jI v4, jI v5, jP a6, jI v7] [] h4 Q) ∧ (¬ (v7 = 43) → (v7 = 45 → ∃ h7, jE d 74 [jP 37] h none h7 ∧ Ly p h7 ∧ WF d 46 146 [jP 93, jI v1, jP a2, jP a3, jI v4, jI v5, jP a6, jI v7] [] h7 Q) ∧ (¬ (v7 = 45) → Q (some (jP a2)) h)))) : WF d 46 116 [jP 93, jI v1, jP a2, jP a3, jI v4, jI v5, jP a6, jI v7] [] h Q := by
  refine b_46_116 ?_
  refine ⟨fun c12 => ?_, fun c12 => ?_⟩
  · have H := H.1 c12
    refine ⟨(Ly.t93 L), ?_⟩
    rw [show jr h 93 0 = 37 from Ly.r93_0 L]
    refine ⟨(Ly.t37 L), ?_⟩
    obtain ⟨h1, e3, L2, H⟩ := H
    refine ⟨h1, e3, ?_⟩
    exact H
  · have H := H.2 c12
    refine ⟨fun c11 => ?_, fun c11 => ?_⟩
    · have H := H.1 c11
      refine ⟨(Ly.t93 L), ?_⟩
      rw [show jr h 93 0 = 37 from Ly.r93_0 L]
      refine ⟨(Ly.t37 L), ?_⟩
      obtain ⟨h4, e6, L5, H⟩ := H
      refine ⟨h4, e6, ?_⟩
      exact H
    · have H := H.2 c11
      refine ⟨fun c10 => ?_, fun c10 => ?_⟩
      · have H := H.1 c10
        refine ⟨(Ly.t93 L), ?_⟩
        rw [show jr h 93 0 = 37 from Ly.r93_0 L]
        refine ⟨(Ly.t37 L), ?_⟩
        obtain ⟨h7, e9, L8, H⟩ := H
        refine ⟨h7, e9, ?_⟩
        exact H
      · have H := H.2 c10
        exact H
set_option maxRecDepth 100000 in
theorem c_46_146 {p : Lpar} {d : Nat} {h : AH} {Q : Option AV → AH → Prop} {v1 : Int} {a2 : Nat} {a3 : Nat} {v4 : Int} {v5 : Int} {a6 : Nat} {v7 : Int} (hd : 9 ≤ d) (L : Ly p h) (H : (v7 = 42 → WF d 46 181 [jP 93, jI v1, jP a2, jP a3, jI v4, jI v5, jP a6, jI v7] [] h Q) ∧ (¬ (v7 = 42) → (v7 = 45 → (Ly p (nw h 6 4) → ∃ h6, jE d 29 [jP (jx h), jI 1] (nw h 6 4) none h6 ∧ Ly p h6 ∧ jt h6 a3 = 6 ∧ NF ≤ a3 ∧ (Ly p (wr h6 a3 3 (jx h)) → WF d 46 176 [jP 93, jI v1, jP a2, jP a3, jI v4, jI v5, jP a6, jI v7] [] (wr h6 a3 3 (jx h)) Q))) ∧ (¬ v7 = 45 → (Ly p (nw h 6 4) → ∃ h1, jE d 29 [jP (jx h), jI 0] (nw h 6 4) none h1 ∧ Ly p h1 ∧ jt h1 a3 = 6 ∧ NF ≤ a3 ∧ (Ly p (wr h1 a3 3 (jx h)) → WF d 46 176 [jP 93, jI v1, jP a2, jP a3, jI v4, jI v5, jP a6, jI v7] [] (wr h1 a3 3 (jx h)) Q))))) : WF d 46 146 [jP 93, jI v1, jP a2, jP a3, jI v4, jI v5, jP a6, jI v7] [] h Q := by
  refine b_46_146 ?_
  refine ⟨fun c12 => ?_, fun c12 => ?_⟩
  · have H := H.1 c12
    exact H
  · have H := H.2 c12
    refine ⟨fun c11 => ?_, fun c11 => ?_⟩
    · have H := H.2 c11
      refine ⟨Nat.le_trans (by decide) (Ly.nx L), ?_⟩
      have H := H (Ly.nw L)
      obtain ⟨h1, e3, L2, H⟩ := H
      refine ⟨h1, e3, ?_⟩
      obtain ⟨z5, H⟩ := H
      refine ⟨z5, ?_⟩
      obtain ⟨z4, H⟩ := H
      exact H (Ly.wr L2 (Or.inl z4))
    · have c11 := Decidable.not_not.mp c11
      have H := H.1 c11
      refine ⟨Nat.le_trans (by decide) (Ly.nx L), ?_⟩
      have H := H (Ly.nw L)
      obtain ⟨h6, e8, L7, H⟩ := H
      refine ⟨h6, e8, ?_⟩
      obtain ⟨z10, H⟩ := H
      refine ⟨z10, ?_⟩
      obtain ⟨z9, H⟩ := H
      exact H (Ly.wr L7 (Or.inl z9))
set_option maxRecDepth 100000 in
theorem c_46_176 {p : Lpar} {d : Nat} {h : AH} {Q : Option AV → AH → Prop} {v1 : Int} {a2 : Nat} {a3 : Nat} {v4 : Int} {v5 : Int} {a6 : Nat} {v7 : Int} (hd : 9 ≤ d) (L : Ly p h) (H : jt h a3 = 6 ∧ WF d 46 181 [jP 93, jI v1, jP a2, jP (jr h a3 3), jI v4, jI v5, jP a6, jI v7] [] h Q) : WF d 46 176 [jP 93, jI v1, jP a2, jP a3, jI v4, jI v5, jP a6, jI v7] [] h Q := by
  refine b_46_176 ?_
  obtain ⟨z1, H⟩ := H
  refine ⟨z1, ?_⟩
  exact H
set_option maxRecDepth 100000 in
theorem c_46_181 {p : Lpar} {d : Nat} {h : AH} {Q : Option AV → AH → Prop} {v1 : Int} {a2 : Nat} {a3 : Nat} {v4 : Int} {v5 : Int} {a6 : Nat} {v7 : Int} (hd : 9 ≤ d) (L : Ly p h) (H : WF d 46 44 [jP 93, jI v1, jP a2, jP a3, jI (w32 (v4 + 1)), jI v5, jP a6, jI v7] [] h Q) : WF d 46 181 [jP 93, jI v1, jP a2, jP a3, jI v4, jI v5, jP a6, jI v7] [] h Q := by
  refine b_46_181 ?_
  exact H
set_option maxRecDepth 100000 in
theorem c_46_195 {p : Lpar} {d : Nat} {h : AH} {Q : Option AV → AH → Prop} {v1 : Int} {a2 : Nat} {a3 : Nat} {v4 : Int} {z5 : AV} {z6 : AV} {z7 : AV} (hd : 9 ≤ d) (L : Ly p h) (H : Q (some (jP 0)) h) : WF d 46 195 [jP 93, jI v1, jP a2, jP a3, jI v4, z5, z6, z7] [] h Q := by
  refine b_46_195 ?_
  exact H
set_option maxRecDepth 100000 in
theorem c_136_0 {p : Lpar} {d : Nat} {h : AH} {Q : Option AV → AH → Prop} {v1 : Int} {v2 : Int} {v3 : Int} {v4 : Int} (hd : 9 ≤ d) (L : Ly p h) (H : 0 ≤ (ji h 141 33) ∧ (ji h 141 33) < 2000 ∧ (Ly p (wi h 160 (Int.toNat (ji h 141 33)) v1) → WF d 136 10 [jP 141, jI v1, jI v2, jI v3, jI v4] [] (wi h 160 (Int.toNat (ji h 141 33)) v1) Q)) : WF d 136 0 [jP 141, jI v1, jI v2, jI v3, jI v4] [] h Q := by
  refine b_136_0 ?_
  refine ⟨(Ly.t141 L), ?_⟩
  rw [show jr h 141 34 = 160 from Ly.r141_34 L]
  refine ⟨(Ly.t141 L), ?_⟩
  obtain ⟨z1, z2, H⟩ := H
  refine ⟨inW_mk (N := 2000) (Ly.t160 L) (Ly.n160 L) z1 z2, ?_⟩
  exact H (Ly.wi L (by decide))
set_option maxRecDepth 100000 in
theorem c_136_10 {p : Lpar} {d : Nat} {h : AH} {Q : Option AV → AH → Prop} {v1 : Int} {v2 : Int} {v3 : Int} {v4 : Int} (hd : 9 ≤ d) (L : Ly p h) (H : 0 ≤ (ji h 141 33) ∧ (ji h 141 33) < 2000 ∧ (Ly p (wi h 161 (Int.toNat (ji h 141 33)) v2) → WF d 136 20 [jP 141, jI v1, jI v2, jI v3, jI v4] [] (wi h 161 (Int.toNat (ji h 141 33)) v2) Q)) : WF d 136 10 [jP 141, jI v1, jI v2, jI v3, jI v4] [] h Q := by
  refine b_136_10 ?_
  refine ⟨(Ly.t141 L), ?_⟩
  rw [show jr h 141 35 = 161 from Ly.r141_35 L]
  refine ⟨(Ly.t141 L), ?_⟩
  obtain ⟨z1, z2, H⟩ := H
  refine ⟨inW_mk (N := 2000) (Ly.t161 L) (Ly.n161 L) z1 z2, ?_⟩
  exact H (Ly.wi L (by decide))
set_option maxRecDepth 100000 in
theorem c_136_20 {p : Lpar} {d : Nat} {h : AH} {Q : Option AV → AH → Prop} {v1 : Int} {v2 : Int} {v3 : Int} {v4 : Int} (hd : 9 ≤ d) (L : Ly p h) (H : 0 ≤ (ji h 141 33) ∧ (ji h 141 33) < 2000 ∧ (Ly p (wi h 162 (Int.toNat (ji h 141 33)) v3) → WF d 136 30 [jP 141, jI v1, jI v2, jI v3, jI v4] [] (wi h 162 (Int.toNat (ji h 141 33)) v3) Q)) : WF d 136 20 [jP 141, jI v1, jI v2, jI v3, jI v4] [] h Q := by
  refine b_136_20 ?_
  refine ⟨(Ly.t141 L), ?_⟩
  rw [show jr h 141 36 = 162 from Ly.r141_36 L]
  refine ⟨(Ly.t141 L), ?_⟩
  obtain ⟨z1, z2, H⟩ := H
  refine ⟨inW_mk (N := 2000) (Ly.t162 L) (Ly.n162 L) z1 z2, ?_⟩
  exact H (Ly.wi L (by decide))
set_option maxRecDepth 100000 in
theorem c_136_30 {p : Lpar} {d : Nat} {h : AH} {Q : Option AV → AH → Prop} {v1 : Int} {v2 : Int} {v3 : Int} {v4 : Int} (hd : 9 ≤ d) (L : Ly p h) (H : 0 ≤ (ji h 141 33) ∧ (ji h 141 33) < 2000 ∧ (Ly p (wi h 163 (Int.toNat (ji h 141 33)) v4) → WF d 136 41 [jP 141, jI v1, jI v2, jI v3, jI v4] [] (wi h 163 (Int.toNat (ji h 141 33)) v4) Q)) : WF d 136 30 [jP 141, jI v1, jI v2, jI v3, jI v4] [] h Q := by
  refine b_136_30 ?_
  refine ⟨(Ly.t141 L), ?_⟩
  rw [show jr h 141 37 = 163 from Ly.r141_37 L]
  refine ⟨(Ly.t141 L), ?_⟩
  obtain ⟨z1, z2, H⟩ := H
  refine ⟨inW_mk (N := 2000) (Ly.t163 L) (Ly.n163 L) z1 z2, ?_⟩
  exact H (Ly.wi L (by decide))
set_option maxRecDepth 100000 in
theorem c_136_41 {p : Lpar} {d : Nat} {h : AH} {Q : Option AV → AH → Prop} {v1 : Int} {v2 : Int} {v3 : Int} {v4 : Int} (hd : 9 ≤ d) (L : Ly p h) (H : (Ly p (wi h 141 33 (w32 ((ji h 141 33) + 1))) → WF d 136 51 [jP 141, jI v1, jI v2, jI v3, jI v4] [] (wi h 141 33 (w32 ((ji h 141 33) + 1))) Q)) : WF d 136 41 [jP 141, jI v1, jI v2, jI v3, jI v4] [] h Q := by
  refine b_136_41 ?_
  refine ⟨(Ly.t141 L), ?_⟩
  refine ⟨(Ly.t141 L), ?_⟩
  exact H (Ly.wi L (by decide))
set_option maxRecDepth 100000 in
theorem c_136_51 {p : Lpar} {d : Nat} {h : AH} {Q : Option AV → AH → Prop} {v1 : Int} {v2 : Int} {v3 : Int} {v4 : Int} (hd : 9 ≤ d) (L : Ly p h) (H : Q none h) : WF d 136 51 [jP 141, jI v1, jI v2, jI v3, jI v4] [] h Q := by
  refine b_136_51 ?_
  exact H
set_option maxRecDepth 100000 in
theorem c_90_0 {p : Lpar} {d : Nat} {h : AH} {Q : Option AV → AH → Prop} {v1 : Int} {v2 : Int} (hd : 9 ≤ d) (L : Ly p h) (H : ∃ x4 h1, jE d 102 [jP 32, jI v1] h (some (jI x4)) h1 ∧ Ly p h1 ∧ (x4 = (0 : Int) → Q (some (jL (-100001))) h1) ∧ (¬ (x4 = (0 : Int)) → ∃ x8 h5, jE d 101 [jP 32, jI v2] h1 (some (jI x8)) h5 ∧ Ly p h5 ∧ (x8 = (0 : Int) → Q (some (jL (-100001))) h5) ∧ (¬ (x8 = (0 : Int)) → 0 ≤ v1 ∧ v1 < 40 ∧ 0 ≤ v2 ∧ v2 < 40 ∧ Q (some (jL (jl h5 (97 + Int.toNat v1) (Int.toNat v2)))) h5))) : WF d 90 0 [jP 32, jI v1, jI v2] [] h Q := by
  refine b_90_0 ?_
  refine ⟨(Ly.t32 L), ?_⟩
  obtain ⟨x4, h1, e3, L2, H⟩ := H
  refine ⟨x4, h1, e3, ?_⟩
  refine ⟨fun c14 => ?_, fun c14 => ?_⟩
  · have H := H.1 c14
    exact H
  · have H := H.2 c14
    refine ⟨(Ly.t32 L2), ?_⟩
    obtain ⟨x8, h5, e7, L6, H⟩ := H
    refine ⟨x8, h5, e7, ?_⟩
    refine ⟨fun c13 => ?_, fun c13 => ?_⟩
    · have H := H.1 c13
      exact H
    · have H := H.2 c13
      refine ⟨(Ly.t32 L6), ?_⟩
      rw [show jr h5 32 4 = 95 from Ly.r32_4 L6]
      refine ⟨(Ly.t95 L6), ?_⟩
      rw [show jr h5 95 1 = 96 from Ly.r95_1 L6]
      obtain ⟨z9, z10, H⟩ := H
      refine ⟨Or.inr (inA_mk (N := 40) (Ly.t96 L6) (Ly.n96 L6) z9 z10), ?_⟩
      rw [show jr h5 96 (Int.toNat v1) = (97 + Int.toNat v1) from Ly.row L6 (by omega)]
      obtain ⟨z11, z12, H⟩ := H
      refine ⟨inA_mk (N := 40) (Ly.trow L6 (by omega)) (Ly.nrow L6 (by omega)) z11 z12, ?_⟩
      exact H
set_option maxRecDepth 100000 in
theorem c_22_0 {p : Lpar} {d : Nat} {h : AH} {Q : Option AV → AH → Prop} {a1 : Nat} (hd : 9 ≤ d) (L : Ly p h) (H : WF d 22 5 [jP 95, jP a1, jL 0, jU, jI 0] [] h Q) : WF d 22 0 [jP 95, jP a1, jU, jU, jU] [] h Q := by
  refine b_22_0 ?_
  exact H
set_option maxRecDepth 100000 in
theorem c_22_5 {p : Lpar} {d : Nat} {h : AH} {Q : Option AV → AH → Prop} {a1 : Nat} {v2 : Int} {v4 : Int} (hd : 9 ≤ d) (L : Ly p h) (H : ((ji h (pM p + 18) 5) ≤ v4 → Q (some (jL v2)) h) ∧ (¬ ((ji h (pM p + 18) 5) ≤ v4) → 20 ≤ jt h a1 ∧ jt h a1 < 60 ∧ ((jn h a1 : Int) ≤ v4 → Q (some (jL v2)) h) ∧ (¬ ((jn h a1 : Int) ≤ v4) → inA h a1 1 v4 ∧ 0 ≤ v4 ∧ v4 < 40 ∧ WF d 22 5 [jP 95, jP a1, jL (w64 (v2 + (w64 ((jl h a1 (Int.toNat v4)) * (ji h 139 (Int.toNat v4)))))), jU, jI (w32 (v4 + 1))] [] h Q))) : WF d 22 5 [jP 95, jP a1, jL v2, jU, jI v4] [] h Q := by
  refine b_22_5 ?_
  refine ⟨(Ly.t95 L), ?_⟩
  rw [show jr h 95 0 = pM p from Ly.r95_0 L]
  refine ⟨(Ly.dt0 L (Ly.iM L)), ?_⟩
  rw [show jr h (pM p) 3 = (pM p + 18) from Ly.dr0_3 L (Ly.iM L)]
  refine ⟨(Ly.dt18 L (Ly.iM L)), ?_⟩
  refine ⟨fun c7 => ?_, fun c7 => ?_⟩
  · have H := H.1 c7
    exact H
  · have H := H.2 c7
    obtain ⟨z5, z6, H⟩ := H
    refine ⟨z5, z6, ?_⟩
    refine ⟨fun c4 => ?_, fun c4 => ?_⟩
    · have H := H.1 c4
      exact H
    · have H := H.2 c4
      obtain ⟨z3, H⟩ := H
      refine ⟨z3, ?_⟩
      refine ⟨(Ly.t95 L), ?_⟩
      rw [show jr h 95 5 = 139 from Ly.r95_5 L]
      obtain ⟨z1, z2, H⟩ := H
      refine ⟨inA_mk (N := 40) (Ly.t139 L) (Ly.n139 L) z1 z2, ?_⟩
      exact H
set_option maxRecDepth 100000 in
theorem c_151_0 {p : Lpar} {d : Nat} {h : AH} {Q : Option AV → AH → Prop} {v1 : Int} {v2 : Int} (hd : 9 ≤ d) (L : Ly p h) (H : WF d 151 2 [jP 141, jI v1, jI v2, jI v1, jU] [] h Q) : WF d 151 0 [jP 141, jI v1, jI v2, jU, jU] [] h Q := by
  refine b_151_0 ?_
  exact H
set_option maxRecDepth 100000 in
theorem c_151_2 {p : Lpar} {d : Nat} {h : AH} {Q : Option AV → AH → Prop} {v1 : Int} {v2 : Int} {v3 : Int} {z4 : AV} (hd : 9 ≤ d) (L : Ly p h) (H : (v2 ≤ v3 → Q none h) ∧ (¬ (v2 ≤ v3) → WF d 151 12 [jP 141, jI v1, jI v2, jI v3, jI (w32 (v3 + 1))] [] h Q)) : WF d 151 2 [jP 141, jI v1, jI v2, jI v3, z4] [] h Q := by
  refine b_151_2 ?_
  refine ⟨fun c1 => ?_, fun c1 => ?_⟩
  · have H := H.1 c1
    exact H
  · have H := H.2 c1
    exact H
set_option maxRecDepth 100000 in
theorem c_151_12 {p : Lpar} {d : Nat} {h : AH} {Q : Option AV → AH → Prop} {v1 : Int} {v2 : Int} {v3 : Int} {v4 : Int} (hd : 9 ≤ d) (L : Ly p h) (H : 0 ≤ v3 ∧ v3 < 2000 ∧ (((ji h 160 (Int.toNat v3)) < 0 ∨ 9 < (ji h 160 (Int.toNat v3))) → WF d 151 303 [jP 141, jI v1, jI v2, jI v3, jI v4] [] h Q) ∧ ((ji h 160 (Int.toNat v3)) = 0 → WF d 151 72 [jP 141, jI v1, jI v2, jI v3, jI v4] [] h Q) ∧ ((ji h 160 (Int.toNat v3)) = 1 → WF d 151 80 [jP 141, jI v1, jI v2, jI v3, jI v4] [] h Q) ∧ ((ji h 160 (Int.toNat v3)) = 2 → WF d 151 88 [jP 141, jI v1, jI v2, jI v3, jI v4] [] h Q) ∧ ((ji h 160 (Int.toNat v3)) = 3 → WF d 151 102 [jP 141, jI v1, jI v2, jI v3, jI v4] [] h Q) ∧ ((ji h 160 (Int.toNat v3)) = 4 → WF d 151 121 [jP 141, jI v1, jI v2, jI v3, jI v4] [] h Q) ∧ ((ji h 160 (Int.toNat v3)) = 5 → WF d 151 188 [jP 141, jI v1, jI v2, jI v3, jI v4] [] h Q) ∧ ((ji h 160 (Int.toNat v3)) = 6 → WF d 151 268 [jP 141, jI v1, jI v2, jI v3, jI v4] [] h Q) ∧ ((ji h 160 (Int.toNat v3)) = 7 → WF d 151 275 [jP 141, jI v1, jI v2, jI v3, jI v4] [] h Q) ∧ ((ji h 160 (Int.toNat v3)) = 8 → WF d 151 283 [jP 141, jI v1, jI v2, jI v3, jI v4] [] h Q) ∧ ((ji h 160 (Int.toNat v3)) = 9 → WF d 151 293 [jP 141, jI v1, jI v2, jI v3, jI v4] [] h Q)) : WF d 151 12 [jP 141, jI v1, jI v2, jI v3, jI v4] [] h Q := by
  refine b_151_12 ?_
  refine ⟨(Ly.t141 L), ?_⟩
  rw [show jr h 141 34 = 160 from Ly.r141_34 L]
  obtain ⟨z1, z2, H⟩ := H
  refine ⟨inA_mk (N := 2000) (Ly.t160 L) (Ly.n160 L) z1 z2, ?_⟩
  obtain ⟨H0, H1, H2, H3, H4, H5, H6, H7, H8, H9, H10⟩ := H
  refine ⟨fun c3 => ?_, fun c3 => ?_, fun c3 => ?_, fun c3 => ?_, fun c3 => ?_, fun c3 => ?_, fun c3 => ?_, fun c3 => ?_, fun c3 => ?_, fun c3 => ?_, fun c3 => ?_, trivial⟩
  · have H := H0 c3
    exact H
  · have H := H1 c3
    exact H
  · have H := H2 c3
    exact H
  · have H := H3 c3
    exact H
  · have H := H4 c3
    exact H
  · have H := H5 c3
    exact H
  · have H := H6 c3
    exact H
  · have H := H7 c3
    exact H
  · have H := H8 c3
    exact H
  · have H := H9 c3
    exact H
  · have H := H10 c3
    exact H
set_option maxRecDepth 100000 in
theorem c_151_72 {p : Lpar} {d : Nat} {h : AH} {Q : Option AV → AH → Prop} {v1 : Int} {v2 : Int} {v3 : Int} {v4 : Int} (hd : 9 ≤ d) (L : Ly p h) (H : ∃ h1, jE d 146 [jP 141, jL 0] h none h1 ∧ Ly p h1 ∧ WF d 151 77 [jP 141, jI v1, jI v2, jI v3, jI v4] [] h1 Q) : WF d 151 72 [jP 141, jI v1, jI v2, jI v3, jI v4] [] h Q := by
  refine b_151_72 ?_
  refine ⟨(Ly.t141 L), ?_⟩
  obtain ⟨h1, e3, L2, H⟩ := H
  refine ⟨h1, e3, ?_⟩
  exact H
set_option maxRecDepth 100000 in
theorem c_151_77 {p : Lpar} {d : Nat} {h : AH} {Q : Option AV → AH → Prop} {v1 : Int} {v2 : Int} {v3 : Int} {v4 : Int} (hd : 9 ≤ d) (L : Ly p h) (H : WF d 151 310 [jP 141, jI v1, jI v2, jI v3, jI v4] [] h Q) : WF d 151 77 [jP 141, jI v1, jI v2, jI v3, jI v4] [] h Q := by
  refine b_151_77 ?_
  exact H
set_option maxRecDepth 100000 in
theorem c_151_80 {p : Lpar} {d : Nat} {h : AH} {Q : Option AV → AH → Prop} {v1 : Int} {v2 : Int} {v3 : Int} {v4 : Int} (hd : 9 ≤ d) (L : Ly p h) (H : ∃ h1, jE d 146 [jP 141, jL 1] h none h1 ∧ Ly p h1 ∧ WF d 151 85 [jP 141, jI v1, jI v2, jI v3, jI v4] [] h1 Q) : WF d 151 80 [jP 141, jI v1, jI v2, jI v3, jI v4] [] h Q := by
  refine b_151_80 ?_
  refine ⟨(Ly.t141 L), ?_⟩
  obtain ⟨h1, e3, L2, H⟩ := H
  refine ⟨h1, e3, ?_⟩
  exact H
set_option maxRecDepth 100000 in
theorem c_151_85 {p : Lpar} {d : Nat} {h : AH} {Q : Option AV → AH → Prop} {v1 : Int} {v2 : Int} {v3 : Int} {v4 : Int} (hd : 9 ≤ d) (L : Ly p h) (H : WF d 151 310 [jP 141, jI v1, jI v2, jI v3, jI v4] [] h Q) : WF d 151 85 [jP 141, jI v1, jI v2, jI v3, jI v4] [] h Q := by
  refine b_151_85 ?_
  exact H
set_option maxRecDepth 100000 in
theorem c_151_88 {p : Lpar} {d : Nat} {h : AH} {Q : Option AV → AH → Prop} {v1 : Int} {v2 : Int} {v3 : Int} {v4 : Int} (hd : 9 ≤ d) (L : Ly p h) (H : 0 ≤ v3 ∧ v3 < 2000 ∧ ∃ h3, jE d 146 [jP 141, jL (ji h 161 (Int.toNat v3))] h none h3 ∧ Ly p h3 ∧ WF d 151 99 [jP 141, jI v1, jI v2, jI v3, jI v4] [] h3 Q) : WF d 151 88 [jP 141, jI v1, jI v2, jI v3, jI v4] [] h Q := by
  refine b_151_88 ?_
  refine ⟨(Ly.t141 L), ?_⟩
  rw [show jr h 141 35 = 161 from Ly.r141_35 L]
  obtain ⟨z1, z2, H⟩ := H
  refine ⟨inA_mk (N := 2000) (Ly.t161 L) (Ly.n161 L) z1 z2, ?_⟩
  refine ⟨(Ly.t141 L), ?_⟩
  obtain ⟨h3, e5, L4, H⟩ := H
  refine ⟨h3, e5, ?_⟩
  exact H
set_option maxRecDepth 100000 in
theorem c_151_99 {p : Lpar} {d : Nat} {h : AH} {Q : Option AV → AH → Prop} {v1 : Int} {v2 : Int} {v3 : Int} {v4 : Int} (hd : 9 ≤ d) (L : Ly p h) (H : WF d 151 310 [jP 141, jI v1, jI v2, jI v3, jI v4] [] h Q) : WF d 151 99 [jP 141, jI v1, jI v2, jI v3, jI v4] [] h Q := by
  refine b_151_99 ?_
  exact H
set_option maxRecDepth 100000 in
theorem c_151_102 {p : Lpar} {d : Nat} {h : AH} {Q : Option AV → AH → Prop} {v1 : Int} {v2 : Int} {v3 : Int} {v4 : Int} (hd : 9 ≤ d) (L : Ly p h) (H : 0 ≤ v3 ∧ v3 < 2000 ∧ 0 ≤ (ji h 161 (Int.toNat v3)) ∧ (ji h 161 (Int.toNat v3)) < 20 ∧ ∃ h5, jE d 146 [jP 141, jL (ji h 173 (Int.toNat (ji h 161 (Int.toNat v3))))] h none h5 ∧ Ly p h5 ∧ WF d 151 118 [jP 141, jI v1, jI v2, jI v3, jI v4] [] h5 Q) : WF d 151 102 [jP 141, jI v1, jI v2, jI v3, jI v4] [] h Q := by
  refine b_151_102 ?_
  refine ⟨(Ly.t141 L), ?_⟩
  rw [show jr h 141 55 = 173 from Ly.r141_55 L]
  refine ⟨(Ly.t141 L), ?_⟩
  rw [show jr h 141 35 = 161 from Ly.r141_35 L]
  obtain ⟨z1, z2, H⟩ := H
  refine ⟨inA_mk (N := 2000) (Ly.t161 L) (Ly.n161 L) z1 z2, ?_⟩
  obtain ⟨z3, z4, H⟩ := H
  refine ⟨inA_mk (N := 20) (Ly.t173 L) (Ly.n173 L) z3 z4, ?_⟩
  refine ⟨(Ly.t141 L), ?_⟩
  obtain ⟨h5, e7, L6, H⟩ := H
  refine ⟨h5, e7, ?_⟩
  exact H
set_option maxRecDepth 100000 in
theorem c_151_118 {p : Lpar} {d : Nat} {h : AH} {Q : Option AV → AH → Prop} {v1 : Int} {v2 : Int} {v3 : Int} {v4 : Int} (hd : 9 ≤ d) (L : Ly p h) (H : WF d 151 310 [jP 141, jI v1, jI v2, jI v3, jI v4] [] h Q) : WF d 151 118 [jP 141, jI v1, jI v2, jI v3, jI v4] [] h Q := by
  refine b_151_118 ?_
  exact H
set_option maxRecDepth 100000 in
theorem c_151_121 {p : Lpar} {d : Nat} {h : AH} {Q : Option AV → AH → Prop} {v1 : Int} {v2 : Int} {v3 : Int} {v4 : Int} (hd : 9 ≤ d) (L : Ly p h) (H : 0 ≤ v3 ∧ v3 < 2000 ∧ 0 ≤ v3 ∧ v3 < 2000 ∧ 0 ≤ (w32 (2 * (ji h 161 (Int.toNat v3)))) ∧ (w32 (2 * (ji h 161 (Int.toNat v3)))) < 12 ∧ 0 ≤ v3 ∧ v3 < 2000 ∧ 0 ≤ (w32 ((w32 (2 * (ji h 161 (Int.toNat v3)))) + 1)) ∧ (w32 ((w32 (2 * (ji h 161 (Int.toNat v3)))) + 1)) < 12 ∧ 0 ≤ v3 ∧ v3 < 2000 ∧ 0 ≤ v3 ∧ v3 < 2000 ∧ ∃ x18 h15, jE d 148 [jP 141, jI (ji h 147 (Int.toNat (w32 (2 * (ji h 161 (Int.toNat v3)))))), jI (ji h 147 (Int.toNat (w32 ((w32 (2 * (ji h 161 (Int.toNat v3)))) + 1)))), jI (ji h 162 (Int.toNat v3)), jI (ji h 163 (Int.toNat v3))] h (some (jI x18)) h15 ∧ Ly p h15 ∧ 0 ≤ (w32 ((w32 (64 * (ji h 161 (Int.toNat v3)))) + x18)) ∧ (w32 ((w32 (64 * (ji h 161 (Int.toNat v3)))) + x18)) < 384 ∧ ∃ h21, jE d 146 [jP 141, jL (ji h15 148 (Int.toNat (w32 ((w32 (64 * (ji h 161 (Int.toNat v3)))) + x18))))] h15 none h21 ∧ Ly p h21 ∧ WF d 151 185 [jP 141, jI v1, jI v2, jI v3, jI v4] [] h21 Q) : WF d 151 121 [jP 141, jI v1, jI v2, jI v3, jI v4] [] h Q := by
  refine b_151_121 ?_
  refine ⟨(Ly.t141 L), ?_⟩
  rw [show jr h 141 14 = 148 from Ly.r141_14 L]
  refine ⟨(Ly.t141 L), ?_⟩
  rw [show jr h 141 35 = 161 from Ly.r141_35 L]
  obtain ⟨z1, z2, H⟩ := H
  refine ⟨inA_mk (N := 2000) (Ly.t161 L) (Ly.n161 L) z1 z2, ?_⟩
  refine ⟨(Ly.t141 L), ?_⟩
  rw [show jr h 141 13 = 147 from Ly.r141_13 L]
  refine ⟨(Ly.t141 L), ?_⟩
  obtain ⟨z3, z4, H⟩ := H
  refine ⟨inA_mk (N := 2000) (Ly.t161 L) (Ly.n161 L) z3 z4, ?_⟩
  obtain ⟨z5, z6, H⟩ := H
  refine ⟨inA_mk (N := 12) (Ly.t147 L) (Ly.n147 L) z5 z6, ?_⟩
  refine ⟨(Ly.t141 L), ?_⟩
  refine ⟨(Ly.t141 L), ?_⟩
  obtain ⟨z7, z8, H⟩ := H
  refine ⟨inA_mk (N := 2000) (Ly.t161 L) (Ly.n161 L) z7 z8, ?_⟩
  obtain ⟨z9, z10, H⟩ := H
  refine ⟨inA_mk (N := 12) (Ly.t147 L) (Ly.n147 L) z9 z10, ?_⟩
  refine ⟨(Ly.t141 L), ?_⟩
  rw [show jr h 141 36 = 162 from Ly.r141_36 L]
  obtain ⟨z11, z12, H⟩ := H
  refine ⟨inA_mk (N := 2000) (Ly.t162 L) (Ly.n162 L) z11 z12, ?_⟩
  refine ⟨(Ly.t141 L), ?_⟩
  rw [show jr h 141 37 = 163 from Ly.r141_37 L]
  obtain ⟨z13, z14, H⟩ := H
  refine ⟨inA_mk (N := 2000) (Ly.t163 L) (Ly.n163 L) z13 z14, ?_⟩
  refine ⟨(Ly.t141 L), ?_⟩
  obtain ⟨x18, h15, e17, L16, H⟩ := H
  refine ⟨x18, h15, e17, ?_⟩
  obtain ⟨z19, z20, H⟩ := H
  refine ⟨inA_mk (N := 384) (Ly.t148 L16) (Ly.n148 L16) z19 z20, ?_⟩
  refine ⟨(Ly.t141 L16), ?_⟩
  obtain ⟨h21, e23, L22, H⟩ := H
  refine ⟨h21, e23, ?_⟩
  exact H
set_option maxRecDepth 100000 in
theorem c_151_185 {p : Lpar} {d : Nat} {h : AH} {Q : Option AV → AH → Prop} {v1 : Int} {v2 : Int} {v3 : Int} {v4 : Int} (hd : 9 ≤ d) (L : Ly p h) (H : WF d 151 310 [jP 141, jI v1, jI v2, jI v3, jI v4] [] h Q) : WF d 151 185 [jP 141, jI v1, jI v2, jI v3, jI v4] [] h Q := by
  refine b_151_185 ?_
  exact H
set_option maxRecDepth 100000 in
theorem c_151_188 {p : Lpar} {d : Nat} {h : AH} {Q : Option AV → AH → Prop} {v1 : Int} {v2 : Int} {v3 : Int} {v4 : Int} (hd : 9 ≤ d) (L : Ly p h) (H : ∃ h1, jE d 146 [jP 141, jL 0] h none h1 ∧ Ly p h1 ∧ WF d 151 193 [jP 141, jI v1, jI v2, jI v3, jI v4] [] h1 Q) : WF d 151 188 [jP 141, jI v1, jI v2, jI v3, jI v4] [] h Q := by
  refine b_151_188 ?_
  refine ⟨(Ly.t141 L), ?_⟩
  obtain ⟨h1, e3, L2, H⟩ := H
  refine ⟨h1, e3, ?_⟩
  exact H
set_option maxRecDepth 100000 in
theorem c_151_193 {p : Lpar} {d : Nat} {h : AH} {Q : Option AV → AH → Prop} {v1 : Int} {v2 : Int} {v3 : Int} {v4 : Int} (hd : 9 ≤ d) (L : Ly p h) (H : 0 ≤ v3 ∧ v3 < 2000 ∧ 0 ≤ (ji h 161 (Int.toNat v3)) ∧ (ji h 161 (Int.toNat v3)) < 7 ∧ 0 ≤ v3 ∧ v3 < 2000 ∧ 0 ≤ (w32 (2 * (ji h 161 (Int.toNat v3)))) ∧ (w32 (2 * (ji h 161 (Int.toNat v3)))) < 12 ∧ 0 ≤ v3 ∧ v3 < 2000 ∧ 0 ≤ (w32 ((w32 (2 * (ji h 161 (Int.toNat v3)))) + 1)) ∧ (w32 ((w32 (2 * (ji h 161 (Int.toNat v3)))) + 1)) < 12 ∧ 0 ≤ v3 ∧ v3 < 2000 ∧ 0 ≤ v3 ∧ v3 < 2000 ∧ ∃ x20 h17, jE d 148 [jP 141, jI (ji h 150 (Int.toNat (w32 (2 * (ji h 161 (Int.toNat v3)))))), jI (ji h 150 (Int.toNat (w32 ((w32 (2 * (ji h 161 (Int.toNat v3)))) + 1)))), jI (ji h 162 (Int.toNat v3)), jI (ji h 163 (Int.toNat v3))] h (some (jI x20)) h17 ∧ Ly p h17 ∧ 0 ≤ (w32 ((w32 ((w32 (41 * (w32 ((ji h 141 54) - 1)))) + (ji h 174 (Int.toNat (ji h 161 (Int.toNat v3)))))) + x20)) ∧ (w32 ((w32 ((w32 (41 * (w32 ((ji h 141 54) - 1)))) + (ji h 174 (Int.toNat (ji h 161 (Int.toNat v3)))))) + x20)) < 1640 ∧ (Ly p (wl h17 172 (Int.toNat (w32 ((w32 ((w32 (41 * (w32 ((ji h 141 54) - 1)))) + (ji h 174 (Int.toNat (ji h 161 (Int.toNat v3)))))) + x20))) (1 : Int)) → WF d 151 265 [jP 141, jI v1, jI v2, jI v3, jI v4] [] (wl h17 172 (Int.toNat (w32 ((w32 ((w32 (41 * (w32 ((ji h 141 54) - 1)))) + (ji h 174 (Int.toNat (ji h 161 (Int.toNat v3)))))) + x20))) (1 : Int)) Q)) : WF d 151 193 [jP 141, jI v1, jI v2, jI v3, jI v4] [] h Q := by
  refine b_151_193 ?_
  refine ⟨(Ly.t141 L), ?_⟩
  rw [show jr h 141 53 = 172 from Ly.r141_53 L]
  refine ⟨(Ly.t141 L), ?_⟩
  refine ⟨(Ly.t141 L), ?_⟩
  rw [show jr h 141 56 = 174 from Ly.r141_56 L]
  refine ⟨(Ly.t141 L), ?_⟩
  rw [show jr h 141 35 = 161 from Ly.r141_35 L]
  obtain ⟨z1, z2, H⟩ := H
  refine ⟨inA_mk (N := 2000) (Ly.t161 L) (Ly.n161 L) z1 z2, ?_⟩
  obtain ⟨z3, z4, H⟩ := H
  refine ⟨inA_mk (N := 7) (Ly.t174 L) (Ly.n174 L) z3 z4, ?_⟩
  refine ⟨(Ly.t141 L), ?_⟩
  rw [show jr h 141 17 = 150 from Ly.r141_17 L]
  refine ⟨(Ly.t141 L), ?_⟩
  obtain ⟨z5, z6, H⟩ := H
  refine ⟨inA_mk (N := 2000) (Ly.t161 L) (Ly.n161 L) z5 z6, ?_⟩
  obtain ⟨z7, z8, H⟩ := H
  refine ⟨inA_mk (N := 12) (Ly.t150 L) (Ly.n150 L) z7 z8, ?_⟩
  refine ⟨(Ly.t141 L), ?_⟩
  refine ⟨(Ly.t141 L), ?_⟩
  obtain ⟨z9, z10, H⟩ := H
  refine ⟨inA_mk (N := 2000) (Ly.t161 L) (Ly.n161 L) z9 z10, ?_⟩
  obtain ⟨z11, z12, H⟩ := H
  refine ⟨inA_mk (N := 12) (Ly.t150 L) (Ly.n150 L) z11 z12, ?_⟩
  refine ⟨(Ly.t141 L), ?_⟩
  rw [show jr h 141 36 = 162 from Ly.r141_36 L]
  obtain ⟨z13, z14, H⟩ := H
  refine ⟨inA_mk (N := 2000) (Ly.t162 L) (Ly.n162 L) z13 z14, ?_⟩
  refine ⟨(Ly.t141 L), ?_⟩
  rw [show jr h 141 37 = 163 from Ly.r141_37 L]
  obtain ⟨z15, z16, H⟩ := H
  refine ⟨inA_mk (N := 2000) (Ly.t163 L) (Ly.n163 L) z15 z16, ?_⟩
  refine ⟨(Ly.t141 L), ?_⟩
  obtain ⟨x20, h17, e19, L18, H⟩ := H
  refine ⟨x20, h17, e19, ?_⟩
  obtain ⟨z21, z22, H⟩ := H
  refine ⟨inW_mk (N := 1640) (Ly.t172 L18) (Ly.n172 L18) z21 z22, ?_⟩
  exact H (Ly.wl L18)
set_option maxRecDepth 100000 in
theorem c_151_265 {p : Lpar} {d : Nat} {h : AH} {Q : Option AV → AH → Prop} {v1 : Int} {v2 : Int} {v3 : Int} {v4 : Int} (hd : 9 ≤ d) (L : Ly p h) (H : WF d 151 310 [jP 141, jI v1, jI v2, jI v3, jI v4] [] h Q) : WF d 151 265 [jP 141, jI v1, jI v2, jI v3, jI v4] [] h Q := by
  refine b_151_265 ?_
  exact H
set_option maxRecDepth 100000 in
theorem c_151_268 {p : Lpar} {d : Nat} {h : AH} {Q : Option AV → AH → Prop} {v1 : Int} {v2 : Int} {v3 : Int} {v4 : Int} (hd : 9 ≤ d) (L : Ly p h) (H : ∃ h1, jE d 149 [jP 141] h none h1 ∧ Ly p h1 ∧ WF d 151 272 [jP 141, jI v1, jI v2, jI v3, jI v4] [] h1 Q) : WF d 151 268 [jP 141, jI v1, jI v2, jI v3, jI v4] [] h Q := by
  refine b_151_268 ?_
  refine ⟨(Ly.t141 L), ?_⟩
  obtain ⟨h1, e3, L2, H⟩ := H
  refine ⟨h1, e3, ?_⟩
  exact H
set_option maxRecDepth 100000 in
theorem c_151_272 {p : Lpar} {d : Nat} {h : AH} {Q : Option AV → AH → Prop} {v1 : Int} {v2 : Int} {v3 : Int} {v4 : Int} (hd : 9 ≤ d) (L : Ly p h) (H : WF d 151 310 [jP 141, jI v1, jI v2, jI v3, jI v4] [] h Q) : WF d 151 272 [jP 141, jI v1, jI v2, jI v3, jI v4] [] h Q := by
  refine b_151_272 ?_
  exact H
set_option maxRecDepth 100000 in
theorem c_151_275 {p : Lpar} {d : Nat} {h : AH} {Q : Option AV → AH → Prop} {v1 : Int} {v2 : Int} {v3 : Int} {v4 : Int} (hd : 9 ≤ d) (L : Ly p h) (H : ∃ h1, jE d 150 [jP 141, jL 1] h none h1 ∧ Ly p h1 ∧ WF d 151 280 [jP 141, jI v1, jI v2, jI v3, jI v4] [] h1 Q) : WF d 151 275 [jP 141, jI v1, jI v2, jI v3, jI v4] [] h Q := by
  refine b_151_275 ?_
  refine ⟨(Ly.t141 L), ?_⟩
  obtain ⟨h1, e3, L2, H⟩ := H
  refine ⟨h1, e3, ?_⟩
  exact H
set_option maxRecDepth 100000 in
theorem c_151_280 {p : Lpar} {d : Nat} {h : AH} {Q : Option AV → AH → Prop} {v1 : Int} {v2 : Int} {v3 : Int} {v4 : Int} (hd : 9 ≤ d) (L : Ly p h) (H : WF d 151 310 [jP 141, jI v1, jI v2, jI v3, jI v4] [] h Q) : WF d 151 280 [jP 141, jI v1, jI v2, jI v3, jI v4] [] h Q := by
  refine b_151_280 ?_
  exact H
set_option maxRecDepth 100000 in
theorem c_151_283 {p : Lpar} {d : Nat} {h : AH} {Q : Option AV → AH → Prop} {v1 : Int} {v2 : Int} {v3 : Int} {v4 : Int} (hd : 9 ≤ d) (L : Ly p h) (H : ∃ h1, jE d 150 [jP 141, jL (-1)] h none h1 ∧ Ly p h1 ∧ WF d 151 290 [jP 141, jI v1, jI v2, jI v3, jI v4] [] h1 Q) : WF d 151 283 [jP 141, jI v1, jI v2, jI v3, jI v4] [] h Q := by
  refine b_151_283 ?_
  refine ⟨(Ly.t141 L), ?_⟩
  obtain ⟨h1, e3, L2, H⟩ := H
  refine ⟨h1, e3, ?_⟩
  exact H
set_option maxRecDepth 100000 in
theorem c_151_290 {p : Lpar} {d : Nat} {h : AH} {Q : Option AV → AH → Prop} {v1 : Int} {v2 : Int} {v3 : Int} {v4 : Int} (hd : 9 ≤ d) (L : Ly p h) (H : WF d 151 310 [jP 141, jI v1, jI v2, jI v3, jI v4] [] h Q) : WF d 151 290 [jP 141, jI v1, jI v2, jI v3, jI v4] [] h Q := by
  refine b_151_290 ?_
  exact H
set_option maxRecDepth 100000 in
theorem c_151_293 {p : Lpar} {d : Nat} {h : AH} {Q : Option AV → AH → Prop} {v1 : Int} {v2 : Int} {v3 : Int} {v4 : Int} (hd : 9 ≤ d) (L : Ly p h) (H : ∃ x4 h1, jE d 152 [jP 141, jI v3] h (some (jI x4)) h1 ∧ Ly p h1 ∧ WF d 151 300 [jP 141, jI v1, jI v2, jI v3, jI x4] [] h1 Q) : WF d 151 293 [jP 141, jI v1, jI v2, jI v3, jI v4] [] h Q := by
  refine b_151_293 ?_
  refine ⟨(Ly.t141 L), ?_⟩
  obtain ⟨x4, h1, e3, L2, H⟩ := H
  refine ⟨x4, h1, e3, ?_⟩
  exact H
set_option maxRecDepth 100000 in
theorem c_151_300 {p : Lpar} {d : Nat} {h : AH} {Q : Option AV → AH → Prop} {v1 : Int} {v2 : Int} {v3 : Int} {v4 : Int} (hd : 9 ≤ d) (L : Ly p h) (H : WF d 151 310 [jP 141, jI v1, jI v2, jI v3, jI v4] [] h Q) : WF d 151 300 [jP 141, jI v1, jI v2, jI v3, jI v4] [] h Q := by
  refine b_151_300 ?_
  exact H
set_option maxRecDepth 100000 in
theorem c_151_303 {p : Lpar} {d : Nat} {h : AH} {Q : Option AV → AH → Prop} {v1 : Int} {v2 : Int} {v3 : Int} {v4 : Int} (hd : 9 ≤ d) (L : Ly p h) (H : ∃ x4 h1, jE d 154 [jP 141, jI v3] h (some (jI x4)) h1 ∧ Ly p h1 ∧ WF d 151 310 [jP 141, jI v1, jI v2, jI v3, jI x4] [] h1 Q) : WF d 151 303 [jP 141, jI v1, jI v2, jI v3, jI v4] [] h Q := by
  refine b_151_303 ?_
  refine ⟨(Ly.t141 L), ?_⟩
  obtain ⟨x4, h1, e3, L2, H⟩ := H
  refine ⟨x4, h1, e3, ?_⟩
  exact H
set_option maxRecDepth 100000 in
theorem c_151_310 {p : Lpar} {d : Nat} {h : AH} {Q : Option AV → AH → Prop} {v1 : Int} {v2 : Int} {v3 : Int} {v4 : Int} (hd : 9 ≤ d) (L : Ly p h) (H : WF d 151 313 [jP 141, jI v1, jI v2, jI v4, jI v4] [] h Q) : WF d 151 310 [jP 141, jI v1, jI v2, jI v3, jI v4] [] h Q := by
  refine b_151_310 ?_
  exact H
set_option maxRecDepth 100000 in
theorem c_151_313 {p : Lpar} {d : Nat} {h : AH} {Q : Option AV → AH → Prop} {v1 : Int} {v2 : Int} {v3 : Int} {v4 : Int} (hd : 9 ≤ d) (L : Ly p h) (H : WF d 151 2 [jP 141, jI v1, jI v2, jI v3, jI v4] [] h Q) : WF d 151 313 [jP 141, jI v1, jI v2, jI v3, jI v4] [] h Q := by
  refine b_151_313 ?_
  exact H
