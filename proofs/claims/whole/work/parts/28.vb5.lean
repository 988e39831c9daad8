-- needs: 20.num 21.lay 22.spec 23.va 24.leaf 25.tbls 26.thg 27.tok
set_option maxRecDepth 100000 in
theorem c_32_19 {p : Lpar} {d : Nat} {h : AH} {Q : Option AV → AH → Prop} {a1 : Nat} {v2 : Int} {z3 : AV} (hd : 9 ≤ d) (L : Ly p h) {T : Txt} {e i : Nat} (K : TokR T e i h) (H : (400 ≤ v2 → (Ly p (wi h 37 5 (-10 - (tkP T i : Int))) → TokR T e i (wi h 37 5 (-10 - (tkP T i : Int))) → Q (some (jI 0)) (wi h 37 5 (-10 - (tkP T i : Int))))) ∧ (¬ (400 ≤ v2) → (tkK T i = 3 → Q (some (jI 1)) h) ∧ (¬ tkK T i = 3 → (tkK T i = 10 → ∃ x8 h3, jE d 34 [jP 93] h (some (jI x8)) h3 ∧ Ly p h3 ∧ ∃ i6, TokR T e i6 h3 ∧ (x8 = (0 : Int) → Q (some (jI 0)) h3) ∧ (¬ x8 = (0 : Int) → WF d 32 19 [jP 93, jP a1, jI (w32 (v2 + 1)), jI x8] [] h3 Q)) ∧ (¬ tkK T i = 10 → (tkK T i = 12 → ∃ x16 h11, jE d 36 [jP 93] h (some (jI x16)) h11 ∧ Ly p h11 ∧ ∃ i14, TokR T e i14 h11 ∧ (x16 = (0 : Int) → Q (some (jI 0)) h11) ∧ (¬ x16 = (0 : Int) → WF d 32 19 [jP 93, jP a1, jI (w32 (v2 + 1)), jI x16] [] h11 Q)) ∧ (¬ tkK T i = 12 → (tkK T i = 11 → ∃ x24 h19, jE d 35 [jP 93] h (some (jI x24)) h19 ∧ Ly p h19 ∧ ∃ i22, TokR T e i22 h19 ∧ (x24 = (0 : Int) → Q (some (jI 0)) h19) ∧ (¬ x24 = (0 : Int) → WF d 32 19 [jP 93, jP a1, jI (w32 (v2 + 1)), jI x24] [] h19 Q)) ∧ (¬ tkK T i = 11 → (tkK T i = 14 → ∃ x32 h27, jE d 39 [jP 93] h (some (jI x32)) h27 ∧ Ly p h27 ∧ ∃ i30, TokR T e i30 h27 ∧ (x32 = (0 : Int) → Q (some (jI 0)) h27) ∧ (¬ x32 = (0 : Int) → WF d 32 19 [jP 93, jP a1, jI (w32 (v2 + 1)), jI x32] [] h27 Q)) ∧ (¬ tkK T i = 14 → (tkK T i = 13 → ∃ x40 h35, jE d 37 [jP 93] h (some (jI x40)) h35 ∧ Ly p h35 ∧ ∃ i38, TokR T e i38 h35 ∧ (x40 = (0 : Int) → Q (some (jI 0)) h35) ∧ (¬ x40 = (0 : Int) → WF d 32 19 [jP 93, jP a1, jI (w32 (v2 + 1)), jI x40] [] h35 Q)) ∧ (¬ tkK T i = 13 → (Ly p (wi h 37 5 (-10 - (tkP T i : Int))) → TokR T e i (wi h 37 5 (-10 - (tkP T i : Int))) → Q (some (jI 0)) (wi h 37 5 (-10 - (tkP T i : Int)))))))))))) : WF d 32 19 [jP 93, jP a1, jI v2, z3] [] h Q := by
  refine b_32_19 ?_
  refine ⟨fun c42 => ?_, fun c42 => ?_⟩
  · have H := H.1 c42
    refine ⟨(Ly.t93 L :), ?_⟩
    rw [show jr h 93 0 = 37 from (Ly.r93_0 L :)]
    refine ⟨(Ly.t37 L :), ?_⟩
    refine ⟨_, _, t_76 (d := d) (by omega) L K, ?_⟩
    refine ⟨Or.inl rfl, ?_⟩
    exact H (Ly.wi L (a := 37) (k := 5) (x := -10 - (tkP T i : Int)) (by decide)) (TokR.flt K)
  · have H := H.2 c42
    refine ⟨(Ly.t93 L :), ?_⟩
    rw [show jr h 93 0 = 37 from (Ly.r93_0 L :)]
    refine ⟨(Ly.t37 L :), ?_⟩
    refine ⟨_, _, t_70 (d := d) (by omega) L K, ?_⟩
    rw [show (ck (tkK T i) = 1) = (tkK T i = 3) from TokR.ckE K 3 rfl]
    refine ⟨fun c1 => ?_, fun c1 => ?_⟩
    · have H := H.1 c1
      refine ⟨Or.inr rfl, ?_⟩
      exact H
    · have H := H.2 c1
      rw [show (ck (tkK T i) = 7562612) = (tkK T i = 10) from TokR.ckE K 10 rfl]
      refine ⟨fun c2 => ?_, fun c2 => ?_⟩
      · have H := H.1 c2
        refine ⟨(Ly.t93 L :), ?_⟩
        obtain ⟨x8, h3, e5, L4, i6, K7, H⟩ := H
        refine ⟨x8, h3, e5, ?_⟩
        refine b_32_99 ?_
        refine b_32_142 ?_
        refine ⟨fun c9 => ?_, fun c9 => ?_⟩
        · have H := H.2 c9
          exact H
        · have c9 := Decidable.not_not.mp c9
          have H := H.1 c9
          refine ⟨Or.inl rfl, ?_⟩
          exact H
      · have H := H.2 c2
        rw [show (ck (tkK T i) = 7758194) = (tkK T i = 12) from TokR.ckE K 12 rfl]
        refine ⟨fun c10 => ?_, fun c10 => ?_⟩
        · have H := H.1 c10
          refine ⟨(Ly.t93 L :), ?_⟩
          obtain ⟨x16, h11, e13, L12, i14, K15, H⟩ := H
          refine ⟨x16, h11, e13, ?_⟩
          refine b_32_115 ?_
          refine b_32_142 ?_
          refine ⟨fun c17 => ?_, fun c17 => ?_⟩
          · have H := H.2 c17
            exact H
          · have c17 := Decidable.not_not.mp c17
            have H := H.1 c17
            refine ⟨Or.inl rfl, ?_⟩
            exact H
        · have H := H.2 c10
          rw [show (ck (tkK T i) = 1684108385) = (tkK T i = 11) from TokR.ckE K 11 rfl]
          refine ⟨fun c18 => ?_, fun c18 => ?_⟩
          · have H := H.1 c18
            refine ⟨(Ly.t93 L :), ?_⟩
            obtain ⟨x24, h19, e21, L20, i22, K23, H⟩ := H
            refine ⟨x24, h19, e21, ?_⟩
            refine b_32_107 ?_
            refine b_32_142 ?_
            refine ⟨fun c25 => ?_, fun c25 => ?_⟩
            · have H := H.2 c25
              exact H
            · have c25 := Decidable.not_not.mp c25
              have H := H.1 c25
              refine ⟨Or.inl rfl, ?_⟩
              exact H
          · have H := H.2 c18
            rw [show (ck (tkK T i) = 1735352684) = (tkK T i = 14) from TokR.ckE K 14 rfl]
            refine ⟨fun c26 => ?_, fun c26 => ?_⟩
            · have H := H.1 c26
              refine ⟨(Ly.t93 L :), ?_⟩
              obtain ⟨x32, h27, e29, L28, i30, K31, H⟩ := H
              refine ⟨x32, h27, e29, ?_⟩
              refine b_32_131 ?_
              refine b_32_142 ?_
              refine ⟨fun c33 => ?_, fun c33 => ?_⟩
              · have H := H.2 c33
                exact H
              · have c33 := Decidable.not_not.mp c33
                have H := H.1 c33
                refine ⟨Or.inl rfl, ?_⟩
                exact H
            · have H := H.2 c26
              rw [show (ck (tkK T i) = 1920298085) = (tkK T i = 13) from TokR.ckE K 13 rfl]
              refine ⟨fun c34 => ?_, fun c34 => ?_⟩
              · have H := H.1 c34
                refine ⟨(Ly.t93 L :), ?_⟩
                obtain ⟨x40, h35, e37, L36, i38, K39, H⟩ := H
                refine ⟨x40, h35, e37, ?_⟩
                refine b_32_123 ?_
                refine b_32_142 ?_
                refine ⟨fun c41 => ?_, fun c41 => ?_⟩
                · have H := H.2 c41
                  exact H
                · have c41 := Decidable.not_not.mp c41
                  have H := H.1 c41
                  refine ⟨Or.inl rfl, ?_⟩
                  exact H
              · have H := H.2 c34
                refine ⟨(Ly.t93 L :), ?_⟩
                rw [show jr h 93 0 = 37 from (Ly.r93_0 L :)]
                refine ⟨(Ly.t37 L :), ?_⟩
                refine ⟨_, _, t_76 (d := d) (by omega) L K, ?_⟩
                refine b_32_142 ?_
                refine ⟨fun c => absurd c (by decide), fun _ => ?_⟩
                refine ⟨Or.inl rfl, ?_⟩
                exact H (Ly.wi L (a := 37) (k := 5) (x := -10 - (tkP T i : Int)) (by decide)) (TokR.flt K)
