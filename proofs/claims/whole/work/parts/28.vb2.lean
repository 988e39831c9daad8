-- needs: 20.num 21.lay 22.spec 23.va 24.leaf 25.tbls 26.thg 27.tok
set_option maxRecDepth 100000 in
theorem c_46_0 {p : Lpar} {d : Nat} {h : AH} {Q : Option AV → AH → Prop} {v1 : Int} (hd : 9 ≤ d) (L : Ly p h) {T : Txt} {e i : Nat} (K : TokR T e i h) (H : (tkK T i = 145 → (Ly p (nw h 6 4) → TokR T e i (nw h 6 4) → ∃ h2, jE d 29 [jP (jx h), jI 1] (nw h 6 4) none h2 ∧ Ly p h2 ∧ ∃ i5, TokR T e i5 h2 ∧ jt h2 (jx h) = 6 ∧ ((ji h2 (jx h) 0) = (0 : Int) → WF d 46 44 [jP 93, jI v1, jP (jx h), jP (jx h), jI 0, jU, jU, jU] [] h2 Q) ∧ (¬ ((ji h2 (jx h) 0) = (0 : Int)) → ¬ (tkK T i5 = 3 ∨ tkK T i5 = 4) ∧ (Ly p (wi h2 37 4 ((i5 + 1 : Nat) : Int)) → TokR T e (i5 + 1) (wi h2 37 4 ((i5 + 1 : Nat) : Int)) → WF d 46 44 [jP 93, jI v1, jP (jx h), jP (jx h), jI 0, jU, jU, jU] [] (wi h2 37 4 ((i5 + 1 : Nat) : Int)) Q)))) ∧ (¬ tkK T i = 145 → (Ly p (nw h 6 4) → TokR T e i (nw h 6 4) → ∃ h10, jE d 29 [jP (jx h), jI 0] (nw h 6 4) none h10 ∧ Ly p h10 ∧ ∃ i13, TokR T e i13 h10 ∧ jt h10 (jx h) = 6 ∧ ((ji h10 (jx h) 0) = (0 : Int) → WF d 46 44 [jP 93, jI v1, jP (jx h), jP (jx h), jI 0, jU, jU, jU] [] h10 Q) ∧ (¬ ((ji h10 (jx h) 0) = (0 : Int)) → ¬ (tkK T i13 = 3 ∨ tkK T i13 = 4) ∧ (Ly p (wi h10 37 4 ((i13 + 1 : Nat) : Int)) → TokR T e (i13 + 1) (wi h10 37 4 ((i13 + 1 : Nat) : Int)) → WF d 46 44 [jP 93, jI v1, jP (jx h), jP (jx h), jI 0, jU, jU, jU] [] (wi h10 37 4 ((i13 + 1 : Nat) : Int)) Q))))) : WF d 46 0 [jP 93, jI v1, jU, jU, jU, jU, jU, jU] [] h Q := by
  refine b_46_0 ?_
  refine ⟨(Ly.t93 (Ly.nw L (t := 6) (n := 4)) :), ?_⟩
  rw [show jr (nw h 6 4) 93 0 = 37 from (Ly.r93_0 (Ly.nw L (t := 6) (n := 4)) :)]
  refine ⟨(Ly.t37 (Ly.nw L (t := 6) (n := 4)) :), ?_⟩
  refine ⟨_, _, t_70 (d := d) (by omega) (Ly.nw L (t := 6) (n := 4)) (TokR.snw K L (t := 6) (n := 4)), ?_⟩
  rw [show (ck (tkK T i) = 45) = (tkK T i = 145) from TokR.ckE (TokR.snw K L (t := 6) (n := 4)) 145 rfl]
  refine ⟨fun c1 => ?_, fun c1 => ?_⟩
  · have H := H.2 c1
    refine ⟨Nat.le_trans (by decide) (Ly.nx L), ?_⟩
    have H := H (Ly.nw L (t := 6) (n := 4)) (TokR.snw K L (t := 6) (n := 4))
    obtain ⟨h10, e12, L11, i13, K14, H⟩ := H
    refine ⟨h10, e12, ?_⟩
    refine b_46_25 ?_
    obtain ⟨z17, H⟩ := H
    refine ⟨z17, ?_⟩
    refine ⟨fun c16 => ?_, fun c16 => ?_⟩
    · have H := H.1 c16
      refine b_46_39 ?_
      refine b_46_41 ?_
      exact H
    · have H := H.2 c16
      refine ⟨(Ly.t93 L11 :), ?_⟩
      rw [show jr h10 93 0 = 37 from (Ly.r93_0 L11 :)]
      refine ⟨(Ly.t37 L11 :), ?_⟩
      obtain ⟨z15, H⟩ := H
      refine ⟨_, t_74 (d := d) (by omega) L11 K14 z15, ?_⟩
      refine b_46_39 ?_
      refine b_46_41 ?_
      exact H (Ly.wi L11 (a := 37) (k := 4) (x := ((i13 + 1 : Nat) : Int)) (by decide)) (TokR.adv K14 z15)
  · have c1 := Decidable.not_not.mp c1
    have H := H.1 c1
    refine ⟨Nat.le_trans (by decide) (Ly.nx L), ?_⟩
    have H := H (Ly.nw L (t := 6) (n := 4)) (TokR.snw K L (t := 6) (n := 4))
    obtain ⟨h2, e4, L3, i5, K6, H⟩ := H
    refine ⟨h2, e4, ?_⟩
    refine b_46_25 ?_
    obtain ⟨z9, H⟩ := H
    refine ⟨z9, ?_⟩
    refine ⟨fun c8 => ?_, fun c8 => ?_⟩
    · have H := H.1 c8
      refine b_46_39 ?_
      refine b_46_41 ?_
      exact H
    · have H := H.2 c8
      refine ⟨(Ly.t93 L3 :), ?_⟩
      rw [show jr h2 93 0 = 37 from (Ly.r93_0 L3 :)]
      refine ⟨(Ly.t37 L3 :), ?_⟩
      obtain ⟨z7, H⟩ := H
      refine ⟨_, t_74 (d := d) (by omega) L3 K6 z7, ?_⟩
      refine b_46_39 ?_
      refine b_46_41 ?_
      exact H (Ly.wi L3 (a := 37) (k := 4) (x := ((i5 + 1 : Nat) : Int)) (by decide)) (TokR.adv K6 z7)
set_option maxRecDepth 100000 in
theorem c_46_44 {p : Lpar} {d : Nat} {h : AH} {Q : Option AV → AH → Prop} {v1 : Int} {a2 : Nat} {a3 : Nat} {v4 : Int} {z5 : AV} {z6 : AV} {z7 : AV} (hd : 9 ≤ d) (L : Ly p h) {T : Txt} {e i : Nat} (K : TokR T e i h) (H : (400 ≤ v4 → (Ly p (wi h 37 5 (-10 - (tkP T i : Int))) → TokR T e i (wi h 37 5 (-10 - (tkP T i : Int))) → Q (some (jP 0)) (wi h 37 5 (-10 - (tkP T i : Int))))) ∧ (¬ (400 ≤ v4) → ∃ p6 h1, jE d 47 [jP 93, jI v1] h (some (jP p6)) h1 ∧ Ly p h1 ∧ ∃ i4, TokR T e i4 h1 ∧ ¬ p6 = 1 ∧ (¬ p6 = 0 → jt h1 p6 = 3 ∧ ((ji h1 p6 5) = (0 : Int) → jt h1 a3 = 6 ∧ ∃ h7, jE d 30 [jP a3, jP p6] h1 none h7 ∧ Ly p h7 ∧ ∃ i10, TokR T e i10 h7 ∧ (tkK T i10 = 142 → (Ly p (wi h7 37 4 ((i10 + 1 : Nat) : Int)) → TokR T e (i10 + 1) (wi h7 37 4 ((i10 + 1 : Nat) : Int)) → WF d 46 44 [jP 93, jI v1, jP a2, jP a3, jI (w32 (v4 + 1)), jI (tkP T i : Int), jP p6, jI (ck (tkK T i10))] [] (wi h7 37 4 ((i10 + 1 : Nat) : Int)) Q)) ∧ (¬ tkK T i10 = 142 → (tkK T i10 = 143 → (Ly p (nw (wi h7 37 4 ((i10 + 1 : Nat) : Int)) 6 4) → TokR T e (i10 + 1) (nw (wi h7 37 4 ((i10 + 1 : Nat) : Int)) 6 4) → ∃ h17, jE d 29 [jP (jx (wi h7 37 4 ((i10 + 1 : Nat) : Int))), jI 0] (nw (wi h7 37 4 ((i10 + 1 : Nat) : Int)) 6 4) none h17 ∧ Ly p h17 ∧ ∃ i20, TokR T e i20 h17 ∧ jt h17 a3 = 6 ∧ NF ≤ a3 ∧ jt (wr h17 a3 3 (jx (wi h7 37 4 ((i10 + 1 : Nat) : Int)))) a3 = 6 ∧ (Ly p (wr h17 a3 3 (jx (wi h7 37 4 ((i10 + 1 : Nat) : Int)))) → TokR T e i20 (wr h17 a3 3 (jx (wi h7 37 4 ((i10 + 1 : Nat) : Int)))) → WF d 46 44 [jP 93, jI v1, jP a2, jP (jr (wr h17 a3 3 (jx (wi h7 37 4 ((i10 + 1 : Nat) : Int)))) a3 3), jI (w32 (v4 + 1)), jI (tkP T i : Int), jP p6, jI (ck (tkK T i10))] [] (wr h17 a3 3 (jx (wi h7 37 4 ((i10 + 1 : Nat) : Int)))) Q))) ∧ (¬ tkK T i10 = 143 → (tkK T i10 = 145 → (Ly p (nw (wi h7 37 4 ((i10 + 1 : Nat) : Int)) 6 4) → TokR T e (i10 + 1) (nw (wi h7 37 4 ((i10 + 1 : Nat) : Int)) 6 4) → ∃ h28, jE d 29 [jP (jx (wi h7 37 4 ((i10 + 1 : Nat) : Int))), jI 1] (nw (wi h7 37 4 ((i10 + 1 : Nat) : Int)) 6 4) none h28 ∧ Ly p h28 ∧ ∃ i31, TokR T e i31 h28 ∧ jt h28 a3 = 6 ∧ NF ≤ a3 ∧ jt (wr h28 a3 3 (jx (wi h7 37 4 ((i10 + 1 : Nat) : Int)))) a3 = 6 ∧ (Ly p (wr h28 a3 3 (jx (wi h7 37 4 ((i10 + 1 : Nat) : Int)))) → TokR T e i31 (wr h28 a3 3 (jx (wi h7 37 4 ((i10 + 1 : Nat) : Int)))) → WF d 46 44 [jP 93, jI v1, jP a2, jP (jr (wr h28 a3 3 (jx (wi h7 37 4 ((i10 + 1 : Nat) : Int)))) a3 3), jI (w32 (v4 + 1)), jI (tkP T i : Int), jP p6, jI (ck (tkK T i10))] [] (wr h28 a3 3 (jx (wi h7 37 4 ((i10 + 1 : Nat) : Int)))) Q))) ∧ (¬ tkK T i10 = 145 → Q (some (jP a2)) h7)))) ∧ (¬ ((ji h1 p6 5) = (0 : Int)) → jt h1 a3 = 6 ∧ ¬ (jr h1 a3 2) = 1 ∧ ((jr h1 a3 2) = 0 → jt h1 a3 = 6 ∧ ∃ h37, jE d 30 [jP a3, jP p6] h1 none h37 ∧ Ly p h37 ∧ ∃ i40, TokR T e i40 h37 ∧ (tkK T i40 = 142 → (Ly p (wi h37 37 4 ((i40 + 1 : Nat) : Int)) → TokR T e (i40 + 1) (wi h37 37 4 ((i40 + 1 : Nat) : Int)) → WF d 46 44 [jP 93, jI v1, jP a2, jP a3, jI (w32 (v4 + 1)), jI (tkP T i : Int), jP p6, jI (ck (tkK T i40))] [] (wi h37 37 4 ((i40 + 1 : Nat) : Int)) Q)) ∧ (¬ tkK T i40 = 142 → (tkK T i40 = 143 → (Ly p (nw (wi h37 37 4 ((i40 + 1 : Nat) : Int)) 6 4) → TokR T e (i40 + 1) (nw (wi h37 37 4 ((i40 + 1 : Nat) : Int)) 6 4) → ∃ h47, jE d 29 [jP (jx (wi h37 37 4 ((i40 + 1 : Nat) : Int))), jI 0] (nw (wi h37 37 4 ((i40 + 1 : Nat) : Int)) 6 4) none h47 ∧ Ly p h47 ∧ ∃ i50, TokR T e i50 h47 ∧ jt h47 a3 = 6 ∧ NF ≤ a3 ∧ jt (wr h47 a3 3 (jx (wi h37 37 4 ((i40 + 1 : Nat) : Int)))) a3 = 6 ∧ (Ly p (wr h47 a3 3 (jx (wi h37 37 4 ((i40 + 1 : Nat) : Int)))) → TokR T e i50 (wr h47 a3 3 (jx (wi h37 37 4 ((i40 + 1 : Nat) : Int)))) → WF d 46 44 [jP 93, jI v1, jP a2, jP (jr (wr h47 a3 3 (jx (wi h37 37 4 ((i40 + 1 : Nat) : Int)))) a3 3), jI (w32 (v4 + 1)), jI (tkP T i : Int), jP p6, jI (ck (tkK T i40))] [] (wr h47 a3 3 (jx (wi h37 37 4 ((i40 + 1 : Nat) : Int)))) Q))) ∧ (¬ tkK T i40 = 143 → (tkK T i40 = 145 → (Ly p (nw (wi h37 37 4 ((i40 + 1 : Nat) : Int)) 6 4) → TokR T e (i40 + 1) (nw (wi h37 37 4 ((i40 + 1 : Nat) : Int)) 6 4) → ∃ h58, jE d 29 [jP (jx (wi h37 37 4 ((i40 + 1 : Nat) : Int))), jI 1] (nw (wi h37 37 4 ((i40 + 1 : Nat) : Int)) 6 4) none h58 ∧ Ly p h58 ∧ ∃ i61, TokR T e i61 h58 ∧ jt h58 a3 = 6 ∧ NF ≤ a3 ∧ jt (wr h58 a3 3 (jx (wi h37 37 4 ((i40 + 1 : Nat) : Int)))) a3 = 6 ∧ (Ly p (wr h58 a3 3 (jx (wi h37 37 4 ((i40 + 1 : Nat) : Int)))) → TokR T e i61 (wr h58 a3 3 (jx (wi h37 37 4 ((i40 + 1 : Nat) : Int)))) → WF d 46 44 [jP 93, jI v1, jP a2, jP (jr (wr h58 a3 3 (jx (wi h37 37 4 ((i40 + 1 : Nat) : Int)))) a3 3), jI (w32 (v4 + 1)), jI (tkP T i : Int), jP p6, jI (ck (tkK T i40))] [] (wr h58 a3 3 (jx (wi h37 37 4 ((i40 + 1 : Nat) : Int)))) Q))) ∧ (¬ tkK T i40 = 145 → Q (some (jP a2)) h37)))) ∧ (¬ (jr h1 a3 2) = 0 → (0 ≤ (tkP T i : Int) ∧ (tkP T i : Int) ≤ 1000) ∧ (Ly p (wi h1 37 5 (-10 - (tkP T i : Int))) → TokR T e i4 (wi h1 37 5 (-10 - (tkP T i : Int))) → Q (some (jP 0)) (wi h1 37 5 (-10 - (tkP T i : Int))))))) ∧ (p6 = 0 → Q (some (jP 0)) h1))) : WF d 46 44 [jP 93, jI v1, jP a2, jP a3, jI v4, z5, z6, z7] [] h Q := by
  refine b_46_44 ?_
  refine ⟨fun c75 => ?_, fun c75 => ?_⟩
  · have H := H.1 c75
    refine ⟨(Ly.t93 L :), ?_⟩
    rw [show jr h 93 0 = 37 from (Ly.r93_0 L :)]
    refine ⟨(Ly.t37 L :), ?_⟩
    refine ⟨_, _, t_76 (d := d) (by omega) L K, ?_⟩
    refine b_46_195 ?_
    exact H (Ly.wi L (a := 37) (k := 5) (x := -10 - (tkP T i : Int)) (by decide)) (TokR.flt K)
  · have H := H.2 c75
    refine ⟨(Ly.t93 L :), ?_⟩
    rw [show jr h 93 0 = 37 from (Ly.r93_0 L :)]
    refine ⟨(Ly.t37 L :), ?_⟩
    refine ⟨_, _, t_71 (d := d) (by omega) L K, ?_⟩
    refine b_46_61 ?_
    refine ⟨(Ly.t93 L :), ?_⟩
    obtain ⟨p6, h1, e3, L2, i4, K5, H⟩ := H
    refine ⟨p6, h1, e3, ?_⟩
    refine b_46_68 ?_
    obtain ⟨z73, H⟩ := H
    refine ⟨z73, fun c74 => ?_, fun c74 => ?_⟩
    · have H := H.1 c74
      obtain ⟨z72, H⟩ := H
      refine ⟨z72, ?_⟩
      refine ⟨fun c71 => ?_, fun c71 => ?_⟩
      · have H := H.1 c71
        obtain ⟨z36, H⟩ := H
        refine ⟨z36, ?_⟩
        obtain ⟨h7, e9, L8, i10, K11, H⟩ := H
        refine ⟨h7, e9, ?_⟩
        refine b_46_107 ?_
        refine ⟨(Ly.t93 L8 :), ?_⟩
        rw [show jr h7 93 0 = 37 from (Ly.r93_0 L8 :)]
        refine ⟨(Ly.t37 L8 :), ?_⟩
        refine ⟨_, _, t_70 (d := d) (by omega) L8 K11, ?_⟩
        refine b_46_116 ?_
        rw [show (ck (tkK T i10) = 42) = (tkK T i10 = 142) from TokR.ckE K11 142 rfl]
        refine ⟨fun c12 => ?_, fun c12 => ?_⟩
        · have H := H.1 c12
          refine ⟨(Ly.t93 L8 :), ?_⟩
          rw [show jr h7 93 0 = 37 from (Ly.r93_0 L8 :)]
          refine ⟨(Ly.t37 L8 :), ?_⟩
          refine ⟨_, t_74 (d := d) (by omega) L8 K11 (ns c12 (by decide)), ?_⟩
          refine b_46_146 ?_
          rw [show (ck (tkK T i10) = 42) = (tkK T i10 = 142) from TokR.ckE K11 142 rfl]
          refine ⟨fun _ => ?_, fun c => absurd c12 c⟩
          refine b_46_181 ?_
          exact H (Ly.wi L8 (a := 37) (k := 4) (x := ((i10 + 1 : Nat) : Int)) (by decide)) (TokR.adv K11 (ns c12 (by decide)))
        · have H := H.2 c12
          rw [show (ck (tkK T i10) = 43) = (tkK T i10 = 143) from TokR.ckE K11 143 rfl]
          refine ⟨fun c14 => ?_, fun c14 => ?_⟩
          · have H := H.1 c14
            refine ⟨(Ly.t93 L8 :), ?_⟩
            rw [show jr h7 93 0 = 37 from (Ly.r93_0 L8 :)]
            refine ⟨(Ly.t37 L8 :), ?_⟩
            refine ⟨_, t_74 (d := d) (by omega) L8 K11 (ns c14 (by decide)), ?_⟩
            refine b_46_146 ?_
            rw [show (ck (tkK T i10) = 42) = (tkK T i10 = 142) from TokR.ckE K11 142 rfl]
            refine ⟨fun c => absurd c (show ¬ tkK T i10 = 142 from fun c => absurd (Eq.trans (Eq.symm c14) c) (by decide)), fun _ => ?_⟩
            rw [show (ck (tkK T i10) = 45) = (tkK T i10 = 145) from TokR.ckE K11 145 rfl]
            refine ⟨fun _ => ?_, fun c => absurd (Decidable.not_not.mp c) (show ¬ tkK T i10 = 145 from fun c => absurd (Eq.trans (Eq.symm c14) c) (by decide))⟩
            refine ⟨Nat.le_trans (by decide) (Ly.nx (Ly.wi L8 (a := 37) (k := 4) (x := ((i10 + 1 : Nat) : Int)) (by decide))), ?_⟩
            have H := H (Ly.nw (Ly.wi L8 (a := 37) (k := 4) (x := ((i10 + 1 : Nat) : Int)) (by decide)) (t := 6) (n := 4)) (TokR.snw (TokR.adv K11 (ns c14 (by decide))) (Ly.wi L8 (a := 37) (k := 4) (x := ((i10 + 1 : Nat) : Int)) (by decide)) (t := 6) (n := 4))
            obtain ⟨h17, e19, L18, i20, K21, H⟩ := H
            refine ⟨h17, e19, ?_⟩
            obtain ⟨z24, H⟩ := H
            refine ⟨z24, ?_⟩
            obtain ⟨z22, H⟩ := H
            refine b_46_176 ?_
            obtain ⟨z23, H⟩ := H
            refine ⟨z23, ?_⟩
            refine b_46_181 ?_
            exact H (Ly.wr L18 (a := a3) (k := 3) (b := jx (wi h7 37 4 ((i10 + 1 : Nat) : Int))) (Or.inl z22)) (TokR.swr K21 (a := a3) (k := 3) (x := jx (wi h7 37 4 ((i10 + 1 : Nat) : Int))))
          · have H := H.2 c14
            rw [show (ck (tkK T i10) = 45) = (tkK T i10 = 145) from TokR.ckE K11 145 rfl]
            refine ⟨fun c25 => ?_, fun c25 => ?_⟩
            · have H := H.1 c25
              refine ⟨(Ly.t93 L8 :), ?_⟩
              rw [show jr h7 93 0 = 37 from (Ly.r93_0 L8 :)]
              refine ⟨(Ly.t37 L8 :), ?_⟩
              refine ⟨_, t_74 (d := d) (by omega) L8 K11 (ns c25 (by decide)), ?_⟩
              refine b_46_146 ?_
              rw [show (ck (tkK T i10) = 42) = (tkK T i10 = 142) from TokR.ckE K11 142 rfl]
              refine ⟨fun c => absurd c (show ¬ tkK T i10 = 142 from fun c => absurd (Eq.trans (Eq.symm c25) c) (by decide)), fun _ => ?_⟩
              rw [show (ck (tkK T i10) = 45) = (tkK T i10 = 145) from TokR.ckE K11 145 rfl]
              refine ⟨fun c => absurd c25 c, fun _ => ?_⟩
              refine ⟨Nat.le_trans (by decide) (Ly.nx (Ly.wi L8 (a := 37) (k := 4) (x := ((i10 + 1 : Nat) : Int)) (by decide))), ?_⟩
              have H := H (Ly.nw (Ly.wi L8 (a := 37) (k := 4) (x := ((i10 + 1 : Nat) : Int)) (by decide)) (t := 6) (n := 4)) (TokR.snw (TokR.adv K11 (ns c25 (by decide))) (Ly.wi L8 (a := 37) (k := 4) (x := ((i10 + 1 : Nat) : Int)) (by decide)) (t := 6) (n := 4))
              obtain ⟨h28, e30, L29, i31, K32, H⟩ := H
              refine ⟨h28, e30, ?_⟩
              obtain ⟨z35, H⟩ := H
              refine ⟨z35, ?_⟩
              obtain ⟨z33, H⟩ := H
              refine b_46_176 ?_
              obtain ⟨z34, H⟩ := H
              refine ⟨z34, ?_⟩
              refine b_46_181 ?_
              exact H (Ly.wr L29 (a := a3) (k := 3) (b := jx (wi h7 37 4 ((i10 + 1 : Nat) : Int))) (Or.inl z33)) (TokR.swr K32 (a := a3) (k := 3) (x := jx (wi h7 37 4 ((i10 + 1 : Nat) : Int))))
            · have H := H.2 c25
              exact H
      · have H := H.2 c71
        obtain ⟨z70, H⟩ := H
        refine ⟨z70, ?_⟩
        obtain ⟨z68, H⟩ := H
        refine ⟨z68, fun c69 => ?_, fun c69 => ?_⟩
        · have H := H.1 c69
          obtain ⟨z66, H⟩ := H
          refine ⟨z66, ?_⟩
          obtain ⟨h37, e39, L38, i40, K41, H⟩ := H
          refine ⟨h37, e39, ?_⟩
          refine b_46_107 ?_
          refine ⟨(Ly.t93 L38 :), ?_⟩
          rw [show jr h37 93 0 = 37 from (Ly.r93_0 L38 :)]
          refine ⟨(Ly.t37 L38 :), ?_⟩
          refine ⟨_, _, t_70 (d := d) (by omega) L38 K41, ?_⟩
          refine b_46_116 ?_
          rw [show (ck (tkK T i40) = 42) = (tkK T i40 = 142) from TokR.ckE K41 142 rfl]
          refine ⟨fun c42 => ?_, fun c42 => ?_⟩
          · have H := H.1 c42
            refine ⟨(Ly.t93 L38 :), ?_⟩
            rw [show jr h37 93 0 = 37 from (Ly.r93_0 L38 :)]
            refine ⟨(Ly.t37 L38 :), ?_⟩
            refine ⟨_, t_74 (d := d) (by omega) L38 K41 (ns c42 (by decide)), ?_⟩
            refine b_46_146 ?_
            rw [show (ck (tkK T i40) = 42) = (tkK T i40 = 142) from TokR.ckE K41 142 rfl]
            refine ⟨fun _ => ?_, fun c => absurd c42 c⟩
            refine b_46_181 ?_
            exact H (Ly.wi L38 (a := 37) (k := 4) (x := ((i40 + 1 : Nat) : Int)) (by decide)) (TokR.adv K41 (ns c42 (by decide)))
          · have H := H.2 c42
            rw [show (ck (tkK T i40) = 43) = (tkK T i40 = 143) from TokR.ckE K41 143 rfl]
            refine ⟨fun c44 => ?_, fun c44 => ?_⟩
            · have H := H.1 c44
              refine ⟨(Ly.t93 L38 :), ?_⟩
              rw [show jr h37 93 0 = 37 from (Ly.r93_0 L38 :)]
              refine ⟨(Ly.t37 L38 :), ?_⟩
              refine ⟨_, t_74 (d := d) (by omega) L38 K41 (ns c44 (by decide)), ?_⟩
              refine b_46_146 ?_
              rw [show (ck (tkK T i40) = 42) = (tkK T i40 = 142) from TokR.ckE K41 142 rfl]
              refine ⟨fun c => absurd c (show ¬ tkK T i40 = 142 from fun c => absurd (Eq.trans (Eq.symm c44) c) (by decide)), fun _ => ?_⟩
              rw [show (ck (tkK T i40) = 45) = (tkK T i40 = 145) from TokR.ckE K41 145 rfl]
              refine ⟨fun _ => ?_, fun c => absurd (Decidable.not_not.mp c) (show ¬ tkK T i40 = 145 from fun c => absurd (Eq.trans (Eq.symm c44) c) (by decide))⟩
              refine ⟨Nat.le_trans (by decide) (Ly.nx (Ly.wi L38 (a := 37) (k := 4) (x := ((i40 + 1 : Nat) : Int)) (by decide))), ?_⟩
              have H := H (Ly.nw (Ly.wi L38 (a := 37) (k := 4) (x := ((i40 + 1 : Nat) : Int)) (by decide)) (t := 6) (n := 4)) (TokR.snw (TokR.adv K41 (ns c44 (by decide))) (Ly.wi L38 (a := 37) (k := 4) (x := ((i40 + 1 : Nat) : Int)) (by decide)) (t := 6) (n := 4))
              obtain ⟨h47, e49, L48, i50, K51, H⟩ := H
              refine ⟨h47, e49, ?_⟩
              obtain ⟨z54, H⟩ := H
              refine ⟨z54, ?_⟩
              obtain ⟨z52, H⟩ := H
              refine b_46_176 ?_
              obtain ⟨z53, H⟩ := H
              refine ⟨z53, ?_⟩
              refine b_46_181 ?_
              exact H (Ly.wr L48 (a := a3) (k := 3) (b := jx (wi h37 37 4 ((i40 + 1 : Nat) : Int))) (Or.inl z52)) (TokR.swr K51 (a := a3) (k := 3) (x := jx (wi h37 37 4 ((i40 + 1 : Nat) : Int))))
            · have H := H.2 c44
              rw [show (ck (tkK T i40) = 45) = (tkK T i40 = 145) from TokR.ckE K41 145 rfl]
              refine ⟨fun c55 => ?_, fun c55 => ?_⟩
              · have H := H.1 c55
                refine ⟨(Ly.t93 L38 :), ?_⟩
                rw [show jr h37 93 0 = 37 from (Ly.r93_0 L38 :)]
                refine ⟨(Ly.t37 L38 :), ?_⟩
                refine ⟨_, t_74 (d := d) (by omega) L38 K41 (ns c55 (by decide)), ?_⟩
                refine b_46_146 ?_
                rw [show (ck (tkK T i40) = 42) = (tkK T i40 = 142) from TokR.ckE K41 142 rfl]
                refine ⟨fun c => absurd c (show ¬ tkK T i40 = 142 from fun c => absurd (Eq.trans (Eq.symm c55) c) (by decide)), fun _ => ?_⟩
                rw [show (ck (tkK T i40) = 45) = (tkK T i40 = 145) from TokR.ckE K41 145 rfl]
                refine ⟨fun c => absurd c55 c, fun _ => ?_⟩
                refine ⟨Nat.le_trans (by decide) (Ly.nx (Ly.wi L38 (a := 37) (k := 4) (x := ((i40 + 1 : Nat) : Int)) (by decide))), ?_⟩
                have H := H (Ly.nw (Ly.wi L38 (a := 37) (k := 4) (x := ((i40 + 1 : Nat) : Int)) (by decide)) (t := 6) (n := 4)) (TokR.snw (TokR.adv K41 (ns c55 (by decide))) (Ly.wi L38 (a := 37) (k := 4) (x := ((i40 + 1 : Nat) : Int)) (by decide)) (t := 6) (n := 4))
                obtain ⟨h58, e60, L59, i61, K62, H⟩ := H
                refine ⟨h58, e60, ?_⟩
                obtain ⟨z65, H⟩ := H
                refine ⟨z65, ?_⟩
                obtain ⟨z63, H⟩ := H
                refine b_46_176 ?_
                obtain ⟨z64, H⟩ := H
                refine ⟨z64, ?_⟩
                refine b_46_181 ?_
                exact H (Ly.wr L59 (a := a3) (k := 3) (b := jx (wi h37 37 4 ((i40 + 1 : Nat) : Int))) (Or.inl z63)) (TokR.swr K62 (a := a3) (k := 3) (x := jx (wi h37 37 4 ((i40 + 1 : Nat) : Int))))
              · have H := H.2 c55
                exact H
        · have H := H.2 c69
          refine ⟨(Ly.t93 L2 :), ?_⟩
          rw [show jr h1 93 0 = 37 from (Ly.r93_0 L2 :)]
          refine ⟨(Ly.t37 L2 :), ?_⟩
          obtain ⟨z67, H⟩ := H
          refine ⟨_, m_77 (d := d) (by omega) L2 z67, ?_⟩
          refine b_46_99 ?_
          exact H (Ly.wi L2 (a := 37) (k := 5) (x := -10 - (tkP T i : Int)) (by decide)) (TokR.flt K5)
    · have H := H.2 c74
      exact H
set_option maxRecDepth 100000 in
theorem c_49_0 {p : Lpar} {d : Nat} {h : AH} {Q : Option AV → AH → Prop} {kc : Int} (hkc : cknL.any (fun e => e.1 == kc) = true) (hk3 : ¬ (kc = 3 ∨ kc = 4)) {v2 : Int} (hd : 9 ≤ d) (L : Ly p h) {T : Txt} {e i : Nat} (K : TokR T e i h) (H : (tkK T i = kc → (Ly p (wi h 37 4 ((i + 1 : Nat) : Int)) → TokR T e (i + 1) (wi h 37 4 ((i + 1 : Nat) : Int)) → ∃ x7 h2, jE d 26 [jP (pT p + 1), jI 4, jI (nmT T (i + 1))] (wi h 37 4 ((i + 1 : Nat) : Int)) (some (jI x7)) h2 ∧ Ly p h2 ∧ ∃ i5, TokR T e i5 h2 ∧ (x7 = (-1) → (tkK T i5 = 2 → ∃ x14 h9, jE d 55 [jP (pT p + 5), jI v2, jI (tkW T i5)] h2 (some (jI x14)) h9 ∧ Ly p h9 ∧ ∃ i12, TokR T e i12 h9 ∧ (x14 = (-1) → (Ly p (wi h9 37 5 (-10 - (tkP T i12 : Int))) → TokR T e i12 (wi h9 37 5 (-10 - (tkP T i12 : Int))) → Q (some (jI (-1000))) (wi h9 37 5 (-10 - (tkP T i12 : Int))))) ∧ (¬ (x14 = (-1)) → ((tkW T i12) = (-1000) → (Ly p (wi h9 37 5 (-10 - (tkP T i12 : Int))) → TokR T e i12 (wi h9 37 5 (-10 - (tkP T i12 : Int))) → Q (some (jI (tkW T i12))) (wi h9 37 5 (-10 - (tkP T i12 : Int))))) ∧ (¬ (tkW T i12) = (-1000) → ¬ (tkK T i12 = 3 ∨ tkK T i12 = 4) ∧ (Ly p (wi h9 37 4 ((i12 + 1 : Nat) : Int)) → TokR T e (i12 + 1) (wi h9 37 4 ((i12 + 1 : Nat) : Int)) → Q (some (jI (tkW T i12))) (wi h9 37 4 ((i12 + 1 : Nat) : Int)))))) ∧ (¬ tkK T i5 = 2 → (Ly p (wi h2 37 5 (-10 - (tkP T i5 : Int))) → TokR T e i5 (wi h2 37 5 (-10 - (tkP T i5 : Int))) → Q (some (jI (-1000))) (wi h2 37 5 (-10 - (tkP T i5 : Int)))))) ∧ (¬ (x7 = (-1)) → ∃ x23 h18, jE d 44 [jP 93, jI x7] h2 (some (jI x23)) h18 ∧ Ly p h18 ∧ ∃ i21, TokR T e i21 h18 ∧ ∃ x29 h24, jE d 56 [jP (pT p + 5), jI x23, jI v2] h18 (some (jI x29)) h24 ∧ Ly p h24 ∧ ∃ i27, TokR T e i27 h24 ∧ (x29 = (0 : Int) → (tkK T i27 = 2 → ∃ x36 h31, jE d 55 [jP (pT p + 5), jI v2, jI (tkW T i27)] h24 (some (jI x36)) h31 ∧ Ly p h31 ∧ ∃ i34, TokR T e i34 h31 ∧ (x36 = (-1) → (Ly p (wi h31 37 5 (-10 - (tkP T i34 : Int))) → TokR T e i34 (wi h31 37 5 (-10 - (tkP T i34 : Int))) → Q (some (jI (-1000))) (wi h31 37 5 (-10 - (tkP T i34 : Int))))) ∧ (¬ (x36 = (-1)) → ((tkW T i34) = (-1000) → (Ly p (wi h31 37 5 (-10 - (tkP T i34 : Int))) → TokR T e i34 (wi h31 37 5 (-10 - (tkP T i34 : Int))) → Q (some (jI (tkW T i34))) (wi h31 37 5 (-10 - (tkP T i34 : Int))))) ∧ (¬ (tkW T i34) = (-1000) → ¬ (tkK T i34 = 3 ∨ tkK T i34 = 4) ∧ (Ly p (wi h31 37 4 ((i34 + 1 : Nat) : Int)) → TokR T e (i34 + 1) (wi h31 37 4 ((i34 + 1 : Nat) : Int)) → Q (some (jI (tkW T i34))) (wi h31 37 4 ((i34 + 1 : Nat) : Int)))))) ∧ (¬ tkK T i27 = 2 → (Ly p (wi h24 37 5 (-10 - (tkP T i27 : Int))) → TokR T e i27 (wi h24 37 5 (-10 - (tkP T i27 : Int))) → Q (some (jI (-1000))) (wi h24 37 5 (-10 - (tkP T i27 : Int)))))) ∧ (¬ (x29 = (0 : Int)) → (tkK T i27 = 2 → ∃ x46 h41, jE d 55 [jP (pT p + 5), jI v2, jI (tkW T i27)] h24 (some (jI x46)) h41 ∧ Ly p h41 ∧ ∃ i44, TokR T e i44 h41 ∧ (x46 = (-1) → ((jxor x7 (-1)) = (-1000) → (Ly p (wi h41 37 5 (-10 - (tkP T i44 : Int))) → TokR T e i44 (wi h41 37 5 (-10 - (tkP T i44 : Int))) → Q (some (jI (jxor x7 (-1)))) (wi h41 37 5 (-10 - (tkP T i44 : Int))))) ∧ (¬ (jxor x7 (-1)) = (-1000) → ¬ (tkK T i44 = 3 ∨ tkK T i44 = 4) ∧ (Ly p (wi h41 37 4 ((i44 + 1 : Nat) : Int)) → TokR T e (i44 + 1) (wi h41 37 4 ((i44 + 1 : Nat) : Int)) → Q (some (jI (jxor x7 (-1)))) (wi h41 37 4 ((i44 + 1 : Nat) : Int))))) ∧ (¬ (x46 = (-1)) → ((tkW T i44) = (-1000) → (Ly p (wi h41 37 5 (-10 - (tkP T i44 : Int))) → TokR T e i44 (wi h41 37 5 (-10 - (tkP T i44 : Int))) → Q (some (jI (tkW T i44))) (wi h41 37 5 (-10 - (tkP T i44 : Int))))) ∧ (¬ (tkW T i44) = (-1000) → ¬ (tkK T i44 = 3 ∨ tkK T i44 = 4) ∧ (Ly p (wi h41 37 4 ((i44 + 1 : Nat) : Int)) → TokR T e (i44 + 1) (wi h41 37 4 ((i44 + 1 : Nat) : Int)) → Q (some (jI (tkW T i44))) (wi h41 37 4 ((i44 + 1 : Nat) : Int)))))) ∧ (¬ tkK T i27 = 2 → ((jxor x7 (-1)) = (-1000) → (Ly p (wi h24 37 5 (-10 - (tkP T i27 : Int))) → TokR T e i27 (wi h24 37 5 (-10 - (tkP T i27 : Int))) → Q (some (jI (jxor x7 (-1)))) (wi h24 37 5 (-10 - (tkP T i27 : Int))))) ∧ (¬ (jxor x7 (-1)) = (-1000) → ¬ (tkK T i27 = 3 ∨ tkK T i27 = 4) ∧ (Ly p (wi h24 37 4 ((i27 + 1 : Nat) : Int)) → TokR T e (i27 + 1) (wi h24 37 4 ((i27 + 1 : Nat) : Int)) → Q (some (jI (jxor x7 (-1)))) (wi h24 37 4 ((i27 + 1 : Nat) : Int))))))))) ∧ (¬ tkK T i = kc → (Ly p (wi h 37 5 (-10 - (tkP T i : Int))) → TokR T e i (wi h 37 5 (-10 - (tkP T i : Int))) → Q (some (jI (-1000))) (wi h 37 5 (-10 - (tkP T i : Int)))))) : WF d 49 0 [jP 93, jI (ck kc), jI v2, jU, jU] [] h Q := by
  refine b_49_0 ?_
  refine ⟨(Ly.t93 L :), ?_⟩
  rw [show jr h 93 0 = 37 from (Ly.r93_0 L :)]
  refine ⟨(Ly.t37 L :), ?_⟩
  by_cases c1 : tkK T i = kc
  · have H := H.1 c1
    refine ⟨_, _, t_75y (d := d) (by omega) L K kc hkc c1 (by omega), ?_⟩
    refine ⟨fun _ => ?_, fun c => absurd (by decide) c⟩
    refine b_49_19 ?_
    refine ⟨(Ly.t93 L :), ?_⟩
    rw [show jr (wi h 37 4 ((i + 1 : Nat) : Int)) 93 1 = pT p from (Ly.r93_1 L :)]
    refine ⟨(Ly.dt0 L (Ly.iT L) :), ?_⟩
    rw [show jr (wi h 37 4 ((i + 1 : Nat) : Int)) (pT p) 0 = (pT p + 1) from (Ly.dr0_0 L (Ly.iT L) :)]
    refine ⟨(Ly.t93 L :), ?_⟩
    rw [show jr (wi h 37 4 ((i + 1 : Nat) : Int)) 93 0 = 37 from (Ly.r93_0 L :)]
    refine ⟨(Ly.t37 L :), ?_⟩
    refine ⟨_, _, t_73 (d := d) (by omega) (Ly.wi L (a := 37) (k := 4) (x := ((i + 1 : Nat) : Int)) (by decide)) (TokR.adv K (by omega)), ?_⟩
    refine ⟨(Ly.dt1 L (Ly.iT L) :), ?_⟩
    have H := H (Ly.wi L (a := 37) (k := 4) (x := ((i + 1 : Nat) : Int)) (by decide)) (TokR.adv K (by omega))
    obtain ⟨x7, h2, e4, L3, i5, K6, H⟩ := H
    refine ⟨x7, h2, e4, ?_⟩
    refine b_49_39 ?_
    refine ⟨fun c55 => ?_, fun c55 => ?_⟩
    · have H := H.1 c55
      refine b_49_70 ?_
      refine ⟨(Ly.t93 L3 :), ?_⟩
      rw [show jr h2 93 0 = 37 from (Ly.r93_0 L3 :)]
      refine ⟨(Ly.t37 L3 :), ?_⟩
      refine ⟨_, _, t_70 (d := d) (by omega) L3 K6, ?_⟩
      rw [show (ck (tkK T i5) = 4) = (tkK T i5 = 2) from TokR.ckE K6 2 rfl]
      refine ⟨fun c8 => ?_, fun c8 => ?_⟩
      · have H := H.2 c8
        refine b_49_111 ?_
        refine ⟨fun c => absurd c (by decide), fun _ => ?_⟩
        refine ⟨(Ly.t93 L3 :), ?_⟩
        rw [show jr h2 93 0 = 37 from (Ly.r93_0 L3 :)]
        refine ⟨(Ly.t37 L3 :), ?_⟩
        refine ⟨_, _, t_76 (d := d) (by omega) L3 K6, ?_⟩
        refine b_49_126 ?_
        refine b_49_136 ?_
        exact H (Ly.wi L3 (a := 37) (k := 5) (x := -10 - (tkP T i5 : Int)) (by decide)) (TokR.flt K6)
      · have c8 := Decidable.not_not.mp c8
        have H := H.1 c8
        refine ⟨(Ly.t93 L3 :), ?_⟩
        rw [show jr h2 93 1 = pT p from (Ly.r93_1 L3 :)]
        refine ⟨(Ly.dt0 L3 (Ly.iT L3) :), ?_⟩
        rw [show jr h2 (pT p) 1 = (pT p + 5) from (Ly.dr0_1 L3 (Ly.iT L3) :)]
        refine ⟨(Ly.t93 L3 :), ?_⟩
        rw [show jr h2 93 0 = 37 from (Ly.r93_0 L3 :)]
        refine ⟨(Ly.t37 L3 :), ?_⟩
        refine ⟨_, _, t_72 (d := d) (by omega) L3 K6, ?_⟩
        refine ⟨(Ly.dt5 L3 (Ly.iT L3) :), ?_⟩
        obtain ⟨x14, h9, e11, L10, i12, K13, H⟩ := H
        refine ⟨x14, h9, e11, ?_⟩
        refine ⟨fun c17 => ?_, fun c17 => ?_⟩
        · have H := H.1 c17
          refine b_49_111 ?_
          refine ⟨fun c => absurd c (by decide), fun _ => ?_⟩
          refine ⟨(Ly.t93 L10 :), ?_⟩
          rw [show jr h9 93 0 = 37 from (Ly.r93_0 L10 :)]
          refine ⟨(Ly.t37 L10 :), ?_⟩
          refine ⟨_, _, t_76 (d := d) (by omega) L10 K13, ?_⟩
          refine b_49_126 ?_
          refine b_49_136 ?_
          exact H (Ly.wi L10 (a := 37) (k := 5) (x := -10 - (tkP T i12 : Int)) (by decide)) (TokR.flt K13)
        · have H := H.2 c17
          refine ⟨(Ly.t93 L10 :), ?_⟩
          rw [show jr h9 93 0 = 37 from (Ly.r93_0 L10 :)]
          refine ⟨(Ly.t37 L10 :), ?_⟩
          refine ⟨_, _, t_72 (d := d) (by omega) L10 K13, ?_⟩
          refine b_49_111 ?_
          refine ⟨fun c16 => ?_, fun c16 => ?_⟩
          · have H := H.2 c16
            refine ⟨(Ly.t93 L10 :), ?_⟩
            rw [show jr h9 93 0 = 37 from (Ly.r93_0 L10 :)]
            refine ⟨(Ly.t37 L10 :), ?_⟩
            obtain ⟨z15, H⟩ := H
            refine ⟨_, t_74 (d := d) (by omega) L10 K13 z15, ?_⟩
            refine b_49_136 ?_
            exact H (Ly.wi L10 (a := 37) (k := 4) (x := ((i12 + 1 : Nat) : Int)) (by decide)) (TokR.adv K13 z15)
          · have c16 := Decidable.not_not.mp c16
            have H := H.1 c16
            refine ⟨(Ly.t93 L10 :), ?_⟩
            rw [show jr h9 93 0 = 37 from (Ly.r93_0 L10 :)]
            refine ⟨(Ly.t37 L10 :), ?_⟩
            refine ⟨_, _, t_76 (d := d) (by omega) L10 K13, ?_⟩
            refine b_49_126 ?_
            refine b_49_136 ?_
            exact H (Ly.wi L10 (a := 37) (k := 5) (x := -10 - (tkP T i12 : Int)) (by decide)) (TokR.flt K13)
    · have H := H.2 c55
      refine ⟨(Ly.t93 L3 :), ?_⟩
      rw [show jr h2 93 1 = pT p from (Ly.r93_1 L3 :)]
      refine ⟨(Ly.dt0 L3 (Ly.iT L3) :), ?_⟩
      rw [show jr h2 (pT p) 1 = (pT p + 5) from (Ly.dr0_1 L3 (Ly.iT L3) :)]
      refine ⟨(Ly.t93 L3 :), ?_⟩
      obtain ⟨x23, h18, e20, L19, i21, K22, H⟩ := H
      refine ⟨x23, h18, e20, ?_⟩
      refine ⟨(Ly.dt5 L19 (Ly.iT L19) :), ?_⟩
      obtain ⟨x29, h24, e26, L25, i27, K28, H⟩ := H
      refine ⟨x29, h24, e26, ?_⟩
      refine ⟨fun c54 => ?_, fun c54 => ?_⟩
      · have H := H.1 c54
        refine b_49_70 ?_
        refine ⟨(Ly.t93 L25 :), ?_⟩
        rw [show jr h24 93 0 = 37 from (Ly.r93_0 L25 :)]
        refine ⟨(Ly.t37 L25 :), ?_⟩
        refine ⟨_, _, t_70 (d := d) (by omega) L25 K28, ?_⟩
        rw [show (ck (tkK T i27) = 4) = (tkK T i27 = 2) from TokR.ckE K28 2 rfl]
        refine ⟨fun c30 => ?_, fun c30 => ?_⟩
        · have H := H.2 c30
          refine b_49_111 ?_
          refine ⟨fun c => absurd c (by decide), fun _ => ?_⟩
          refine ⟨(Ly.t93 L25 :), ?_⟩
          rw [show jr h24 93 0 = 37 from (Ly.r93_0 L25 :)]
          refine ⟨(Ly.t37 L25 :), ?_⟩
          refine ⟨_, _, t_76 (d := d) (by omega) L25 K28, ?_⟩
          refine b_49_126 ?_
          refine b_49_136 ?_
          exact H (Ly.wi L25 (a := 37) (k := 5) (x := -10 - (tkP T i27 : Int)) (by decide)) (TokR.flt K28)
        · have c30 := Decidable.not_not.mp c30
          have H := H.1 c30
          refine ⟨(Ly.t93 L25 :), ?_⟩
          rw [show jr h24 93 1 = pT p from (Ly.r93_1 L25 :)]
          refine ⟨(Ly.dt0 L25 (Ly.iT L25) :), ?_⟩
          rw [show jr h24 (pT p) 1 = (pT p + 5) from (Ly.dr0_1 L25 (Ly.iT L25) :)]
          refine ⟨(Ly.t93 L25 :), ?_⟩
          rw [show jr h24 93 0 = 37 from (Ly.r93_0 L25 :)]
          refine ⟨(Ly.t37 L25 :), ?_⟩
          refine ⟨_, _, t_72 (d := d) (by omega) L25 K28, ?_⟩
          refine ⟨(Ly.dt5 L25 (Ly.iT L25) :), ?_⟩
          obtain ⟨x36, h31, e33, L32, i34, K35, H⟩ := H
          refine ⟨x36, h31, e33, ?_⟩
          refine ⟨fun c39 => ?_, fun c39 => ?_⟩
          · have H := H.1 c39
            refine b_49_111 ?_
            refine ⟨fun c => absurd c (by decide), fun _ => ?_⟩
            refine ⟨(Ly.t93 L32 :), ?_⟩
            rw [show jr h31 93 0 = 37 from (Ly.r93_0 L32 :)]
            refine ⟨(Ly.t37 L32 :), ?_⟩
            refine ⟨_, _, t_76 (d := d) (by omega) L32 K35, ?_⟩
            refine b_49_126 ?_
            refine b_49_136 ?_
            exact H (Ly.wi L32 (a := 37) (k := 5) (x := -10 - (tkP T i34 : Int)) (by decide)) (TokR.flt K35)
          · have H := H.2 c39
            refine ⟨(Ly.t93 L32 :), ?_⟩
            rw [show jr h31 93 0 = 37 from (Ly.r93_0 L32 :)]
            refine ⟨(Ly.t37 L32 :), ?_⟩
            refine ⟨_, _, t_72 (d := d) (by omega) L32 K35, ?_⟩
            refine b_49_111 ?_
            refine ⟨fun c38 => ?_, fun c38 => ?_⟩
            · have H := H.2 c38
              refine ⟨(Ly.t93 L32 :), ?_⟩
              rw [show jr h31 93 0 = 37 from (Ly.r93_0 L32 :)]
              refine ⟨(Ly.t37 L32 :), ?_⟩
              obtain ⟨z37, H⟩ := H
              refine ⟨_, t_74 (d := d) (by omega) L32 K35 z37, ?_⟩
              refine b_49_136 ?_
              exact H (Ly.wi L32 (a := 37) (k := 4) (x := ((i34 + 1 : Nat) : Int)) (by decide)) (TokR.adv K35 z37)
            · have c38 := Decidable.not_not.mp c38
              have H := H.1 c38
              refine ⟨(Ly.t93 L32 :), ?_⟩
              rw [show jr h31 93 0 = 37 from (Ly.r93_0 L32 :)]
              refine ⟨(Ly.t37 L32 :), ?_⟩
              refine ⟨_, _, t_76 (d := d) (by omega) L32 K35, ?_⟩
              refine b_49_126 ?_
              refine b_49_136 ?_
              exact H (Ly.wi L32 (a := 37) (k := 5) (x := -10 - (tkP T i34 : Int)) (by decide)) (TokR.flt K35)
      · have H := H.2 c54
        refine b_49_70 ?_
        refine ⟨(Ly.t93 L25 :), ?_⟩
        rw [show jr h24 93 0 = 37 from (Ly.r93_0 L25 :)]
        refine ⟨(Ly.t37 L25 :), ?_⟩
        refine ⟨_, _, t_70 (d := d) (by omega) L25 K28, ?_⟩
        rw [show (ck (tkK T i27) = 4) = (tkK T i27 = 2) from TokR.ckE K28 2 rfl]
        refine ⟨fun c40 => ?_, fun c40 => ?_⟩
        · have H := H.2 c40
          refine b_49_111 ?_
          refine ⟨fun c53 => ?_, fun c53 => ?_⟩
          · have H := H.2 c53
            refine ⟨(Ly.t93 L25 :), ?_⟩
            rw [show jr h24 93 0 = 37 from (Ly.r93_0 L25 :)]
            refine ⟨(Ly.t37 L25 :), ?_⟩
            obtain ⟨z52, H⟩ := H
            refine ⟨_, t_74 (d := d) (by omega) L25 K28 z52, ?_⟩
            refine b_49_136 ?_
            exact H (Ly.wi L25 (a := 37) (k := 4) (x := ((i27 + 1 : Nat) : Int)) (by decide)) (TokR.adv K28 z52)
          · have c53 := Decidable.not_not.mp c53
            have H := H.1 c53
            refine ⟨(Ly.t93 L25 :), ?_⟩
            rw [show jr h24 93 0 = 37 from (Ly.r93_0 L25 :)]
            refine ⟨(Ly.t37 L25 :), ?_⟩
            refine ⟨_, _, t_76 (d := d) (by omega) L25 K28, ?_⟩
            refine b_49_126 ?_
            refine b_49_136 ?_
            exact H (Ly.wi L25 (a := 37) (k := 5) (x := -10 - (tkP T i27 : Int)) (by decide)) (TokR.flt K28)
        · have c40 := Decidable.not_not.mp c40
          have H := H.1 c40
          refine ⟨(Ly.t93 L25 :), ?_⟩
          rw [show jr h24 93 1 = pT p from (Ly.r93_1 L25 :)]
          refine ⟨(Ly.dt0 L25 (Ly.iT L25) :), ?_⟩
          rw [show jr h24 (pT p) 1 = (pT p + 5) from (Ly.dr0_1 L25 (Ly.iT L25) :)]
          refine ⟨(Ly.t93 L25 :), ?_⟩
          rw [show jr h24 93 0 = 37 from (Ly.r93_0 L25 :)]
          refine ⟨(Ly.t37 L25 :), ?_⟩
          refine ⟨_, _, t_72 (d := d) (by omega) L25 K28, ?_⟩
          refine ⟨(Ly.dt5 L25 (Ly.iT L25) :), ?_⟩
          obtain ⟨x46, h41, e43, L42, i44, K45, H⟩ := H
          refine ⟨x46, h41, e43, ?_⟩
          refine ⟨fun c51 => ?_, fun c51 => ?_⟩
          · have H := H.1 c51
            refine b_49_111 ?_
            refine ⟨fun c48 => ?_, fun c48 => ?_⟩
            · have H := H.2 c48
              refine ⟨(Ly.t93 L42 :), ?_⟩
              rw [show jr h41 93 0 = 37 from (Ly.r93_0 L42 :)]
              refine ⟨(Ly.t37 L42 :), ?_⟩
              obtain ⟨z47, H⟩ := H
              refine ⟨_, t_74 (d := d) (by omega) L42 K45 z47, ?_⟩
              refine b_49_136 ?_
              exact H (Ly.wi L42 (a := 37) (k := 4) (x := ((i44 + 1 : Nat) : Int)) (by decide)) (TokR.adv K45 z47)
            · have c48 := Decidable.not_not.mp c48
              have H := H.1 c48
              refine ⟨(Ly.t93 L42 :), ?_⟩
              rw [show jr h41 93 0 = 37 from (Ly.r93_0 L42 :)]
              refine ⟨(Ly.t37 L42 :), ?_⟩
              refine ⟨_, _, t_76 (d := d) (by omega) L42 K45, ?_⟩
              refine b_49_126 ?_
              refine b_49_136 ?_
              exact H (Ly.wi L42 (a := 37) (k := 5) (x := -10 - (tkP T i44 : Int)) (by decide)) (TokR.flt K45)
          · have H := H.2 c51
            refine ⟨(Ly.t93 L42 :), ?_⟩
            rw [show jr h41 93 0 = 37 from (Ly.r93_0 L42 :)]
            refine ⟨(Ly.t37 L42 :), ?_⟩
            refine ⟨_, _, t_72 (d := d) (by omega) L42 K45, ?_⟩
            refine b_49_111 ?_
            refine ⟨fun c50 => ?_, fun c50 => ?_⟩
            · have H := H.2 c50
              refine ⟨(Ly.t93 L42 :), ?_⟩
              rw [show jr h41 93 0 = 37 from (Ly.r93_0 L42 :)]
              refine ⟨(Ly.t37 L42 :), ?_⟩
              obtain ⟨z49, H⟩ := H
              refine ⟨_, t_74 (d := d) (by omega) L42 K45 z49, ?_⟩
              refine b_49_136 ?_
              exact H (Ly.wi L42 (a := 37) (k := 4) (x := ((i44 + 1 : Nat) : Int)) (by decide)) (TokR.adv K45 z49)
            · have c50 := Decidable.not_not.mp c50
              have H := H.1 c50
              refine ⟨(Ly.t93 L42 :), ?_⟩
              rw [show jr h41 93 0 = 37 from (Ly.r93_0 L42 :)]
              refine ⟨(Ly.t37 L42 :), ?_⟩
              refine ⟨_, _, t_76 (d := d) (by omega) L42 K45, ?_⟩
              refine b_49_126 ?_
              refine b_49_136 ?_
              exact H (Ly.wi L42 (a := 37) (k := 5) (x := -10 - (tkP T i44 : Int)) (by decide)) (TokR.flt K45)
  · have H := H.2 c1
    refine ⟨_, _, t_75n (d := d) (by omega) L K kc hkc c1, ?_⟩
    refine ⟨fun c => absurd c (by decide), fun _ => ?_⟩
    exact H (Ly.wi L (a := 37) (k := 5) (x := -10 - (tkP T i : Int)) (by decide)) (TokR.flt K)
