-- needs: 20.num 21.lay 22.spec 23.va 24.leaf 25.tbls 26.thg 27.tok
set_option maxRecDepth 100000 in
theorem c_46_0 {p : Lpar} {d : Nat} {h : AH} {Q : Option AV → AH → Prop} {v1 : Int} (hd : 9 ≤ d) (L : Ly p h) {T : Txt} {e i : Nat} (K : TokR T e i h) (H : (tkK T i = 145 → (Ly p (nw h 6 4) → TokR T e i (nw h 6 4) → ∃ h10, jE d 29 [jP (jx h), jI 1] (nw h 6 4) none h10 ∧ Ly p h10 ∧ ∃ i13, TokR T e i13 h10 ∧ jt h10 (jx h) = 6 ∧ ((ji h10 (jx h) 0) = (0 : Int) → WF d 46 44 [jP 93, jI v1, jP (jx h), jP (jx h), jI 0, jU, jU, jU] [] h10 Q) ∧ (¬ ((ji h10 (jx h) 0) = (0 : Int)) → ¬ (tkK T i13 = 3 ∨ tkK T i13 = 4) ∧ (Ly p (wi h10 37 4 ((i13 + 1 : Nat) : Int)) → TokR T e (i13 + 1) (wi h10 37 4 ((i13 + 1 : Nat) : Int)) → WF d 46 44 [jP 93, jI v1, jP (jx h), jP (jx h), jI 0, jU, jU, jU] [] (wi h10 37 4 ((i13 + 1 : Nat) : Int)) Q)))) ∧ (¬ tkK T i = 145 → (Ly p (nw h 6 4) → TokR T e i (nw h 6 4) → ∃ h2, jE d 29 [jP (jx h), jI 0] (nw h 6 4) none h2 ∧ Ly p h2 ∧ ∃ i5, TokR T e i5 h2 ∧ jt h2 (jx h) = 6 ∧ ((ji h2 (jx h) 0) = (0 : Int) → WF d 46 44 [jP 93, jI v1, jP (jx h), jP (jx h), jI 0, jU, jU, jU] [] h2 Q) ∧ (¬ ((ji h2 (jx h) 0) = (0 : Int)) → ¬ (tkK T i5 = 3 ∨ tkK T i5 = 4) ∧ (Ly p (wi h2 37 4 ((i5 + 1 : Nat) : Int)) → TokR T e (i5 + 1) (wi h2 37 4 ((i5 + 1 : Nat) : Int)) → WF d 46 44 [jP 93, jI v1, jP (jx h), jP (jx h), jI 0, jU, jU, jU] [] (wi h2 37 4 ((i5 + 1 : Nat) : Int)) Q))))) : WF d 46 0 [jP 93, jI v1, jU, jU, jU, jU, jU, jU] [] h Q := by
  refine b_46_0 ?_
  refine ⟨(Ly.t93 (Ly.nw L (t := 6) (n := 4)) :), ?_⟩
  rw [show jr (nw h 6 4) 93 0 = 37 from (Ly.r93_0 (Ly.nw L (t := 6) (n := 4)) :)]
  refine ⟨(Ly.t37 (Ly.nw L (t := 6) (n := 4)) :), ?_⟩
  refine ⟨_, _, t_70 (d := d) (by omega) (Ly.nw L (t := 6) (n := 4)) (TokR.snw K L (t := 6) (n := 4)), ?_⟩
  rw [show (ck (tkK T i) = 45) = (tkK T i = 145) from TokR.ckE (TokR.snw K L (t := 6) (n := 4)) 145 rfl]
  refine ⟨fun c1 => ?_, fun c1 => ?_⟩
  · have H := H.2 c1
    refine ⟨Nat.le_trans (by decide) (Ly.nx L), ?_⟩
    have H := H (Ly.nw L (t := 6) (n := 4)) (TokR.snw K L (t := 6) (n := 4))
    obtain ⟨h2, e4, L3, i5, K6, H⟩ := H
    refine ⟨h2, e4, ?_⟩
    refine b_46_25 ?_
    obtain ⟨z9, H⟩ := H
    refine ⟨z9, ?_⟩
    refine ⟨fun c8 => ?_, fun c8 => ?_⟩
    · have H := H.1 c8
      refine b_46_39 ?_
      refine b_46_41 ?_
      exact H
    · have H := H.2 c8
      refine ⟨(Ly.t93 L3 :), ?_⟩
      rw [show jr h2 93 0 = 37 from (Ly.r93_0 L3 :)]
      refine ⟨(Ly.t37 L3 :), ?_⟩
      obtain ⟨z7, H⟩ := H
      refine ⟨_, t_74 (d := d) (by omega) L3 K6 z7, ?_⟩
      refine b_46_39 ?_
      refine b_46_41 ?_
      exact H (Ly.wi L3 (a := 37) (k := 4) (x := ((i5 + 1 : Nat) : Int)) (by decide)) (TokR.adv K6 z7)
  · have c1 := Decidable.not_not.mp c1
    have H := H.1 c1
    refine ⟨Nat.le_trans (by decide) (Ly.nx L), ?_⟩
    have H := H (Ly.nw L (t := 6) (n := 4)) (TokR.snw K L (t := 6) (n := 4))
    obtain ⟨h10, e12, L11, i13, K14, H⟩ := H
    refine ⟨h10, e12, ?_⟩
    refine b_46_25 ?_
    obtain ⟨z17, H⟩ := H
    refine ⟨z17, ?_⟩
    refine ⟨fun c16 => ?_, fun c16 => ?_⟩
    · have H := H.1 c16
      refine b_46_39 ?_
      refine b_46_41 ?_
      exact H
    · have H := H.2 c16
      refine ⟨(Ly.t93 L11 :), ?_⟩
      rw [show jr h10 93 0 = 37 from (Ly.r93_0 L11 :)]
      refine ⟨(Ly.t37 L11 :), ?_⟩
      obtain ⟨z15, H⟩ := H
      refine ⟨_, t_74 (d := d) (by omega) L11 K14 z15, ?_⟩
      refine b_46_39 ?_
      refine b_46_41 ?_
      exact H (Ly.wi L11 (a := 37) (k := 4) (x := ((i13 + 1 : Nat) : Int)) (by decide)) (TokR.adv K14 z15)
set_option maxRecDepth 100000 in
theorem c_46_44 {p : Lpar} {d : Nat} {h : AH} {Q : Option AV → AH → Prop} {v1 : Int} {a2 : Nat} {a3 : Nat} {v4 : Int} {z5 : AV} {z6 : AV} {z7 : AV} (hd : 9 ≤ d) (L : Ly p h) {T : Txt} {e i : Nat} (K : TokR T e i h) (H : (400 ≤ v4 → (Ly p (wi h 37 5 (-10 - (tkP T i : Int))) → TokR T e i (wi h 37 5 (-10 - (tkP T i : Int))) → Q (some (jP 0)) (wi h 37 5 (-10 - (tkP T i : Int))))) ∧ (¬ (400 ≤ v4) → ∃ p6 h1, jE d 47 [jP 93, jI v1] h (some (jP p6)) h1 ∧ Ly p h1 ∧ ∃ i4, TokR T e i4 h1 ∧ ¬ p6 = 1 ∧ (¬ p6 = 0 → jt h1 p6 = 3 ∧ ((ji h1 p6 5) = (0 : Int) → jt h1 a3 = 6 ∧ ∃ h7, jE d 30 [jP a3, jP p6] h1 none h7 ∧ Ly p h7 ∧ ∃ i10, TokR T e i10 h7 ∧ (tkK T i10 = 142 → (tkK T i10 = 142 → (Ly p (wi h7 37 4 ((i10 + 1 : Nat) : Int)) → TokR T e (i10 + 1) (wi h7 37 4 ((i10 + 1 : Nat) : Int)) → WF d 46 44 [jP 93, jI v1, jP a2, jP a3, jI (w32 (v4 + 1)), jI (tkP T i : Int), jP p6, jI (ck (tkK T i10))] [] (wi h7 37 4 ((i10 + 1 : Nat) : Int)) Q)) ∧ (¬ tkK T i10 = 142 → (tkK T i10 = 145 → (Ly p (nw (wi h7 37 4 ((i10 + 1 : Nat) : Int)) 6 4) → TokR T e (i10 + 1) (nw (wi h7 37 4 ((i10 + 1 : Nat) : Int)) 6 4) → ∃ h23, jE d 29 [jP (jx (wi h7 37 4 ((i10 + 1 : Nat) : Int))), jI 1] (nw (wi h7 37 4 ((i10 + 1 : Nat) : Int)) 6 4) none h23 ∧ Ly p h23 ∧ ∃ i26, TokR T e i26 h23 ∧ jt h23 a3 = 6 ∧ NF ≤ a3 ∧ jt (wr h23 a3 3 (jx (wi h7 37 4 ((i10 + 1 : Nat) : Int)))) a3 = 6 ∧ (Ly p (wr h23 a3 3 (jx (wi h7 37 4 ((i10 + 1 : Nat) : Int)))) → TokR T e i26 (wr h23 a3 3 (jx (wi h7 37 4 ((i10 + 1 : Nat) : Int)))) → WF d 46 44 [jP 93, jI v1, jP a2, jP (jr (wr h23 a3 3 (jx (wi h7 37 4 ((i10 + 1 : Nat) : Int)))) a3 3), jI (w32 (v4 + 1)), jI (tkP T i : Int), jP p6, jI (ck (tkK T i10))] [] (wr h23 a3 3 (jx (wi h7 37 4 ((i10 + 1 : Nat) : Int)))) Q))) ∧ (¬ tkK T i10 = 145 → (Ly p (nw (wi h7 37 4 ((i10 + 1 : Nat) : Int)) 6 4) → TokR T e (i10 + 1) (nw (wi h7 37 4 ((i10 + 1 : Nat) : Int)) 6 4) → ∃ h15, jE d 29 [jP (jx (wi h7 37 4 ((i10 + 1 : Nat) : Int))), jI 0] (nw (wi h7 37 4 ((i10 + 1 : Nat) : Int)) 6 4) none h15 ∧ Ly p h15 ∧ ∃ i18, TokR T e i18 h15 ∧ jt h15 a3 = 6 ∧ NF ≤ a3 ∧ jt (wr h15 a3 3 (jx (wi h7 37 4 ((i10 + 1 : Nat) : Int)))) a3 = 6 ∧ (Ly p (wr h15 a3 3 (jx (wi h7 37 4 ((i10 + 1 : Nat) : Int)))) → TokR T e i18 (wr h15 a3 3 (jx (wi h7 37 4 ((i10 + 1 : Nat) : Int)))) → WF d 46 44 [jP 93, jI v1, jP a2, jP (jr (wr h15 a3 3 (jx (wi h7 37 4 ((i10 + 1 : Nat) : Int)))) a3 3), jI (w32 (v4 + 1)), jI (tkP T i : Int), jP p6, jI (ck (tkK T i10))] [] (wr h15 a3 3 (jx (wi h7 37 4 ((i10 + 1 : Nat) : Int)))) Q))))) ∧ (¬ tkK T i10 = 142 → (tkK T i10 = 143 → (tkK T i10 = 142 → (Ly p (wi h7 37 4 ((i10 + 1 : Nat) : Int)) → TokR T e (i10 + 1) (wi h7 37 4 ((i10 + 1 : Nat) : Int)) → WF d 46 44 [jP 93, jI v1, jP a2, jP a3, jI (w32 (v4 + 1)), jI (tkP T i : Int), jP p6, jI (ck (tkK T i10))] [] (wi h7 37 4 ((i10 + 1 : Nat) : Int)) Q)) ∧ (¬ tkK T i10 = 142 → (tkK T i10 = 145 → (Ly p (nw (wi h7 37 4 ((i10 + 1 : Nat) : Int)) 6 4) → TokR T e (i10 + 1) (nw (wi h7 37 4 ((i10 + 1 : Nat) : Int)) 6 4) → ∃ h42, jE d 29 [jP (jx (wi h7 37 4 ((i10 + 1 : Nat) : Int))), jI 1] (nw (wi h7 37 4 ((i10 + 1 : Nat) : Int)) 6 4) none h42 ∧ Ly p h42 ∧ ∃ i45, TokR T e i45 h42 ∧ jt h42 a3 = 6 ∧ NF ≤ a3 ∧ jt (wr h42 a3 3 (jx (wi h7 37 4 ((i10 + 1 : Nat) : Int)))) a3 = 6 ∧ (Ly p (wr h42 a3 3 (jx (wi h7 37 4 ((i10 + 1 : Nat) : Int)))) → TokR T e i45 (wr h42 a3 3 (jx (wi h7 37 4 ((i10 + 1 : Nat) : Int)))) → WF d 46 44 [jP 93, jI v1, jP a2, jP (jr (wr h42 a3 3 (jx (wi h7 37 4 ((i10 + 1 : Nat) : Int)))) a3 3), jI (w32 (v4 + 1)), jI (tkP T i : Int), jP p6, jI (ck (tkK T i10))] [] (wr h42 a3 3 (jx (wi h7 37 4 ((i10 + 1 : Nat) : Int)))) Q))) ∧ (¬ tkK T i10 = 145 → (Ly p (nw (wi h7 37 4 ((i10 + 1 : Nat) : Int)) 6 4) → TokR T e (i10 + 1) (nw (wi h7 37 4 ((i10 + 1 : Nat) : Int)) 6 4) → ∃ h34, jE d 29 [jP (jx (wi h7 37 4 ((i10 + 1 : Nat) : Int))), jI 0] (nw (wi h7 37 4 ((i10 + 1 : Nat) : Int)) 6 4) none h34 ∧ Ly p h34 ∧ ∃ i37, TokR T e i37 h34 ∧ jt h34 a3 = 6 ∧ NF ≤ a3 ∧ jt (wr h34 a3 3 (jx (wi h7 37 4 ((i10 + 1 : Nat) : Int)))) a3 = 6 ∧ (Ly p (wr h34 a3 3 (jx (wi h7 37 4 ((i10 + 1 : Nat) : Int)))) → TokR T e i37 (wr h34 a3 3 (jx (wi h7 37 4 ((i10 + 1 : Nat) : Int)))) → WF d 46 44 [jP 93, jI v1, jP a2, jP (jr (wr h34 a3 3 (jx (wi h7 37 4 ((i10 + 1 : Nat) : Int)))) a3 3), jI (w32 (v4 + 1)), jI (tkP T i : Int), jP p6, jI (ck (tkK T i10))] [] (wr h34 a3 3 (jx (wi h7 37 4 ((i10 + 1 : Nat) : Int)))) Q))))) ∧ (¬ tkK T i10 = 143 → (tkK T i10 = 145 → (tkK T i10 = 142 → (Ly p (wi h7 37 4 ((i10 + 1 : Nat) : Int)) → TokR T e (i10 + 1) (wi h7 37 4 ((i10 + 1 : Nat) : Int)) → WF d 46 44 [jP 93, jI v1, jP a2, jP a3, jI (w32 (v4 + 1)), jI (tkP T i : Int), jP p6, jI (ck (tkK T i10))] [] (wi h7 37 4 ((i10 + 1 : Nat) : Int)) Q)) ∧ (¬ tkK T i10 = 142 → (tkK T i10 = 145 → (Ly p (nw (wi h7 37 4 ((i10 + 1 : Nat) : Int)) 6 4) → TokR T e (i10 + 1) (nw (wi h7 37 4 ((i10 + 1 : Nat) : Int)) 6 4) → ∃ h61, jE d 29 [jP (jx (wi h7 37 4 ((i10 + 1 : Nat) : Int))), jI 1] (nw (wi h7 37 4 ((i10 + 1 : Nat) : Int)) 6 4) none h61 ∧ Ly p h61 ∧ ∃ i64, TokR T e i64 h61 ∧ jt h61 a3 = 6 ∧ NF ≤ a3 ∧ jt (wr h61 a3 3 (jx (wi h7 37 4 ((i10 + 1 : Nat) : Int)))) a3 = 6 ∧ (Ly p (wr h61 a3 3 (jx (wi h7 37 4 ((i10 + 1 : Nat) : Int)))) → TokR T e i64 (wr h61 a3 3 (jx (wi h7 37 4 ((i10 + 1 : Nat) : Int)))) → WF d 46 44 [jP 93, jI v1, jP a2, jP (jr (wr h61 a3 3 (jx (wi h7 37 4 ((i10 + 1 : Nat) : Int)))) a3 3), jI (w32 (v4 + 1)), jI (tkP T i : Int), jP p6, jI (ck (tkK T i10))] [] (wr h61 a3 3 (jx (wi h7 37 4 ((i10 + 1 : Nat) : Int)))) Q))) ∧ (¬ tkK T i10 = 145 → (Ly p (nw (wi h7 37 4 ((i10 + 1 : Nat) : Int)) 6 4) → TokR T e (i10 + 1) (nw (wi h7 37 4 ((i10 + 1 : Nat) : Int)) 6 4) → ∃ h53, jE d 29 [jP (jx (wi h7 37 4 ((i10 + 1 : Nat) : Int))), jI 0] (nw (wi h7 37 4 ((i10 + 1 : Nat) : Int)) 6 4) none h53 ∧ Ly p h53 ∧ ∃ i56, TokR T e i56 h53 ∧ jt h53 a3 = 6 ∧ NF ≤ a3 ∧ jt (wr h53 a3 3 (jx (wi h7 37 4 ((i10 + 1 : Nat) : Int)))) a3 = 6 ∧ (Ly p (wr h53 a3 3 (jx (wi h7 37 4 ((i10 + 1 : Nat) : Int)))) → TokR T e i56 (wr h53 a3 3 (jx (wi h7 37 4 ((i10 + 1 : Nat) : Int)))) → WF d 46 44 [jP 93, jI v1, jP a2, jP (jr (wr h53 a3 3 (jx (wi h7 37 4 ((i10 + 1 : Nat) : Int)))) a3 3), jI (w32 (v4 + 1)), jI (tkP T i : Int), jP p6, jI (ck (tkK T i10))] [] (wr h53 a3 3 (jx (wi h7 37 4 ((i10 + 1 : Nat) : Int)))) Q))))) ∧ (¬ tkK T i10 = 145 → Q (some (jP a2)) h7)))) ∧ (¬ ((ji h1 p6 5) = (0 : Int)) → jt h1 a3 = 6 ∧ ¬ (jr h1 a3 2) = 1 ∧ ((jr h1 a3 2) = 0 → jt h1 a3 = 6 ∧ ∃ h70, jE d 30 [jP a3, jP p6] h1 none h70 ∧ Ly p h70 ∧ ∃ i73, TokR T e i73 h70 ∧ (tkK T i73 = 142 → (tkK T i73 = 142 → (Ly p (wi h70 37 4 ((i73 + 1 : Nat) : Int)) → TokR T e (i73 + 1) (wi h70 37 4 ((i73 + 1 : Nat) : Int)) → WF d 46 44 [jP 93, jI v1, jP a2, jP a3, jI (w32 (v4 + 1)), jI (tkP T i : Int), jP p6, jI (ck (tkK T i73))] [] (wi h70 37 4 ((i73 + 1 : Nat) : Int)) Q)) ∧ (¬ tkK T i73 = 142 → (tkK T i73 = 145 → (Ly p (nw (wi h70 37 4 ((i73 + 1 : Nat) : Int)) 6 4) → TokR T e (i73 + 1) (nw (wi h70 37 4 ((i73 + 1 : Nat) : Int)) 6 4) → ∃ h86, jE d 29 [jP (jx (wi h70 37 4 ((i73 + 1 : Nat) : Int))), jI 1] (nw (wi h70 37 4 ((i73 + 1 : Nat) : Int)) 6 4) none h86 ∧ Ly p h86 ∧ ∃ i89, TokR T e i89 h86 ∧ jt h86 a3 = 6 ∧ NF ≤ a3 ∧ jt (wr h86 a3 3 (jx (wi h70 37 4 ((i73 + 1 : Nat) : Int)))) a3 = 6 ∧ (Ly p (wr h86 a3 3 (jx (wi h70 37 4 ((i73 + 1 : Nat) : Int)))) → TokR T e i89 (wr h86 a3 3 (jx (wi h70 37 4 ((i73 + 1 : Nat) : Int)))) → WF d 46 44 [jP 93, jI v1, jP a2, jP (jr (wr h86 a3 3 (jx (wi h70 37 4 ((i73 + 1 : Nat) : Int)))) a3 3), jI (w32 (v4 + 1)), jI (tkP T i : Int), jP p6, jI (ck (tkK T i73))] [] (wr h86 a3 3 (jx (wi h70 37 4 ((i73 + 1 : Nat) : Int)))) Q))) ∧ (¬ tkK T i73 = 145 → (Ly p (nw (wi h70 37 4 ((i73 + 1 : Nat) : Int)) 6 4) → TokR T e (i73 + 1) (nw (wi h70 37 4 ((i73 + 1 : Nat) : Int)) 6 4) → ∃ h78, jE d 29 [jP (jx (wi h70 37 4 ((i73 + 1 : Nat) : Int))), jI 0] (nw (wi h70 37 4 ((i73 + 1 : Nat) : Int)) 6 4) none h78 ∧ Ly p h78 ∧ ∃ i81, TokR T e i81 h78 ∧ jt h78 a3 = 6 ∧ NF ≤ a3 ∧ jt (wr h78 a3 3 (jx (wi h70 37 4 ((i73 + 1 : Nat) : Int)))) a3 = 6 ∧ (Ly p (wr h78 a3 3 (jx (wi h70 37 4 ((i73 + 1 : Nat) : Int)))) → TokR T e i81 (wr h78 a3 3 (jx (wi h70 37 4 ((i73 + 1 : Nat) : Int)))) → WF d 46 44 [jP 93, jI v1, jP a2, jP (jr (wr h78 a3 3 (jx (wi h70 37 4 ((i73 + 1 : Nat) : Int)))) a3 3), jI (w32 (v4 + 1)), jI (tkP T i : Int), jP p6, jI (ck (tkK T i73))] [] (wr h78 a3 3 (jx (wi h70 37 4 ((i73 + 1 : Nat) : Int)))) Q))))) ∧ (¬ tkK T i73 = 142 → (tkK T i73 = 143 → (tkK T i73 = 142 → (Ly p (wi h70 37 4 ((i73 + 1 : Nat) : Int)) → TokR T e (i73 + 1) (wi h70 37 4 ((i73 + 1 : Nat) : Int)) → WF d 46 44 [jP 93, jI v1, jP a2, jP a3, jI (w32 (v4 + 1)), jI (tkP T i : Int), jP p6, jI (ck (tkK T i73))] [] (wi h70 37 4 ((i73 + 1 : Nat) : Int)) Q)) ∧ (¬ tkK T i73 = 142 → (tkK T i73 = 145 → (Ly p (nw (wi h70 37 4 ((i73 + 1 : Nat) : Int)) 6 4) → TokR T e (i73 + 1) (nw (wi h70 37 4 ((i73 + 1 : Nat) : Int)) 6 4) → ∃ h105, jE d 29 [jP (jx (wi h70 37 4 ((i73 + 1 : Nat) : Int))), jI 1] (nw (wi h70 37 4 ((i73 + 1 : Nat) : Int)) 6 4) none h105 ∧ Ly p h105 ∧ ∃ i108, TokR T e i108 h105 ∧ jt h105 a3 = 6 ∧ NF ≤ a3 ∧ jt (wr h105 a3 3 (jx (wi h70 37 4 ((i73 + 1 : Nat) : Int)))) a3 = 6 ∧ (Ly p (wr h105 a3 3 (jx (wi h70 37 4 ((i73 + 1 : Nat) : Int)))) → TokR T e i108 (wr h105 a3 3 (jx (wi h70 37 4 ((i73 + 1 : Nat) : Int)))) → WF d 46 44 [jP 93, jI v1, jP a2, jP (jr (wr h105 a3 3 (jx (wi h70 37 4 ((i73 + 1 : Nat) : Int)))) a3 3), jI (w32 (v4 + 1)), jI (tkP T i : Int), jP p6, jI (ck (tkK T i73))] [] (wr h105 a3 3 (jx (wi h70 37 4 ((i73 + 1 : Nat) : Int)))) Q))) ∧ (¬ tkK T i73 = 145 → (Ly p (nw (wi h70 37 4 ((i73 + 1 : Nat) : Int)) 6 4) → TokR T e (i73 + 1) (nw (wi h70 37 4 ((i73 + 1 : Nat) : Int)) 6 4) → ∃ h97, jE d 29 [jP (jx (wi h70 37 4 ((i73 + 1 : Nat) : Int))), jI 0] (nw (wi h70 37 4 ((i73 + 1 : Nat) : Int)) 6 4) none h97 ∧ Ly p h97 ∧ ∃ i100, TokR T e i100 h97 ∧ jt h97 a3 = 6 ∧ NF ≤ a3 ∧ jt (wr h97 a3 3 (jx (wi h70 37 4 ((i73 + 1 : Nat) : Int)))) a3 = 6 ∧ (Ly p (wr h97 a3 3 (jx (wi h70 37 4 ((i73 + 1 : Nat) : Int)))) → TokR T e i100 (wr h97 a3 3 (jx (wi h70 37 4 ((i73 + 1 : Nat) : Int)))) → WF d 46 44 [jP 93, jI v1, jP a2, jP (jr (wr h97 a3 3 (jx (wi h70 37 4 ((i73 + 1 : Nat) : Int)))) a3 3), jI (w32 (v4 + 1)), jI (tkP T i : Int), jP p6, jI (ck (tkK T i73))] [] (wr h97 a3 3 (jx (wi h70 37 4 ((i73 + 1 : Nat) : Int)))) Q))))) ∧ (¬ tkK T i73 = 143 → (tkK T i73 = 145 → (tkK T i73 = 142 → (Ly p (wi h70 37 4 ((i73 + 1 : Nat) : Int)) → TokR T e (i73 + 1) (wi h70 37 4 ((i73 + 1 : Nat) : Int)) → WF d 46 44 [jP 93, jI v1, jP a2, jP a3, jI (w32 (v4 + 1)), jI (tkP T i : Int), jP p6, jI (ck (tkK T i73))] [] (wi h70 37 4 ((i73 + 1 : Nat) : Int)) Q)) ∧ (¬ tkK T i73 = 142 → (tkK T i73 = 145 → (Ly p (nw (wi h70 37 4 ((i73 + 1 : Nat) : Int)) 6 4) → TokR T e (i73 + 1) (nw (wi h70 37 4 ((i73 + 1 : Nat) : Int)) 6 4) → ∃ h124, jE d 29 [jP (jx (wi h70 37 4 ((i73 + 1 : Nat) : Int))), jI 1] (nw (wi h70 37 4 ((i73 + 1 : Nat) : Int)) 6 4) none h124 ∧ Ly p h124 ∧ ∃ i127, TokR T e i127 h124 ∧ jt h124 a3 = 6 ∧ NF ≤ a3 ∧ jt (wr h124 a3 3 (jx (wi h70 37 4 ((i73 + 1 : Nat) : Int)))) a3 = 6 ∧ (Ly p (wr h124 a3 3 (jx (wi h70 37 4 ((i73 + 1 : Nat) : Int)))) → TokR T e i127 (wr h124 a3 3 (jx (wi h70 37 4 ((i73 + 1 : Nat) : Int)))) → WF d 46 44 [jP 93, jI v1, jP a2, jP (jr (wr h124 a3 3 (jx (wi h70 37 4 ((i73 + 1 : Nat) : Int)))) a3 3), jI (w32 (v4 + 1)), jI (tkP T i : Int), jP p6, jI (ck (tkK T i73))] [] (wr h124 a3 3 (jx (wi h70 37 4 ((i73 + 1 : Nat) : Int)))) Q))) ∧ (¬ tkK T i73 = 145 → (Ly p (nw (wi h70 37 4 ((i73 + 1 : Nat) : Int)) 6 4) → TokR T e (i73 + 1) (nw (wi h70 37 4 ((i73 + 1 : Nat) : Int)) 6 4) → ∃ h116, jE d 29 [jP (jx (wi h70 37 4 ((i73 + 1 : Nat) : Int))), jI 0] (nw (wi h70 37 4 ((i73 + 1 : Nat) : Int)) 6 4) none h116 ∧ Ly p h116 ∧ ∃ i119, TokR T e i119 h116 ∧ jt h116 a3 = 6 ∧ NF ≤ a3 ∧ jt (wr h116 a3 3 (jx (wi h70 37 4 ((i73 + 1 : Nat) : Int)))) a3 = 6 ∧ (Ly p (wr h116 a3 3 (jx (wi h70 37 4 ((i73 + 1 : Nat) : Int)))) → TokR T e i119 (wr h116 a3 3 (jx (wi h70 37 4 ((i73 + 1 : Nat) : Int)))) → WF d 46 44 [jP 93, jI v1, jP a2, jP (jr (wr h116 a3 3 (jx (wi h70 37 4 ((i73 + 1 : Nat) : Int)))) a3 3), jI (w32 (v4 + 1)), jI (tkP T i : Int), jP p6, jI (ck (tkK T i73))] [] (wr h116 a3 3 (jx (wi h70 37 4 ((i73 + 1 : Nat) : Int)))) Q))))) ∧ (¬ tkK T i73 = 145 → Q (some (jP a2)) h70)))) ∧ (¬ (jr h1 a3 2) = 0 → (0 ≤ (tkP T i : Int) ∧ (tkP T i : Int) ≤ 1000) ∧ (Ly p (wi h1 37 5 (-10 - (tkP T i : Int))) → TokR T e i4 (wi h1 37 5 (-10 - (tkP T i : Int))) → Q (some (jP 0)) (wi h1 37 5 (-10 - (tkP T i : Int))))))) ∧ (p6 = 0 → Q (some (jP 0)) h1))) : WF d 46 44 [jP 93, jI v1, jP a2, jP a3, jI v4, z5, z6, z7] [] h Q := by
  refine b_46_44 ?_
  refine ⟨fun c141 => ?_, fun c141 => ?_⟩
  · have H := H.1 c141
    refine ⟨(Ly.t93 L :), ?_⟩
    rw [show jr h 93 0 = 37 from (Ly.r93_0 L :)]
    refine ⟨(Ly.t37 L :), ?_⟩
    refine ⟨_, _, t_76 (d := d) (by omega) L K, ?_⟩
    refine b_46_195 ?_
    exact H (Ly.wi L (a := 37) (k := 5) (x := -10 - (tkP T i : Int)) (by decide)) (TokR.flt K)
  · have H := H.2 c141
    refine ⟨(Ly.t93 L :), ?_⟩
    rw [show jr h 93 0 = 37 from (Ly.r93_0 L :)]
    refine ⟨(Ly.t37 L :), ?_⟩
    refine ⟨_, _, t_71 (d := d) (by omega) L K, ?_⟩
    refine b_46_61 ?_
    refine ⟨(Ly.t93 L :), ?_⟩
    obtain ⟨p6, h1, e3, L2, i4, K5, H⟩ := H
    refine ⟨p6, h1, e3, ?_⟩
    refine b_46_68 ?_
    obtain ⟨z139, H⟩ := H
    refine ⟨z139, fun c140 => ?_, fun c140 => ?_⟩
    · have H := H.1 c140
      obtain ⟨z138, H⟩ := H
      refine ⟨z138, ?_⟩
      refine ⟨fun c137 => ?_, fun c137 => ?_⟩
      · have H := H.1 c137
        obtain ⟨z69, H⟩ := H
        refine ⟨z69, ?_⟩
        obtain ⟨h7, e9, L8, i10, K11, H⟩ := H
        refine ⟨h7, e9, ?_⟩
        refine b_46_107 ?_
        refine ⟨(Ly.t93 L8 :), ?_⟩
        rw [show jr h7 93 0 = 37 from (Ly.r93_0 L8 :)]
        refine ⟨(Ly.t37 L8 :), ?_⟩
        refine ⟨_, _, t_70 (d := d) (by omega) L8 K11, ?_⟩
        refine b_46_116 ?_
        rw [show (ck (tkK T i10) = 42) = (tkK T i10 = 142) from TokR.ckE K11 142 rfl]
        refine ⟨fun c12 => ?_, fun c12 => ?_⟩
        · have H := H.1 c12
          refine ⟨(Ly.t93 L8 :), ?_⟩
          rw [show jr h7 93 0 = 37 from (Ly.r93_0 L8 :)]
          refine ⟨(Ly.t37 L8 :), ?_⟩
          refine ⟨_, t_74 (d := d) (by omega) L8 K11 (ns c12 (by decide)), ?_⟩
          refine b_46_146 ?_
          rw [show (ck (tkK T i10) = 42) = (tkK T i10 = 142) from TokR.ckE K11 142 rfl]
          refine ⟨fun c13 => ?_, fun c13 => ?_⟩
          · have H := H.1 c13
            refine b_46_181 ?_
            exact H (Ly.wi L8 (a := 37) (k := 4) (x := ((i10 + 1 : Nat) : Int)) (by decide)) (TokR.adv K11 (ns c12 (by decide)))
          · have H := H.2 c13
            rw [show (ck (tkK T i10) = 45) = (tkK T i10 = 145) from TokR.ckE K11 145 rfl]
            refine ⟨fun c14 => ?_, fun c14 => ?_⟩
            · have H := H.2 c14
              refine ⟨Nat.le_trans (by decide) (Ly.nx (Ly.wi L8 (a := 37) (k := 4) (x := ((i10 + 1 : Nat) : Int)) (by decide))), ?_⟩
              have H := H (Ly.nw (Ly.wi L8 (a := 37) (k := 4) (x := ((i10 + 1 : Nat) : Int)) (by decide)) (t := 6) (n := 4)) (TokR.snw (TokR.adv K11 (ns c12 (by decide))) (Ly.wi L8 (a := 37) (k := 4) (x := ((i10 + 1 : Nat) : Int)) (by decide)) (t := 6) (n := 4))
              obtain ⟨h15, e17, L16, i18, K19, H⟩ := H
              refine ⟨h15, e17, ?_⟩
              obtain ⟨z22, H⟩ := H
              refine ⟨z22, ?_⟩
              obtain ⟨z20, H⟩ := H
              refine b_46_176 ?_
              obtain ⟨z21, H⟩ := H
              refine ⟨z21, ?_⟩
              refine b_46_181 ?_
              exact H (Ly.wr L16 (a := a3) (k := 3) (b := jx (wi h7 37 4 ((i10 + 1 : Nat) : Int))) (Or.inl z20)) (TokR.swr K19 (a := a3) (k := 3) (x := jx (wi h7 37 4 ((i10 + 1 : Nat) : Int))))
            · have c14 := Decidable.not_not.mp c14
              have H := H.1 c14
              refine ⟨Nat.le_trans (by decide) (Ly.nx (Ly.wi L8 (a := 37) (k := 4) (x := ((i10 + 1 : Nat) : Int)) (by decide))), ?_⟩
              have H := H (Ly.nw (Ly.wi L8 (a := 37) (k := 4) (x := ((i10 + 1 : Nat) : Int)) (by decide)) (t := 6) (n := 4)) (TokR.snw (TokR.adv K11 (ns c12 (by decide))) (Ly.wi L8 (a := 37) (k := 4) (x := ((i10 + 1 : Nat) : Int)) (by decide)) (t := 6) (n := 4))
              obtain ⟨h23, e25, L24, i26, K27, H⟩ := H
              refine ⟨h23, e25, ?_⟩
              obtain ⟨z30, H⟩ := H
              refine ⟨z30, ?_⟩
              obtain ⟨z28, H⟩ := H
              refine b_46_176 ?_
              obtain ⟨z29, H⟩ := H
              refine ⟨z29, ?_⟩
              refine b_46_181 ?_
              exact H (Ly.wr L24 (a := a3) (k := 3) (b := jx (wi h7 37 4 ((i10 + 1 : Nat) : Int))) (Or.inl z28)) (TokR.swr K27 (a := a3) (k := 3) (x := jx (wi h7 37 4 ((i10 + 1 : Nat) : Int))))
        · have H := H.2 c12
          rw [show (ck (tkK T i10) = 43) = (tkK T i10 = 143) from TokR.ckE K11 143 rfl]
          refine ⟨fun c31 => ?_, fun c31 => ?_⟩
          · have H := H.1 c31
            refine ⟨(Ly.t93 L8 :), ?_⟩
            rw [show jr h7 93 0 = 37 from (Ly.r93_0 L8 :)]
            refine ⟨(Ly.t37 L8 :), ?_⟩
            refine ⟨_, t_74 (d := d) (by omega) L8 K11 (ns c31 (by decide)), ?_⟩
            refine b_46_146 ?_
            rw [show (ck (tkK T i10) = 42) = (tkK T i10 = 142) from TokR.ckE K11 142 rfl]
            refine ⟨fun c32 => ?_, fun c32 => ?_⟩
            · have H := H.1 c32
              refine b_46_181 ?_
              exact H (Ly.wi L8 (a := 37) (k := 4) (x := ((i10 + 1 : Nat) : Int)) (by decide)) (TokR.adv K11 (ns c31 (by decide)))
            · have H := H.2 c32
              rw [show (ck (tkK T i10) = 45) = (tkK T i10 = 145) from TokR.ckE K11 145 rfl]
              refine ⟨fun c33 => ?_, fun c33 => ?_⟩
              · have H := H.2 c33
                refine ⟨Nat.le_trans (by decide) (Ly.nx (Ly.wi L8 (a := 37) (k := 4) (x := ((i10 + 1 : Nat) : Int)) (by decide))), ?_⟩
                have H := H (Ly.nw (Ly.wi L8 (a := 37) (k := 4) (x := ((i10 + 1 : Nat) : Int)) (by decide)) (t := 6) (n := 4)) (TokR.snw (TokR.adv K11 (ns c31 (by decide))) (Ly.wi L8 (a := 37) (k := 4) (x := ((i10 + 1 : Nat) : Int)) (by decide)) (t := 6) (n := 4))
                obtain ⟨h34, e36, L35, i37, K38, H⟩ := H
                refine ⟨h34, e36, ?_⟩
                obtain ⟨z41, H⟩ := H
                refine ⟨z41, ?_⟩
                obtain ⟨z39, H⟩ := H
                refine b_46_176 ?_
                obtain ⟨z40, H⟩ := H
                refine ⟨z40, ?_⟩
                refine b_46_181 ?_
                exact H (Ly.wr L35 (a := a3) (k := 3) (b := jx (wi h7 37 4 ((i10 + 1 : Nat) : Int))) (Or.inl z39)) (TokR.swr K38 (a := a3) (k := 3) (x := jx (wi h7 37 4 ((i10 + 1 : Nat) : Int))))
              · have c33 := Decidable.not_not.mp c33
                have H := H.1 c33
                refine ⟨Nat.le_trans (by decide) (Ly.nx (Ly.wi L8 (a := 37) (k := 4) (x := ((i10 + 1 : Nat) : Int)) (by decide))), ?_⟩
                have H := H (Ly.nw (Ly.wi L8 (a := 37) (k := 4) (x := ((i10 + 1 : Nat) : Int)) (by decide)) (t := 6) (n := 4)) (TokR.snw (TokR.adv K11 (ns c31 (by decide))) (Ly.wi L8 (a := 37) (k := 4) (x := ((i10 + 1 : Nat) : Int)) (by decide)) (t := 6) (n := 4))
                obtain ⟨h42, e44, L43, i45, K46, H⟩ := H
                refine ⟨h42, e44, ?_⟩
                obtain ⟨z49, H⟩ := H
                refine ⟨z49, ?_⟩
                obtain ⟨z47, H⟩ := H
                refine b_46_176 ?_
                obtain ⟨z48, H⟩ := H
                refine ⟨z48, ?_⟩
                refine b_46_181 ?_
                exact H (Ly.wr L43 (a := a3) (k := 3) (b := jx (wi h7 37 4 ((i10 + 1 : Nat) : Int))) (Or.inl z47)) (TokR.swr K46 (a := a3) (k := 3) (x := jx (wi h7 37 4 ((i10 + 1 : Nat) : Int))))
          · have H := H.2 c31
            rw [show (ck (tkK T i10) = 45) = (tkK T i10 = 145) from TokR.ckE K11 145 rfl]
            refine ⟨fun c50 => ?_, fun c50 => ?_⟩
            · have H := H.1 c50
              refine ⟨(Ly.t93 L8 :), ?_⟩
              rw [show jr h7 93 0 = 37 from (Ly.r93_0 L8 :)]
              refine ⟨(Ly.t37 L8 :), ?_⟩
              refine ⟨_, t_74 (d := d) (by omega) L8 K11 (ns c50 (by decide)), ?_⟩
              refine b_46_146 ?_
              rw [show (ck (tkK T i10) = 42) = (tkK T i10 = 142) from TokR.ckE K11 142 rfl]
              refine ⟨fun c51 => ?_, fun c51 => ?_⟩
              · have H := H.1 c51
                refine b_46_181 ?_
                exact H (Ly.wi L8 (a := 37) (k := 4) (x := ((i10 + 1 : Nat) : Int)) (by decide)) (TokR.adv K11 (ns c50 (by decide)))
              · have H := H.2 c51
                rw [show (ck (tkK T i10) = 45) = (tkK T i10 = 145) from TokR.ckE K11 145 rfl]
                refine ⟨fun c52 => ?_, fun c52 => ?_⟩
                · have H := H.2 c52
                  refine ⟨Nat.le_trans (by decide) (Ly.nx (Ly.wi L8 (a := 37) (k := 4) (x := ((i10 + 1 : Nat) : Int)) (by decide))), ?_⟩
                  have H := H (Ly.nw (Ly.wi L8 (a := 37) (k := 4) (x := ((i10 + 1 : Nat) : Int)) (by decide)) (t := 6) (n := 4)) (TokR.snw (TokR.adv K11 (ns c50 (by decide))) (Ly.wi L8 (a := 37) (k := 4) (x := ((i10 + 1 : Nat) : Int)) (by decide)) (t := 6) (n := 4))
                  obtain ⟨h53, e55, L54, i56, K57, H⟩ := H
                  refine ⟨h53, e55, ?_⟩
                  obtain ⟨z60, H⟩ := H
                  refine ⟨z60, ?_⟩
                  obtain ⟨z58, H⟩ := H
                  refine b_46_176 ?_
                  obtain ⟨z59, H⟩ := H
                  refine ⟨z59, ?_⟩
                  refine b_46_181 ?_
                  exact H (Ly.wr L54 (a := a3) (k := 3) (b := jx (wi h7 37 4 ((i10 + 1 : Nat) : Int))) (Or.inl z58)) (TokR.swr K57 (a := a3) (k := 3) (x := jx (wi h7 37 4 ((i10 + 1 : Nat) : Int))))
                · have c52 := Decidable.not_not.mp c52
                  have H := H.1 c52
                  refine ⟨Nat.le_trans (by decide) (Ly.nx (Ly.wi L8 (a := 37) (k := 4) (x := ((i10 + 1 : Nat) : Int)) (by decide))), ?_⟩
                  have H := H (Ly.nw (Ly.wi L8 (a := 37) (k := 4) (x := ((i10 + 1 : Nat) : Int)) (by decide)) (t := 6) (n := 4)) (TokR.snw (TokR.adv K11 (ns c50 (by decide))) (Ly.wi L8 (a := 37) (k := 4) (x := ((i10 + 1 : Nat) : Int)) (by decide)) (t := 6) (n := 4))
                  obtain ⟨h61, e63, L62, i64, K65, H⟩ := H
                  refine ⟨h61, e63, ?_⟩
                  obtain ⟨z68, H⟩ := H
                  refine ⟨z68, ?_⟩
                  obtain ⟨z66, H⟩ := H
                  refine b_46_176 ?_
                  obtain ⟨z67, H⟩ := H
                  refine ⟨z67, ?_⟩
                  refine b_46_181 ?_
                  exact H (Ly.wr L62 (a := a3) (k := 3) (b := jx (wi h7 37 4 ((i10 + 1 : Nat) : Int))) (Or.inl z66)) (TokR.swr K65 (a := a3) (k := 3) (x := jx (wi h7 37 4 ((i10 + 1 : Nat) : Int))))
            · have H := H.2 c50
              exact H
      · have H := H.2 c137
        obtain ⟨z136, H⟩ := H
        refine ⟨z136, ?_⟩
        obtain ⟨z134, H⟩ := H
        refine ⟨z134, fun c135 => ?_, fun c135 => ?_⟩
        · have H := H.1 c135
          obtain ⟨z132, H⟩ := H
          refine ⟨z132, ?_⟩
          obtain ⟨h70, e72, L71, i73, K74, H⟩ := H
          refine ⟨h70, e72, ?_⟩
          refine b_46_107 ?_
          refine ⟨(Ly.t93 L71 :), ?_⟩
          rw [show jr h70 93 0 = 37 from (Ly.r93_0 L71 :)]
          refine ⟨(Ly.t37 L71 :), ?_⟩
          refine ⟨_, _, t_70 (d := d) (by omega) L71 K74, ?_⟩
          refine b_46_116 ?_
          rw [show (ck (tkK T i73) = 42) = (tkK T i73 = 142) from TokR.ckE K74 142 rfl]
          refine ⟨fun c75 => ?_, fun c75 => ?_⟩
          · have H := H.1 c75
            refine ⟨(Ly.t93 L71 :), ?_⟩
            rw [show jr h70 93 0 = 37 from (Ly.r93_0 L71 :)]
            refine ⟨(Ly.t37 L71 :), ?_⟩
            refine ⟨_, t_74 (d := d) (by omega) L71 K74 (ns c75 (by decide)), ?_⟩
            refine b_46_146 ?_
            rw [show (ck (tkK T i73) = 42) = (tkK T i73 = 142) from TokR.ckE K74 142 rfl]
            refine ⟨fun c76 => ?_, fun c76 => ?_⟩
            · have H := H.1 c76
              refine b_46_181 ?_
              exact H (Ly.wi L71 (a := 37) (k := 4) (x := ((i73 + 1 : Nat) : Int)) (by decide)) (TokR.adv K74 (ns c75 (by decide)))
            · have H := H.2 c76
              rw [show (ck (tkK T i73) = 45) = (tkK T i73 = 145) from TokR.ckE K74 145 rfl]
              refine ⟨fun c77 => ?_, fun c77 => ?_⟩
              · have H := H.2 c77
                refine ⟨Nat.le_trans (by decide) (Ly.nx (Ly.wi L71 (a := 37) (k := 4) (x := ((i73 + 1 : Nat) : Int)) (by decide))), ?_⟩
                have H := H (Ly.nw (Ly.wi L71 (a := 37) (k := 4) (x := ((i73 + 1 : Nat) : Int)) (by decide)) (t := 6) (n := 4)) (TokR.snw (TokR.adv K74 (ns c75 (by decide))) (Ly.wi L71 (a := 37) (k := 4) (x := ((i73 + 1 : Nat) : Int)) (by decide)) (t := 6) (n := 4))
                obtain ⟨h78, e80, L79, i81, K82, H⟩ := H
                refine ⟨h78, e80, ?_⟩
                obtain ⟨z85, H⟩ := H
                refine ⟨z85, ?_⟩
                obtain ⟨z83, H⟩ := H
                refine b_46_176 ?_
                obtain ⟨z84, H⟩ := H
                refine ⟨z84, ?_⟩
                refine b_46_181 ?_
                exact H (Ly.wr L79 (a := a3) (k := 3) (b := jx (wi h70 37 4 ((i73 + 1 : Nat) : Int))) (Or.inl z83)) (TokR.swr K82 (a := a3) (k := 3) (x := jx (wi h70 37 4 ((i73 + 1 : Nat) : Int))))
              · have c77 := Decidable.not_not.mp c77
                have H := H.1 c77
                refine ⟨Nat.le_trans (by decide) (Ly.nx (Ly.wi L71 (a := 37) (k := 4) (x := ((i73 + 1 : Nat) : Int)) (by decide))), ?_⟩
                have H := H (Ly.nw (Ly.wi L71 (a := 37) (k := 4) (x := ((i73 + 1 : Nat) : Int)) (by decide)) (t := 6) (n := 4)) (TokR.snw (TokR.adv K74 (ns c75 (by decide))) (Ly.wi L71 (a := 37) (k := 4) (x := ((i73 + 1 : Nat) : Int)) (by decide)) (t := 6) (n := 4))
                obtain ⟨h86, e88, L87, i89, K90, H⟩ := H
                refine ⟨h86, e88, ?_⟩
                obtain ⟨z93, H⟩ := H
                refine ⟨z93, ?_⟩
                obtain ⟨z91, H⟩ := H
                refine b_46_176 ?_
                obtain ⟨z92, H⟩ := H
                refine ⟨z92, ?_⟩
                refine b_46_181 ?_
                exact H (Ly.wr L87 (a := a3) (k := 3) (b := jx (wi h70 37 4 ((i73 + 1 : Nat) : Int))) (Or.inl z91)) (TokR.swr K90 (a := a3) (k := 3) (x := jx (wi h70 37 4 ((i73 + 1 : Nat) : Int))))
          · have H := H.2 c75
            rw [show (ck (tkK T i73) = 43) = (tkK T i73 = 143) from TokR.ckE K74 143 rfl]
            refine ⟨fun c94 => ?_, fun c94 => ?_⟩
            · have H := H.1 c94
              refine ⟨(Ly.t93 L71 :), ?_⟩
              rw [show jr h70 93 0 = 37 from (Ly.r93_0 L71 :)]
              refine ⟨(Ly.t37 L71 :), ?_⟩
              refine ⟨_, t_74 (d := d) (by omega) L71 K74 (ns c94 (by decide)), ?_⟩
              refine b_46_146 ?_
              rw [show (ck (tkK T i73) = 42) = (tkK T i73 = 142) from TokR.ckE K74 142 rfl]
              refine ⟨fun c95 => ?_, fun c95 => ?_⟩
              · have H := H.1 c95
                refine b_46_181 ?_
                exact H (Ly.wi L71 (a := 37) (k := 4) (x := ((i73 + 1 : Nat) : Int)) (by decide)) (TokR.adv K74 (ns c94 (by decide)))
              · have H := H.2 c95
                rw [show (ck (tkK T i73) = 45) = (tkK T i73 = 145) from TokR.ckE K74 145 rfl]
                refine ⟨fun c96 => ?_, fun c96 => ?_⟩
                · have H := H.2 c96
                  refine ⟨Nat.le_trans (by decide) (Ly.nx (Ly.wi L71 (a := 37) (k := 4) (x := ((i73 + 1 : Nat) : Int)) (by decide))), ?_⟩
                  have H := H (Ly.nw (Ly.wi L71 (a := 37) (k := 4) (x := ((i73 + 1 : Nat) : Int)) (by decide)) (t := 6) (n := 4)) (TokR.snw (TokR.adv K74 (ns c94 (by decide))) (Ly.wi L71 (a := 37) (k := 4) (x := ((i73 + 1 : Nat) : Int)) (by decide)) (t := 6) (n := 4))
                  obtain ⟨h97, e99, L98, i100, K101, H⟩ := H
                  refine ⟨h97, e99, ?_⟩
                  obtain ⟨z104, H⟩ := H
                  refine ⟨z104, ?_⟩
                  obtain ⟨z102, H⟩ := H
                  refine b_46_176 ?_
                  obtain ⟨z103, H⟩ := H
                  refine ⟨z103, ?_⟩
                  refine b_46_181 ?_
                  exact H (Ly.wr L98 (a := a3) (k := 3) (b := jx (wi h70 37 4 ((i73 + 1 : Nat) : Int))) (Or.inl z102)) (TokR.swr K101 (a := a3) (k := 3) (x := jx (wi h70 37 4 ((i73 + 1 : Nat) : Int))))
                · have c96 := Decidable.not_not.mp c96
                  have H := H.1 c96
                  refine ⟨Nat.le_trans (by decide) (Ly.nx (Ly.wi L71 (a := 37) (k := 4) (x := ((i73 + 1 : Nat) : Int)) (by decide))), ?_⟩
                  have H := H (Ly.nw (Ly.wi L71 (a := 37) (k := 4) (x := ((i73 + 1 : Nat) : Int)) (by decide)) (t := 6) (n := 4)) (TokR.snw (TokR.adv K74 (ns c94 (by decide))) (Ly.wi L71 (a := 37) (k := 4) (x := ((i73 + 1 : Nat) : Int)) (by decide)) (t := 6) (n := 4))
                  obtain ⟨h105, e107, L106, i108, K109, H⟩ := H
                  refine ⟨h105, e107, ?_⟩
                  obtain ⟨z112, H⟩ := H
                  refine ⟨z112, ?_⟩
                  obtain ⟨z110, H⟩ := H
                  refine b_46_176 ?_
                  obtain ⟨z111, H⟩ := H
                  refine ⟨z111, ?_⟩
                  refine b_46_181 ?_
                  exact H (Ly.wr L106 (a := a3) (k := 3) (b := jx (wi h70 37 4 ((i73 + 1 : Nat) : Int))) (Or.inl z110)) (TokR.swr K109 (a := a3) (k := 3) (x := jx (wi h70 37 4 ((i73 + 1 : Nat) : Int))))
            · have H := H.2 c94
              rw [show (ck (tkK T i73) = 45) = (tkK T i73 = 145) from TokR.ckE K74 145 rfl]
              refine ⟨fun c113 => ?_, fun c113 => ?_⟩
              · have H := H.1 c113
                refine ⟨(Ly.t93 L71 :), ?_⟩
                rw [show jr h70 93 0 = 37 from (Ly.r93_0 L71 :)]
                refine ⟨(Ly.t37 L71 :), ?_⟩
                refine ⟨_, t_74 (d := d) (by omega) L71 K74 (ns c113 (by decide)), ?_⟩
                refine b_46_146 ?_
                rw [show (ck (tkK T i73) = 42) = (tkK T i73 = 142) from TokR.ckE K74 142 rfl]
                refine ⟨fun c114 => ?_, fun c114 => ?_⟩
                · have H := H.1 c114
                  refine b_46_181 ?_
                  exact H (Ly.wi L71 (a := 37) (k := 4) (x := ((i73 + 1 : Nat) : Int)) (by decide)) (TokR.adv K74 (ns c113 (by decide)))
                · have H := H.2 c114
                  rw [show (ck (tkK T i73) = 45) = (tkK T i73 = 145) from TokR.ckE K74 145 rfl]
                  refine ⟨fun c115 => ?_, fun c115 => ?_⟩
                  · have H := H.2 c115
                    refine ⟨Nat.le_trans (by decide) (Ly.nx (Ly.wi L71 (a := 37) (k := 4) (x := ((i73 + 1 : Nat) : Int)) (by decide))), ?_⟩
                    have H := H (Ly.nw (Ly.wi L71 (a := 37) (k := 4) (x := ((i73 + 1 : Nat) : Int)) (by decide)) (t := 6) (n := 4)) (TokR.snw (TokR.adv K74 (ns c113 (by decide))) (Ly.wi L71 (a := 37) (k := 4) (x := ((i73 + 1 : Nat) : Int)) (by decide)) (t := 6) (n := 4))
                    obtain ⟨h116, e118, L117, i119, K120, H⟩ := H
                    refine ⟨h116, e118, ?_⟩
                    obtain ⟨z123, H⟩ := H
                    refine ⟨z123, ?_⟩
                    obtain ⟨z121, H⟩ := H
                    refine b_46_176 ?_
                    obtain ⟨z122, H⟩ := H
                    refine ⟨z122, ?_⟩
                    refine b_46_181 ?_
                    exact H (Ly.wr L117 (a := a3) (k := 3) (b := jx (wi h70 37 4 ((i73 + 1 : Nat) : Int))) (Or.inl z121)) (TokR.swr K120 (a := a3) (k := 3) (x := jx (wi h70 37 4 ((i73 + 1 : Nat) : Int))))
                  · have c115 := Decidable.not_not.mp c115
                    have H := H.1 c115
                    refine ⟨Nat.le_trans (by decide) (Ly.nx (Ly.wi L71 (a := 37) (k := 4) (x := ((i73 + 1 : Nat) : Int)) (by decide))), ?_⟩
                    have H := H (Ly.nw (Ly.wi L71 (a := 37) (k := 4) (x := ((i73 + 1 : Nat) : Int)) (by decide)) (t := 6) (n := 4)) (TokR.snw (TokR.adv K74 (ns c113 (by decide))) (Ly.wi L71 (a := 37) (k := 4) (x := ((i73 + 1 : Nat) : Int)) (by decide)) (t := 6) (n := 4))
                    obtain ⟨h124, e126, L125, i127, K128, H⟩ := H
                    refine ⟨h124, e126, ?_⟩
                    obtain ⟨z131, H⟩ := H
                    refine ⟨z131, ?_⟩
                    obtain ⟨z129, H⟩ := H
                    refine b_46_176 ?_
                    obtain ⟨z130, H⟩ := H
                    refine ⟨z130, ?_⟩
                    refine b_46_181 ?_
                    exact H (Ly.wr L125 (a := a3) (k := 3) (b := jx (wi h70 37 4 ((i73 + 1 : Nat) : Int))) (Or.inl z129)) (TokR.swr K128 (a := a3) (k := 3) (x := jx (wi h70 37 4 ((i73 + 1 : Nat) : Int))))
              · have H := H.2 c113
                exact H
        · have H := H.2 c135
          refine ⟨(Ly.t93 L2 :), ?_⟩
          rw [show jr h1 93 0 = 37 from (Ly.r93_0 L2 :)]
          refine ⟨(Ly.t37 L2 :), ?_⟩
          obtain ⟨z133, H⟩ := H
          refine ⟨_, m_77 (d := d) (by omega) L2 z133, ?_⟩
          refine b_46_99 ?_
          exact H (Ly.wi L2 (a := 37) (k := 5) (x := -10 - (tkP T i : Int)) (by decide)) (TokR.flt K5)
    · have H := H.2 c140
      exact H
set_option maxRecDepth 100000 in
theorem c_49_0 {p : Lpar} {d : Nat} {h : AH} {Q : Option AV → AH → Prop} {kc : Int} (hkc : cknL.any (fun e => e.1 == kc) = true) (hk3 : ¬ (kc = 3 ∨ kc = 4)) {v2 : Int} (hd : 9 ≤ d) (L : Ly p h) {T : Txt} {e i : Nat} (K : TokR T e i h) (H : (tkK T i = kc → (Ly p (wi h 37 4 ((i + 1 : Nat) : Int)) → TokR T e (i + 1) (wi h 37 4 ((i + 1 : Nat) : Int)) → ∃ x7 h2, jE d 26 [jP (pT p + 1), jI 4, jI (nmT T (i + 1))] (wi h 37 4 ((i + 1 : Nat) : Int)) (some (jI x7)) h2 ∧ Ly p h2 ∧ ∃ i5, TokR T e i5 h2 ∧ (x7 = (-1) → (tkK T i5 = 2 → ∃ x14 h9, jE d 55 [jP (pT p + 5), jI v2, jI (tkW T i5)] h2 (some (jI x14)) h9 ∧ Ly p h9 ∧ ∃ i12, TokR T e i12 h9 ∧ (x14 = (-1) → (Ly p (wi h9 37 5 (-10 - (tkP T i12 : Int))) → TokR T e i12 (wi h9 37 5 (-10 - (tkP T i12 : Int))) → Q (some (jI (-1000))) (wi h9 37 5 (-10 - (tkP T i12 : Int))))) ∧ (¬ (x14 = (-1)) → ((tkW T i12) = (-1000) → (Ly p (wi h9 37 5 (-10 - (tkP T i12 : Int))) → TokR T e i12 (wi h9 37 5 (-10 - (tkP T i12 : Int))) → Q (some (jI (tkW T i12))) (wi h9 37 5 (-10 - (tkP T i12 : Int))))) ∧ (¬ (tkW T i12) = (-1000) → ¬ (tkK T i12 = 3 ∨ tkK T i12 = 4) ∧ (Ly p (wi h9 37 4 ((i12 + 1 : Nat) : Int)) → TokR T e (i12 + 1) (wi h9 37 4 ((i12 + 1 : Nat) : Int)) → Q (some (jI (tkW T i12))) (wi h9 37 4 ((i12 + 1 : Nat) : Int)))))) ∧ (¬ tkK T i5 = 2 → (Ly p (wi h2 37 5 (-10 - (tkP T i5 : Int))) → TokR T e i5 (wi h2 37 5 (-10 - (tkP T i5 : Int))) → Q (some (jI (-1000))) (wi h2 37 5 (-10 - (tkP T i5 : Int)))))) ∧ (¬ (x7 = (-1)) → ∃ x23 h18, jE d 44 [jP 93, jI x7] h2 (some (jI x23)) h18 ∧ Ly p h18 ∧ ∃ i21, TokR T e i21 h18 ∧ ∃ x29 h24, jE d 56 [jP (pT p + 5), jI x23, jI v2] h18 (some (jI x29)) h24 ∧ Ly p h24 ∧ ∃ i27, TokR T e i27 h24 ∧ (x29 = (0 : Int) → (tkK T i27 = 2 → ∃ x36 h31, jE d 55 [jP (pT p + 5), jI v2, jI (tkW T i27)] h24 (some (jI x36)) h31 ∧ Ly p h31 ∧ ∃ i34, TokR T e i34 h31 ∧ (x36 = (-1) → (Ly p (wi h31 37 5 (-10 - (tkP T i34 : Int))) → TokR T e i34 (wi h31 37 5 (-10 - (tkP T i34 : Int))) → Q (some (jI (-1000))) (wi h31 37 5 (-10 - (tkP T i34 : Int))))) ∧ (¬ (x36 = (-1)) → ((tkW T i34) = (-1000) → (Ly p (wi h31 37 5 (-10 - (tkP T i34 : Int))) → TokR T e i34 (wi h31 37 5 (-10 - (tkP T i34 : Int))) → Q (some (jI (tkW T i34))) (wi h31 37 5 (-10 - (tkP T i34 : Int))))) ∧ (¬ (tkW T i34) = (-1000) → ¬ (tkK T i34 = 3 ∨ tkK T i34 = 4) ∧ (Ly p (wi h31 37 4 ((i34 + 1 : Nat) : Int)) → TokR T e (i34 + 1) (wi h31 37 4 ((i34 + 1 : Nat) : Int)) → Q (some (jI (tkW T i34))) (wi h31 37 4 ((i34 + 1 : Nat) : Int)))))) ∧ (¬ tkK T i27 = 2 → (Ly p (wi h24 37 5 (-10 - (tkP T i27 : Int))) → TokR T e i27 (wi h24 37 5 (-10 - (tkP T i27 : Int))) → Q (some (jI (-1000))) (wi h24 37 5 (-10 - (tkP T i27 : Int)))))) ∧ (¬ (x29 = (0 : Int)) → (tkK T i27 = 2 → ∃ x48 h43, jE d 55 [jP (pT p + 5), jI v2, jI (tkW T i27)] h24 (some (jI x48)) h43 ∧ Ly p h43 ∧ ∃ i46, TokR T e i46 h43 ∧ (x48 = (-1) → ((jxor x7 (-1)) = (-1000) → (Ly p (wi h43 37 5 (-10 - (tkP T i46 : Int))) → TokR T e i46 (wi h43 37 5 (-10 - (tkP T i46 : Int))) → Q (some (jI (jxor x7 (-1)))) (wi h43 37 5 (-10 - (tkP T i46 : Int))))) ∧ (¬ (jxor x7 (-1)) = (-1000) → ¬ (tkK T i46 = 3 ∨ tkK T i46 = 4) ∧ (Ly p (wi h43 37 4 ((i46 + 1 : Nat) : Int)) → TokR T e (i46 + 1) (wi h43 37 4 ((i46 + 1 : Nat) : Int)) → Q (some (jI (jxor x7 (-1)))) (wi h43 37 4 ((i46 + 1 : Nat) : Int))))) ∧ (¬ (x48 = (-1)) → ((tkW T i46) = (-1000) → (Ly p (wi h43 37 5 (-10 - (tkP T i46 : Int))) → TokR T e i46 (wi h43 37 5 (-10 - (tkP T i46 : Int))) → Q (some (jI (tkW T i46))) (wi h43 37 5 (-10 - (tkP T i46 : Int))))) ∧ (¬ (tkW T i46) = (-1000) → ¬ (tkK T i46 = 3 ∨ tkK T i46 = 4) ∧ (Ly p (wi h43 37 4 ((i46 + 1 : Nat) : Int)) → TokR T e (i46 + 1) (wi h43 37 4 ((i46 + 1 : Nat) : Int)) → Q (some (jI (tkW T i46))) (wi h43 37 4 ((i46 + 1 : Nat) : Int)))))) ∧ (¬ tkK T i27 = 2 → ((jxor x7 (-1)) = (-1000) → (Ly p (wi h24 37 5 (-10 - (tkP T i27 : Int))) → TokR T e i27 (wi h24 37 5 (-10 - (tkP T i27 : Int))) → Q (some (jI (jxor x7 (-1)))) (wi h24 37 5 (-10 - (tkP T i27 : Int))))) ∧ (¬ (jxor x7 (-1)) = (-1000) → ¬ (tkK T i27 = 3 ∨ tkK T i27 = 4) ∧ (Ly p (wi h24 37 4 ((i27 + 1 : Nat) : Int)) → TokR T e (i27 + 1) (wi h24 37 4 ((i27 + 1 : Nat) : Int)) → Q (some (jI (jxor x7 (-1)))) (wi h24 37 4 ((i27 + 1 : Nat) : Int))))))))) ∧ (¬ tkK T i = kc → (Ly p (wi h 37 5 (-10 - (tkP T i : Int))) → TokR T e i (wi h 37 5 (-10 - (tkP T i : Int))) → Q (some (jI (-1000))) (wi h 37 5 (-10 - (tkP T i : Int)))))) : WF d 49 0 [jP 93, jI (ck kc), jI v2, jU, jU] [] h Q := by
  refine b_49_0 ?_
  refine ⟨(Ly.t93 L :), ?_⟩
  rw [show jr h 93 0 = 37 from (Ly.r93_0 L :)]
  refine ⟨(Ly.t37 L :), ?_⟩
  by_cases c1 : tkK T i = kc
  · have H := H.1 c1
    refine ⟨_, _, t_75y (d := d) (by omega) L K kc hkc c1 (by omega), ?_⟩
    refine ⟨fun _ => ?_, fun c => absurd (by decide) c⟩
    refine b_49_19 ?_
    refine ⟨(Ly.t93 L :), ?_⟩
    rw [show jr (wi h 37 4 ((i + 1 : Nat) : Int)) 93 1 = pT p from (Ly.r93_1 L :)]
    refine ⟨(Ly.dt0 L (Ly.iT L) :), ?_⟩
    rw [show jr (wi h 37 4 ((i + 1 : Nat) : Int)) (pT p) 0 = (pT p + 1) from (Ly.dr0_0 L (Ly.iT L) :)]
    refine ⟨(Ly.t93 L :), ?_⟩
    rw [show jr (wi h 37 4 ((i + 1 : Nat) : Int)) 93 0 = 37 from (Ly.r93_0 L :)]
    refine ⟨(Ly.t37 L :), ?_⟩
    refine ⟨_, _, t_73 (d := d) (by omega) (Ly.wi L (a := 37) (k := 4) (x := ((i + 1 : Nat) : Int)) (by decide)) (TokR.adv K (by omega)), ?_⟩
    refine ⟨(Ly.dt1 L (Ly.iT L) :), ?_⟩
    have H := H (Ly.wi L (a := 37) (k := 4) (x := ((i + 1 : Nat) : Int)) (by decide)) (TokR.adv K (by omega))
    obtain ⟨x7, h2, e4, L3, i5, K6, H⟩ := H
    refine ⟨x7, h2, e4, ?_⟩
    refine b_49_39 ?_
    refine ⟨fun c55 => ?_, fun c55 => ?_⟩
    · have H := H.1 c55
      refine b_49_70 ?_
      refine ⟨(Ly.t93 L3 :), ?_⟩
      rw [show jr h2 93 0 = 37 from (Ly.r93_0 L3 :)]
      refine ⟨(Ly.t37 L3 :), ?_⟩
      refine ⟨_, _, t_70 (d := d) (by omega) L3 K6, ?_⟩
      rw [show (ck (tkK T i5) = 4) = (tkK T i5 = 2) from TokR.ckE K6 2 rfl]
      refine ⟨fun c8 => ?_, fun c8 => ?_⟩
      · have H := H.2 c8
        refine b_49_111 ?_
        refine ⟨fun c => absurd c (by decide), fun _ => ?_⟩
        refine ⟨(Ly.t93 L3 :), ?_⟩
        rw [show jr h2 93 0 = 37 from (Ly.r93_0 L3 :)]
        refine ⟨(Ly.t37 L3 :), ?_⟩
        refine ⟨_, _, t_76 (d := d) (by omega) L3 K6, ?_⟩
        refine b_49_126 ?_
        refine b_49_136 ?_
        exact H (Ly.wi L3 (a := 37) (k := 5) (x := -10 - (tkP T i5 : Int)) (by decide)) (TokR.flt K6)
      · have c8 := Decidable.not_not.mp c8
        have H := H.1 c8
        refine ⟨(Ly.t93 L3 :), ?_⟩
        rw [show jr h2 93 1 = pT p from (Ly.r93_1 L3 :)]
        refine ⟨(Ly.dt0 L3 (Ly.iT L3) :), ?_⟩
        rw [show jr h2 (pT p) 1 = (pT p + 5) from (Ly.dr0_1 L3 (Ly.iT L3) :)]
        refine ⟨(Ly.t93 L3 :), ?_⟩
        rw [show jr h2 93 0 = 37 from (Ly.r93_0 L3 :)]
        refine ⟨(Ly.t37 L3 :), ?_⟩
        refine ⟨_, _, t_72 (d := d) (by omega) L3 K6, ?_⟩
        refine ⟨(Ly.dt5 L3 (Ly.iT L3) :), ?_⟩
        obtain ⟨x14, h9, e11, L10, i12, K13, H⟩ := H
        refine ⟨x14, h9, e11, ?_⟩
        refine ⟨fun c17 => ?_, fun c17 => ?_⟩
        · have H := H.1 c17
          refine b_49_111 ?_
          refine ⟨fun c => absurd c (by decide), fun _ => ?_⟩
          refine ⟨(Ly.t93 L10 :), ?_⟩
          rw [show jr h9 93 0 = 37 from (Ly.r93_0 L10 :)]
          refine ⟨(Ly.t37 L10 :), ?_⟩
          refine ⟨_, _, t_76 (d := d) (by omega) L10 K13, ?_⟩
          refine b_49_126 ?_
          refine b_49_136 ?_
          exact H (Ly.wi L10 (a := 37) (k := 5) (x := -10 - (tkP T i12 : Int)) (by decide)) (TokR.flt K13)
        · have H := H.2 c17
          refine ⟨(Ly.t93 L10 :), ?_⟩
          rw [show jr h9 93 0 = 37 from (Ly.r93_0 L10 :)]
          refine ⟨(Ly.t37 L10 :), ?_⟩
          refine ⟨_, _, t_72 (d := d) (by omega) L10 K13, ?_⟩
          refine b_49_111 ?_
          refine ⟨fun c16 => ?_, fun c16 => ?_⟩
          · have H := H.2 c16
            refine ⟨(Ly.t93 L10 :), ?_⟩
            rw [show jr h9 93 0 = 37 from (Ly.r93_0 L10 :)]
            refine ⟨(Ly.t37 L10 :), ?_⟩
            obtain ⟨z15, H⟩ := H
            refine ⟨_, t_74 (d := d) (by omega) L10 K13 z15, ?_⟩
            refine b_49_136 ?_
            exact H (Ly.wi L10 (a := 37) (k := 4) (x := ((i12 + 1 : Nat) : Int)) (by decide)) (TokR.adv K13 z15)
          · have c16 := Decidable.not_not.mp c16
            have H := H.1 c16
            refine ⟨(Ly.t93 L10 :), ?_⟩
            rw [show jr h9 93 0 = 37 from (Ly.r93_0 L10 :)]
            refine ⟨(Ly.t37 L10 :), ?_⟩
            refine ⟨_, _, t_76 (d := d) (by omega) L10 K13, ?_⟩
            refine b_49_126 ?_
            refine b_49_136 ?_
            exact H (Ly.wi L10 (a := 37) (k := 5) (x := -10 - (tkP T i12 : Int)) (by decide)) (TokR.flt K13)
    · have H := H.2 c55
      refine ⟨(Ly.t93 L3 :), ?_⟩
      rw [show jr h2 93 1 = pT p from (Ly.r93_1 L3 :)]
      refine ⟨(Ly.dt0 L3 (Ly.iT L3) :), ?_⟩
      rw [show jr h2 (pT p) 1 = (pT p + 5) from (Ly.dr0_1 L3 (Ly.iT L3) :)]
      refine ⟨(Ly.t93 L3 :), ?_⟩
      obtain ⟨x23, h18, e20, L19, i21, K22, H⟩ := H
      refine ⟨x23, h18, e20, ?_⟩
      refine ⟨(Ly.dt5 L19 (Ly.iT L19) :), ?_⟩
      obtain ⟨x29, h24, e26, L25, i27, K28, H⟩ := H
      refine ⟨x29, h24, e26, ?_⟩
      refine ⟨fun c54 => ?_, fun c54 => ?_⟩
      · have H := H.1 c54
        refine b_49_70 ?_
        refine ⟨(Ly.t93 L25 :), ?_⟩
        rw [show jr h24 93 0 = 37 from (Ly.r93_0 L25 :)]
        refine ⟨(Ly.t37 L25 :), ?_⟩
        refine ⟨_, _, t_70 (d := d) (by omega) L25 K28, ?_⟩
        rw [show (ck (tkK T i27) = 4) = (tkK T i27 = 2) from TokR.ckE K28 2 rfl]
        refine ⟨fun c30 => ?_, fun c30 => ?_⟩
        · have H := H.2 c30
          refine b_49_111 ?_
          refine ⟨fun c => absurd c (by decide), fun _ => ?_⟩
          refine ⟨(Ly.t93 L25 :), ?_⟩
          rw [show jr h24 93 0 = 37 from (Ly.r93_0 L25 :)]
          refine ⟨(Ly.t37 L25 :), ?_⟩
          refine ⟨_, _, t_76 (d := d) (by omega) L25 K28, ?_⟩
          refine b_49_126 ?_
          refine b_49_136 ?_
          exact H (Ly.wi L25 (a := 37) (k := 5) (x := -10 - (tkP T i27 : Int)) (by decide)) (TokR.flt K28)
        · have c30 := Decidable.not_not.mp c30
          have H := H.1 c30
          refine ⟨(Ly.t93 L25 :), ?_⟩
          rw [show jr h24 93 1 = pT p from (Ly.r93_1 L25 :)]
          refine ⟨(Ly.dt0 L25 (Ly.iT L25) :), ?_⟩
          rw [show jr h24 (pT p) 1 = (pT p + 5) from (Ly.dr0_1 L25 (Ly.iT L25) :)]
          refine ⟨(Ly.t93 L25 :), ?_⟩
          rw [show jr h24 93 0 = 37 from (Ly.r93_0 L25 :)]
          refine ⟨(Ly.t37 L25 :), ?_⟩
          refine ⟨_, _, t_72 (d := d) (by omega) L25 K28, ?_⟩
          refine ⟨(Ly.dt5 L25 (Ly.iT L25) :), ?_⟩
          obtain ⟨x36, h31, e33, L32, i34, K35, H⟩ := H
          refine ⟨x36, h31, e33, ?_⟩
          refine ⟨fun c39 => ?_, fun c39 => ?_⟩
          · have H := H.1 c39
            refine b_49_111 ?_
            refine ⟨fun c => absurd c (by decide), fun _ => ?_⟩
            refine ⟨(Ly.t93 L32 :), ?_⟩
            rw [show jr h31 93 0 = 37 from (Ly.r93_0 L32 :)]
            refine ⟨(Ly.t37 L32 :), ?_⟩
            refine ⟨_, _, t_76 (d := d) (by omega) L32 K35, ?_⟩
            refine b_49_126 ?_
            refine b_49_136 ?_
            exact H (Ly.wi L32 (a := 37) (k := 5) (x := -10 - (tkP T i34 : Int)) (by decide)) (TokR.flt K35)
          · have H := H.2 c39
            refine ⟨(Ly.t93 L32 :), ?_⟩
            rw [show jr h31 93 0 = 37 from (Ly.r93_0 L32 :)]
            refine ⟨(Ly.t37 L32 :), ?_⟩
            refine ⟨_, _, t_72 (d := d) (by omega) L32 K35, ?_⟩
            refine b_49_111 ?_
            refine ⟨fun c38 => ?_, fun c38 => ?_⟩
            · have H := H.2 c38
              refine ⟨(Ly.t93 L32 :), ?_⟩
              rw [show jr h31 93 0 = 37 from (Ly.r93_0 L32 :)]
              refine ⟨(Ly.t37 L32 :), ?_⟩
              obtain ⟨z37, H⟩ := H
              refine ⟨_, t_74 (d := d) (by omega) L32 K35 z37, ?_⟩
              refine b_49_136 ?_
              exact H (Ly.wi L32 (a := 37) (k := 4) (x := ((i34 + 1 : Nat) : Int)) (by decide)) (TokR.adv K35 z37)
            · have c38 := Decidable.not_not.mp c38
              have H := H.1 c38
              refine ⟨(Ly.t93 L32 :), ?_⟩
              rw [show jr h31 93 0 = 37 from (Ly.r93_0 L32 :)]
              refine ⟨(Ly.t37 L32 :), ?_⟩
              refine ⟨_, _, t_76 (d := d) (by omega) L32 K35, ?_⟩
              refine b_49_126 ?_
              refine b_49_136 ?_
              exact H (Ly.wi L32 (a := 37) (k := 5) (x := -10 - (tkP T i34 : Int)) (by decide)) (TokR.flt K35)
      · have H := H.2 c54
        refine b_49_70 ?_
        refine ⟨(Ly.t93 L25 :), ?_⟩
        rw [show jr h24 93 0 = 37 from (Ly.r93_0 L25 :)]
        refine ⟨(Ly.t37 L25 :), ?_⟩
        refine ⟨_, _, t_70 (d := d) (by omega) L25 K28, ?_⟩
        rw [show (ck (tkK T i27) = 4) = (tkK T i27 = 2) from TokR.ckE K28 2 rfl]
        refine ⟨fun c40 => ?_, fun c40 => ?_⟩
        · have H := H.2 c40
          refine b_49_111 ?_
          refine ⟨fun c42 => ?_, fun c42 => ?_⟩
          · have H := H.2 c42
            refine ⟨(Ly.t93 L25 :), ?_⟩
            rw [show jr h24 93 0 = 37 from (Ly.r93_0 L25 :)]
            refine ⟨(Ly.t37 L25 :), ?_⟩
            obtain ⟨z41, H⟩ := H
            refine ⟨_, t_74 (d := d) (by omega) L25 K28 z41, ?_⟩
            refine b_49_136 ?_
            exact H (Ly.wi L25 (a := 37) (k := 4) (x := ((i27 + 1 : Nat) : Int)) (by decide)) (TokR.adv K28 z41)
          · have c42 := Decidable.not_not.mp c42
            have H := H.1 c42
            refine ⟨(Ly.t93 L25 :), ?_⟩
            rw [show jr h24 93 0 = 37 from (Ly.r93_0 L25 :)]
            refine ⟨(Ly.t37 L25 :), ?_⟩
            refine ⟨_, _, t_76 (d := d) (by omega) L25 K28, ?_⟩
            refine b_49_126 ?_
            refine b_49_136 ?_
            exact H (Ly.wi L25 (a := 37) (k := 5) (x := -10 - (tkP T i27 : Int)) (by decide)) (TokR.flt K28)
        · have c40 := Decidable.not_not.mp c40
          have H := H.1 c40
          refine ⟨(Ly.t93 L25 :), ?_⟩
          rw [show jr h24 93 1 = pT p from (Ly.r93_1 L25 :)]
          refine ⟨(Ly.dt0 L25 (Ly.iT L25) :), ?_⟩
          rw [show jr h24 (pT p) 1 = (pT p + 5) from (Ly.dr0_1 L25 (Ly.iT L25) :)]
          refine ⟨(Ly.t93 L25 :), ?_⟩
          rw [show jr h24 93 0 = 37 from (Ly.r93_0 L25 :)]
          refine ⟨(Ly.t37 L25 :), ?_⟩
          refine ⟨_, _, t_72 (d := d) (by omega) L25 K28, ?_⟩
          refine ⟨(Ly.dt5 L25 (Ly.iT L25) :), ?_⟩
          obtain ⟨x48, h43, e45, L44, i46, K47, H⟩ := H
          refine ⟨x48, h43, e45, ?_⟩
          refine ⟨fun c53 => ?_, fun c53 => ?_⟩
          · have H := H.1 c53
            refine b_49_111 ?_
            refine ⟨fun c50 => ?_, fun c50 => ?_⟩
            · have H := H.2 c50
              refine ⟨(Ly.t93 L44 :), ?_⟩
              rw [show jr h43 93 0 = 37 from (Ly.r93_0 L44 :)]
              refine ⟨(Ly.t37 L44 :), ?_⟩
              obtain ⟨z49, H⟩ := H
              refine ⟨_, t_74 (d := d) (by omega) L44 K47 z49, ?_⟩
              refine b_49_136 ?_
              exact H (Ly.wi L44 (a := 37) (k := 4) (x := ((i46 + 1 : Nat) : Int)) (by decide)) (TokR.adv K47 z49)
            · have c50 := Decidable.not_not.mp c50
              have H := H.1 c50
              refine ⟨(Ly.t93 L44 :), ?_⟩
              rw [show jr h43 93 0 = 37 from (Ly.r93_0 L44 :)]
              refine ⟨(Ly.t37 L44 :), ?_⟩
              refine ⟨_, _, t_76 (d := d) (by omega) L44 K47, ?_⟩
              refine b_49_126 ?_
              refine b_49_136 ?_
              exact H (Ly.wi L44 (a := 37) (k := 5) (x := -10 - (tkP T i46 : Int)) (by decide)) (TokR.flt K47)
          · have H := H.2 c53
            refine ⟨(Ly.t93 L44 :), ?_⟩
            rw [show jr h43 93 0 = 37 from (Ly.r93_0 L44 :)]
            refine ⟨(Ly.t37 L44 :), ?_⟩
            refine ⟨_, _, t_72 (d := d) (by omega) L44 K47, ?_⟩
            refine b_49_111 ?_
            refine ⟨fun c52 => ?_, fun c52 => ?_⟩
            · have H := H.2 c52
              refine ⟨(Ly.t93 L44 :), ?_⟩
              rw [show jr h43 93 0 = 37 from (Ly.r93_0 L44 :)]
              refine ⟨(Ly.t37 L44 :), ?_⟩
              obtain ⟨z51, H⟩ := H
              refine ⟨_, t_74 (d := d) (by omega) L44 K47 z51, ?_⟩
              refine b_49_136 ?_
              exact H (Ly.wi L44 (a := 37) (k := 4) (x := ((i46 + 1 : Nat) : Int)) (by decide)) (TokR.adv K47 z51)
            · have c52 := Decidable.not_not.mp c52
              have H := H.1 c52
              refine ⟨(Ly.t93 L44 :), ?_⟩
              rw [show jr h43 93 0 = 37 from (Ly.r93_0 L44 :)]
              refine ⟨(Ly.t37 L44 :), ?_⟩
              refine ⟨_, _, t_76 (d := d) (by omega) L44 K47, ?_⟩
              refine b_49_126 ?_
              refine b_49_136 ?_
              exact H (Ly.wi L44 (a := 37) (k := 5) (x := -10 - (tkP T i46 : Int)) (by decide)) (TokR.flt K47)
  · have H := H.2 c1
    refine ⟨_, _, t_75n (d := d) (by omega) L K kc hkc c1, ?_⟩
    refine ⟨fun c => absurd c (by decide), fun _ => ?_⟩
    exact H (Ly.wi L (a := 37) (k := 5) (x := -10 - (tkP T i : Int)) (by decide)) (TokR.flt K)
