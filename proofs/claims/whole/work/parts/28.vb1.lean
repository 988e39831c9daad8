-- needs: 20.num 21.lay 22.spec 23.va 24.leaf 25.tbls 26.thg 27.tok
set_option maxRecDepth 100000 in
theorem c_33_0 {p : Lpar} {d : Nat} {h : AH} {Q : Option AV → AH → Prop} {v1 : Int} {v2 : Int} {v3 : Int} (hd : 9 ≤ d) (L : Ly p h) {T : Txt} {e i : Nat} (K : TokR T e i h) (H : ¬ (tkK T i = 3 ∨ tkK T i = 4) ∧ (tkK T (i + 1) = 1 → (v3 ≤ v2 → (Ly p (wi (wi h 37 4 ((i + 1 : Nat) : Int)) 37 5 (-10 - (tkP T (i + 1) : Int))) → TokR T e (i + 1) (wi (wi h 37 4 ((i + 1 : Nat) : Int)) 37 5 (-10 - (tkP T (i + 1) : Int))) → Q (some (jI 0)) (wi (wi h 37 4 ((i + 1 : Nat) : Int)) 37 5 (-10 - (tkP T (i + 1) : Int))))) ∧ (¬ (v3 ≤ v2) → (Ly p (wi h 37 4 ((i + 1 : Nat) : Int)) → TokR T e (i + 1) (wi h 37 4 ((i + 1 : Nat) : Int)) → ∃ x8 h3, jE d 25 [jP (pT p + 1), jI (nmT T (i + 1))] (wi h 37 4 ((i + 1 : Nat) : Int)) (some (jI x8)) h3 ∧ Ly p h3 ∧ ∃ i6, TokR T e i6 h3 ∧ (x8 = (-1) → ∃ h9, jE d 24 [jP (pT p + 1), jI (nmT T i6), jI v1, jI v2] h3 none h9 ∧ Ly p h9 ∧ ∃ i12, TokR T e i12 h9 ∧ ¬ (tkK T i12 = 3 ∨ tkK T i12 = 4) ∧ (Ly p (wi h9 37 4 ((i12 + 1 : Nat) : Int)) → TokR T e (i12 + 1) (wi h9 37 4 ((i12 + 1 : Nat) : Int)) → Q (some (jI 1)) (wi h9 37 4 ((i12 + 1 : Nat) : Int)))) ∧ (¬ (x8 = (-1)) → (Ly p (wi h3 37 5 (-10 - (tkP T i6 : Int))) → TokR T e i6 (wi h3 37 5 (-10 - (tkP T i6 : Int))) → Q (some (jI 0)) (wi h3 37 5 (-10 - (tkP T i6 : Int)))))))) ∧ (¬ tkK T (i + 1) = 1 → (Ly p (wi (wi h 37 4 ((i + 1 : Nat) : Int)) 37 5 (-10 - (tkP T (i + 1) : Int))) → TokR T e (i + 1) (wi (wi h 37 4 ((i + 1 : Nat) : Int)) 37 5 (-10 - (tkP T (i + 1) : Int))) → Q (some (jI 0)) (wi (wi h 37 4 ((i + 1 : Nat) : Int)) 37 5 (-10 - (tkP T (i + 1) : Int)))))) : WF d 33 0 [jP 93, jI v1, jI v2, jI v3] [] h Q := by
  refine b_33_0 ?_
  refine ⟨(Ly.t93 L :), ?_⟩
  rw [show jr h 93 0 = 37 from (Ly.r93_0 L :)]
  refine ⟨(Ly.t37 L :), ?_⟩
  obtain ⟨z1, H⟩ := H
  refine ⟨_, t_74 (d := d) (by omega) L K z1, ?_⟩
  refine ⟨(Ly.t93 L :), ?_⟩
  rw [show jr (wi h 37 4 ((i + 1 : Nat) : Int)) 93 0 = 37 from (Ly.r93_0 L :)]
  refine ⟨(Ly.t37 L :), ?_⟩
  refine ⟨_, _, t_70 (d := d) (by omega) (Ly.wi L (a := 37) (k := 4) (x := ((i + 1 : Nat) : Int)) (by decide)) (TokR.adv K z1), ?_⟩
  rw [show (ck (tkK T (i + 1)) = 3) = (tkK T (i + 1) = 1) from TokR.ckE (TokR.adv K z1) 1 rfl]
  refine ⟨fun c2 => ?_, fun c2 => ?_⟩
  · have H := H.2 c2
    refine ⟨(Ly.t93 L :), ?_⟩
    rw [show jr (wi h 37 4 ((i + 1 : Nat) : Int)) 93 0 = 37 from (Ly.r93_0 L :)]
    refine ⟨(Ly.t37 L :), ?_⟩
    refine ⟨_, _, t_76 (d := d) (by omega) (Ly.wi L (a := 37) (k := 4) (x := ((i + 1 : Nat) : Int)) (by decide)) (TokR.adv K z1), ?_⟩
    refine ⟨Or.inl rfl, ?_⟩
    exact H (Ly.wi (Ly.wi L (a := 37) (k := 4) (x := ((i + 1 : Nat) : Int)) (by decide)) (a := 37) (k := 5) (x := -10 - (tkP T (i + 1) : Int)) (by decide)) (TokR.flt (TokR.adv K z1))
  · have c2 := Decidable.not_not.mp c2
    have H := H.1 c2
    refine ⟨fun c16 => ?_, fun c16 => ?_⟩
    · have H := H.1 c16
      refine ⟨(Ly.t93 L :), ?_⟩
      rw [show jr (wi h 37 4 ((i + 1 : Nat) : Int)) 93 0 = 37 from (Ly.r93_0 L :)]
      refine ⟨(Ly.t37 L :), ?_⟩
      refine ⟨_, _, t_76 (d := d) (by omega) (Ly.wi L (a := 37) (k := 4) (x := ((i + 1 : Nat) : Int)) (by decide)) (TokR.adv K z1), ?_⟩
      refine ⟨Or.inl rfl, ?_⟩
      exact H (Ly.wi (Ly.wi L (a := 37) (k := 4) (x := ((i + 1 : Nat) : Int)) (by decide)) (a := 37) (k := 5) (x := -10 - (tkP T (i + 1) : Int)) (by decide)) (TokR.flt (TokR.adv K z1))
    · have H := H.2 c16
      refine ⟨(Ly.t93 L :), ?_⟩
      rw [show jr (wi h 37 4 ((i + 1 : Nat) : Int)) 93 1 = pT p from (Ly.r93_1 L :)]
      refine ⟨(Ly.dt0 L (Ly.iT L) :), ?_⟩
      rw [show jr (wi h 37 4 ((i + 1 : Nat) : Int)) (pT p) 0 = (pT p + 1) from (Ly.dr0_0 L (Ly.iT L) :)]
      refine ⟨(Ly.t93 L :), ?_⟩
      rw [show jr (wi h 37 4 ((i + 1 : Nat) : Int)) 93 0 = 37 from (Ly.r93_0 L :)]
      refine ⟨(Ly.t37 L :), ?_⟩
      refine ⟨_, _, t_73 (d := d) (by omega) (Ly.wi L (a := 37) (k := 4) (x := ((i + 1 : Nat) : Int)) (by decide)) (TokR.adv K z1), ?_⟩
      refine ⟨(Ly.dt1 L (Ly.iT L) :), ?_⟩
      have H := H (Ly.wi L (a := 37) (k := 4) (x := ((i + 1 : Nat) : Int)) (by decide)) (TokR.adv K z1)
      obtain ⟨x8, h3, e5, L4, i6, K7, H⟩ := H
      refine ⟨x8, h3, e5, ?_⟩
      refine ⟨fun c15 => ?_, fun c15 => ?_⟩
      · have H := H.1 c15
        refine ⟨(Ly.t93 L4 :), ?_⟩
        rw [show jr h3 93 1 = pT p from (Ly.r93_1 L4 :)]
        refine ⟨(Ly.dt0 L4 (Ly.iT L4) :), ?_⟩
        rw [show jr h3 (pT p) 0 = (pT p + 1) from (Ly.dr0_0 L4 (Ly.iT L4) :)]
        refine ⟨(Ly.t93 L4 :), ?_⟩
        rw [show jr h3 93 0 = 37 from (Ly.r93_0 L4 :)]
        refine ⟨(Ly.t37 L4 :), ?_⟩
        refine ⟨_, _, t_73 (d := d) (by omega) L4 K7, ?_⟩
        refine ⟨(Ly.dt1 L4 (Ly.iT L4) :), ?_⟩
        obtain ⟨h9, e11, L10, i12, K13, H⟩ := H
        refine ⟨h9, e11, ?_⟩
        refine ⟨(Ly.t93 L10 :), ?_⟩
        rw [show jr h9 93 0 = 37 from (Ly.r93_0 L10 :)]
        refine ⟨(Ly.t37 L10 :), ?_⟩
        obtain ⟨z14, H⟩ := H
        refine ⟨_, t_74 (d := d) (by omega) L10 K13 z14, ?_⟩
        refine ⟨Or.inr rfl, ?_⟩
        exact H (Ly.wi L10 (a := 37) (k := 4) (x := ((i12 + 1 : Nat) : Int)) (by decide)) (TokR.adv K13 z14)
      · have H := H.2 c15
        refine ⟨(Ly.t93 L4 :), ?_⟩
        rw [show jr h3 93 0 = 37 from (Ly.r93_0 L4 :)]
        refine ⟨(Ly.t37 L4 :), ?_⟩
        refine ⟨_, _, t_76 (d := d) (by omega) L4 K7, ?_⟩
        refine ⟨Or.inl rfl, ?_⟩
        exact H (Ly.wi L4 (a := 37) (k := 5) (x := -10 - (tkP T i6 : Int)) (by decide)) (TokR.flt K7)
set_option maxRecDepth 100000 in
theorem c_34_0 {p : Lpar} {d : Nat} {h : AH} {Q : Option AV → AH → Prop}  (hd : 9 ≤ d) (L : Ly p h) {T : Txt} {e i : Nat} (K : TokR T e i h) (H : ∃ x6 h1, jE d 33 [jP 93, jI 0, jI (ji h (pT p + 5) 2), jI 6] h (some (jI x6)) h1 ∧ Ly p h1 ∧ ∃ i4, TokR T e i4 h1 ∧ (x6 = (0 : Int) → Q (some (jI 0)) h1) ∧ (¬ (x6 = (0 : Int)) → (tkK T i4 = 161 → (tkK T (i4 + 1) = 2 → (tkK T (i4 + 2) = 22 → (tkK T (i4 + 3) = 2 → ((w32 ((w32 ((tkW T (i4 + 3)) - (tkW T (i4 + 1)))) + 1)) < 0 → (Ly p (wi (wi (wi (wi h1 37 4 ((i4 + 1 : Nat) : Int)) 37 4 ((i4 + 2 : Nat) : Int)) 37 4 ((i4 + 3 : Nat) : Int)) 37 5 (-10 - (tkP T (i4 + 3) : Int))) → TokR T e (i4 + 3) (wi (wi (wi (wi h1 37 4 ((i4 + 1 : Nat) : Int)) 37 4 ((i4 + 2 : Nat) : Int)) 37 4 ((i4 + 3 : Nat) : Int)) 37 5 (-10 - (tkP T (i4 + 3) : Int))) → Q (some (jI 0)) (wi (wi (wi (wi h1 37 4 ((i4 + 1 : Nat) : Int)) 37 4 ((i4 + 2 : Nat) : Int)) 37 4 ((i4 + 3 : Nat) : Int)) 37 5 (-10 - (tkP T (i4 + 3) : Int))))) ∧ (¬ ((w32 ((w32 ((tkW T (i4 + 3)) - (tkW T (i4 + 1)))) + 1)) < 0) → ((w32 ((w32 ((tkW T (i4 + 3)) - (tkW T (i4 + 1)))) + 1)) ≤ 8 → (Ly p (wi (wi (wi (wi h1 37 4 ((i4 + 1 : Nat) : Int)) 37 4 ((i4 + 2 : Nat) : Int)) 37 4 ((i4 + 3 : Nat) : Int)) 37 4 ((i4 + 4 : Nat) : Int)) → TokR T e (i4 + 4) (wi (wi (wi (wi h1 37 4 ((i4 + 1 : Nat) : Int)) 37 4 ((i4 + 2 : Nat) : Int)) 37 4 ((i4 + 3 : Nat) : Int)) 37 4 ((i4 + 4 : Nat) : Int)) → ∃ h11, jE d 52 [jP (pT p + 5), jI (tkW T (i4 + 1)), jI (w32 ((w32 ((tkW T (i4 + 3)) - (tkW T (i4 + 1)))) + 1))] (wi (wi (wi (wi h1 37 4 ((i4 + 1 : Nat) : Int)) 37 4 ((i4 + 2 : Nat) : Int)) 37 4 ((i4 + 3 : Nat) : Int)) 37 4 ((i4 + 4 : Nat) : Int)) none h11 ∧ Ly p h11 ∧ ∃ i14, TokR T e i14 h11 ∧ (tkK T i14 = 159 → (Ly p (wi h11 37 4 ((i14 + 1 : Nat) : Int)) → TokR T e (i14 + 1) (wi h11 37 4 ((i14 + 1 : Nat) : Int)) → Q (some (jI 1)) (wi h11 37 4 ((i14 + 1 : Nat) : Int)))) ∧ (¬ tkK T i14 = 159 → (Ly p (wi h11 37 5 (-10 - (tkP T i14 : Int))) → TokR T e i14 (wi h11 37 5 (-10 - (tkP T i14 : Int))) → Q (some (jI 0)) (wi h11 37 5 (-10 - (tkP T i14 : Int))))))) ∧ (¬ ((w32 ((w32 ((tkW T (i4 + 3)) - (tkW T (i4 + 1)))) + 1)) ≤ 8) → (Ly p (wi (wi (wi (wi h1 37 4 ((i4 + 1 : Nat) : Int)) 37 4 ((i4 + 2 : Nat) : Int)) 37 4 ((i4 + 3 : Nat) : Int)) 37 5 (-10 - (tkP T (i4 + 3) : Int))) → TokR T e (i4 + 3) (wi (wi (wi (wi h1 37 4 ((i4 + 1 : Nat) : Int)) 37 4 ((i4 + 2 : Nat) : Int)) 37 4 ((i4 + 3 : Nat) : Int)) 37 5 (-10 - (tkP T (i4 + 3) : Int))) → Q (some (jI 0)) (wi (wi (wi (wi h1 37 4 ((i4 + 1 : Nat) : Int)) 37 4 ((i4 + 2 : Nat) : Int)) 37 4 ((i4 + 3 : Nat) : Int)) 37 5 (-10 - (tkP T (i4 + 3) : Int))))))) ∧ (¬ tkK T (i4 + 3) = 2 → (Ly p (wi (wi (wi (wi h1 37 4 ((i4 + 1 : Nat) : Int)) 37 4 ((i4 + 2 : Nat) : Int)) 37 4 ((i4 + 3 : Nat) : Int)) 37 5 (-10 - (tkP T (i4 + 3) : Int))) → TokR T e (i4 + 3) (wi (wi (wi (wi h1 37 4 ((i4 + 1 : Nat) : Int)) 37 4 ((i4 + 2 : Nat) : Int)) 37 4 ((i4 + 3 : Nat) : Int)) 37 5 (-10 - (tkP T (i4 + 3) : Int))) → Q (some (jI 0)) (wi (wi (wi (wi h1 37 4 ((i4 + 1 : Nat) : Int)) 37 4 ((i4 + 2 : Nat) : Int)) 37 4 ((i4 + 3 : Nat) : Int)) 37 5 (-10 - (tkP T (i4 + 3) : Int)))))) ∧ (¬ tkK T (i4 + 2) = 22 → (Ly p (wi (wi (wi h1 37 4 ((i4 + 1 : Nat) : Int)) 37 4 ((i4 + 2 : Nat) : Int)) 37 5 (-10 - (tkP T (i4 + 2) : Int))) → TokR T e (i4 + 2) (wi (wi (wi h1 37 4 ((i4 + 1 : Nat) : Int)) 37 4 ((i4 + 2 : Nat) : Int)) 37 5 (-10 - (tkP T (i4 + 2) : Int))) → Q (some (jI 0)) (wi (wi (wi h1 37 4 ((i4 + 1 : Nat) : Int)) 37 4 ((i4 + 2 : Nat) : Int)) 37 5 (-10 - (tkP T (i4 + 2) : Int)))))) ∧ (¬ tkK T (i4 + 1) = 2 → (Ly p (wi (wi h1 37 4 ((i4 + 1 : Nat) : Int)) 37 5 (-10 - (tkP T (i4 + 1) : Int))) → TokR T e (i4 + 1) (wi (wi h1 37 4 ((i4 + 1 : Nat) : Int)) 37 5 (-10 - (tkP T (i4 + 1) : Int))) → Q (some (jI 0)) (wi (wi h1 37 4 ((i4 + 1 : Nat) : Int)) 37 5 (-10 - (tkP T (i4 + 1) : Int)))))) ∧ (¬ tkK T i4 = 161 → (Ly p (wi h1 37 5 (-10 - (tkP T i4 : Int))) → TokR T e i4 (wi h1 37 5 (-10 - (tkP T i4 : Int))) → Q (some (jI 0)) (wi h1 37 5 (-10 - (tkP T i4 : Int))))))) : WF d 34 0 [jP 93, jU, jU] [] h Q := by
  refine b_34_0 ?_
  refine ⟨(Ly.t93 L :), ?_⟩
  rw [show jr h 93 1 = pT p from (Ly.r93_1 L :)]
  refine ⟨(Ly.dt0 L (Ly.iT L) :), ?_⟩
  rw [show jr h (pT p) 1 = (pT p + 5) from (Ly.dr0_1 L (Ly.iT L) :)]
  refine ⟨(Ly.dt5 L (Ly.iT L) :), ?_⟩
  refine ⟨(Ly.t93 L :), ?_⟩
  obtain ⟨x6, h1, e3, L2, i4, K5, H⟩ := H
  refine ⟨x6, h1, e3, ?_⟩
  refine ⟨fun c19 => ?_, fun c19 => ?_⟩
  · have H := H.1 c19
    refine ⟨Or.inl rfl, ?_⟩
    exact H
  · have H := H.2 c19
    refine ⟨(Ly.t93 L2 :), ?_⟩
    rw [show jr h1 93 0 = 37 from (Ly.r93_0 L2 :)]
    refine ⟨(Ly.t37 L2 :), ?_⟩
    by_cases c7 : tkK T i4 = 161
    · have H := H.1 c7
      refine ⟨_, _, t_75y (d := d) (by omega) L2 K5 161 rfl c7 (ns c7 (by decide)), ?_⟩
      refine ⟨fun _ => ?_, fun c => absurd (by decide) c⟩
      refine ⟨(Ly.t93 L2 :), ?_⟩
      rw [show jr (wi h1 37 4 ((i4 + 1 : Nat) : Int)) 93 0 = 37 from (Ly.r93_0 L2 :)]
      refine ⟨(Ly.t37 L2 :), ?_⟩
      refine ⟨_, _, t_72 (d := d) (by omega) (Ly.wi L2 (a := 37) (k := 4) (x := ((i4 + 1 : Nat) : Int)) (by decide)) (TokR.adv K5 (ns c7 (by decide))), ?_⟩
      refine b_34_42 ?_
      refine ⟨(Ly.t93 L2 :), ?_⟩
      rw [show jr (wi h1 37 4 ((i4 + 1 : Nat) : Int)) 93 0 = 37 from (Ly.r93_0 L2 :)]
      refine ⟨(Ly.t37 L2 :), ?_⟩
      by_cases c8 : tkK T (i4 + 1) = 2
      · have H := H.1 c8
        refine ⟨_, _, t_75y (d := d) (by omega) (Ly.wi L2 (a := 37) (k := 4) (x := ((i4 + 1 : Nat) : Int)) (by decide)) (TokR.adv K5 (ns c7 (by decide))) 2 rfl c8 (ns c8 (by decide)), ?_⟩
        refine ⟨fun c => absurd c (by decide), fun _ => ?_⟩
        refine ⟨(Ly.t93 L2 :), ?_⟩
        rw [show jr (wi (wi h1 37 4 ((i4 + 1 : Nat) : Int)) 37 4 ((i4 + 2 : Nat) : Int)) 93 0 = 37 from (Ly.r93_0 L2 :)]
        refine ⟨(Ly.t37 L2 :), ?_⟩
        by_cases c9 : tkK T (i4 + 2) = 22
        · have H := H.1 c9
          refine ⟨_, _, t_75y (d := d) (by omega) (Ly.wi (Ly.wi L2 (a := 37) (k := 4) (x := ((i4 + 1 : Nat) : Int)) (by decide)) (a := 37) (k := 4) (x := ((i4 + 2 : Nat) : Int)) (by decide)) (TokR.adv (TokR.adv K5 (ns c7 (by decide))) (ns c8 (by decide))) 22 rfl c9 (ns c9 (by decide)), ?_⟩
          refine ⟨fun _ => ?_, fun c => absurd (by decide) c⟩
          refine ⟨(Ly.t93 L2 :), ?_⟩
          rw [show jr (wi (wi (wi h1 37 4 ((i4 + 1 : Nat) : Int)) 37 4 ((i4 + 2 : Nat) : Int)) 37 4 ((i4 + 3 : Nat) : Int)) 93 0 = 37 from (Ly.r93_0 L2 :)]
          refine ⟨(Ly.t37 L2 :), ?_⟩
          refine ⟨_, _, t_72 (d := d) (by omega) (Ly.wi (Ly.wi (Ly.wi L2 (a := 37) (k := 4) (x := ((i4 + 1 : Nat) : Int)) (by decide)) (a := 37) (k := 4) (x := ((i4 + 2 : Nat) : Int)) (by decide)) (a := 37) (k := 4) (x := ((i4 + 3 : Nat) : Int)) (by decide)) (TokR.adv (TokR.adv (TokR.adv K5 (ns c7 (by decide))) (ns c8 (by decide))) (ns c9 (by decide))), ?_⟩
          refine b_34_79 ?_
          refine ⟨(Ly.t93 L2 :), ?_⟩
          rw [show jr (wi (wi (wi h1 37 4 ((i4 + 1 : Nat) : Int)) 37 4 ((i4 + 2 : Nat) : Int)) 37 4 ((i4 + 3 : Nat) : Int)) 93 0 = 37 from (Ly.r93_0 L2 :)]
          refine ⟨(Ly.t37 L2 :), ?_⟩
          refine ⟨_, _, t_70 (d := d) (by omega) (Ly.wi (Ly.wi (Ly.wi L2 (a := 37) (k := 4) (x := ((i4 + 1 : Nat) : Int)) (by decide)) (a := 37) (k := 4) (x := ((i4 + 2 : Nat) : Int)) (by decide)) (a := 37) (k := 4) (x := ((i4 + 3 : Nat) : Int)) (by decide)) (TokR.adv (TokR.adv (TokR.adv K5 (ns c7 (by decide))) (ns c8 (by decide))) (ns c9 (by decide))), ?_⟩
          rw [show (ck (tkK T (i4 + 3)) = 4) = (tkK T (i4 + 3) = 2) from TokR.ckE (TokR.adv (TokR.adv (TokR.adv K5 (ns c7 (by decide))) (ns c8 (by decide))) (ns c9 (by decide))) 2 rfl]
          refine ⟨fun c10 => ?_, fun c10 => ?_⟩
          · have H := H.2 c10
            refine ⟨(Ly.t93 L2 :), ?_⟩
            rw [show jr (wi (wi (wi h1 37 4 ((i4 + 1 : Nat) : Int)) 37 4 ((i4 + 2 : Nat) : Int)) 37 4 ((i4 + 3 : Nat) : Int)) 93 0 = 37 from (Ly.r93_0 L2 :)]
            refine ⟨(Ly.t37 L2 :), ?_⟩
            refine ⟨_, _, t_76 (d := d) (by omega) (Ly.wi (Ly.wi (Ly.wi L2 (a := 37) (k := 4) (x := ((i4 + 1 : Nat) : Int)) (by decide)) (a := 37) (k := 4) (x := ((i4 + 2 : Nat) : Int)) (by decide)) (a := 37) (k := 4) (x := ((i4 + 3 : Nat) : Int)) (by decide)) (TokR.adv (TokR.adv (TokR.adv K5 (ns c7 (by decide))) (ns c8 (by decide))) (ns c9 (by decide))), ?_⟩
            refine ⟨Or.inl rfl, ?_⟩
            exact H (Ly.wi (Ly.wi (Ly.wi (Ly.wi L2 (a := 37) (k := 4) (x := ((i4 + 1 : Nat) : Int)) (by decide)) (a := 37) (k := 4) (x := ((i4 + 2 : Nat) : Int)) (by decide)) (a := 37) (k := 4) (x := ((i4 + 3 : Nat) : Int)) (by decide)) (a := 37) (k := 5) (x := -10 - (tkP T (i4 + 3) : Int)) (by decide)) (TokR.flt (TokR.adv (TokR.adv (TokR.adv K5 (ns c7 (by decide))) (ns c8 (by decide))) (ns c9 (by decide))))
          · have c10 := Decidable.not_not.mp c10
            have H := H.1 c10
            refine ⟨fun c18 => ?_, fun c18 => ?_⟩
            · have H := H.1 c18
              refine ⟨(Ly.t93 L2 :), ?_⟩
              rw [show jr (wi (wi (wi h1 37 4 ((i4 + 1 : Nat) : Int)) 37 4 ((i4 + 2 : Nat) : Int)) 37 4 ((i4 + 3 : Nat) : Int)) 93 0 = 37 from (Ly.r93_0 L2 :)]
              refine ⟨(Ly.t37 L2 :), ?_⟩
              refine ⟨_, _, t_76 (d := d) (by omega) (Ly.wi (Ly.wi (Ly.wi L2 (a := 37) (k := 4) (x := ((i4 + 1 : Nat) : Int)) (by decide)) (a := 37) (k := 4) (x := ((i4 + 2 : Nat) : Int)) (by decide)) (a := 37) (k := 4) (x := ((i4 + 3 : Nat) : Int)) (by decide)) (TokR.adv (TokR.adv (TokR.adv K5 (ns c7 (by decide))) (ns c8 (by decide))) (ns c9 (by decide))), ?_⟩
              refine ⟨Or.inl rfl, ?_⟩
              exact H (Ly.wi (Ly.wi (Ly.wi (Ly.wi L2 (a := 37) (k := 4) (x := ((i4 + 1 : Nat) : Int)) (by decide)) (a := 37) (k := 4) (x := ((i4 + 2 : Nat) : Int)) (by decide)) (a := 37) (k := 4) (x := ((i4 + 3 : Nat) : Int)) (by decide)) (a := 37) (k := 5) (x := -10 - (tkP T (i4 + 3) : Int)) (by decide)) (TokR.flt (TokR.adv (TokR.adv (TokR.adv K5 (ns c7 (by decide))) (ns c8 (by decide))) (ns c9 (by decide))))
            · have H := H.2 c18
              refine ⟨fun c17 => ?_, fun c17 => ?_⟩
              · have H := H.1 c17
                refine ⟨(Ly.t93 L2 :), ?_⟩
                rw [show jr (wi (wi (wi h1 37 4 ((i4 + 1 : Nat) : Int)) 37 4 ((i4 + 2 : Nat) : Int)) 37 4 ((i4 + 3 : Nat) : Int)) 93 0 = 37 from (Ly.r93_0 L2 :)]
                refine ⟨(Ly.t37 L2 :), ?_⟩
                refine ⟨_, t_74 (d := d) (by omega) (Ly.wi (Ly.wi (Ly.wi L2 (a := 37) (k := 4) (x := ((i4 + 1 : Nat) : Int)) (by decide)) (a := 37) (k := 4) (x := ((i4 + 2 : Nat) : Int)) (by decide)) (a := 37) (k := 4) (x := ((i4 + 3 : Nat) : Int)) (by decide)) (TokR.adv (TokR.adv (TokR.adv K5 (ns c7 (by decide))) (ns c8 (by decide))) (ns c9 (by decide))) (ns c10 (by decide)), ?_⟩
                refine b_34_115 ?_
                refine ⟨(Ly.t93 L2 :), ?_⟩
                rw [show jr (wi (wi (wi (wi h1 37 4 ((i4 + 1 : Nat) : Int)) 37 4 ((i4 + 2 : Nat) : Int)) 37 4 ((i4 + 3 : Nat) : Int)) 37 4 ((i4 + 4 : Nat) : Int)) 93 1 = pT p from (Ly.r93_1 L2 :)]
                refine ⟨(Ly.dt0 L2 (Ly.iT L2) :), ?_⟩
                rw [show jr (wi (wi (wi (wi h1 37 4 ((i4 + 1 : Nat) : Int)) 37 4 ((i4 + 2 : Nat) : Int)) 37 4 ((i4 + 3 : Nat) : Int)) 37 4 ((i4 + 4 : Nat) : Int)) (pT p) 1 = (pT p + 5) from (Ly.dr0_1 L2 (Ly.iT L2) :)]
                refine ⟨(Ly.dt5 L2 (Ly.iT L2) :), ?_⟩
                have H := H (Ly.wi (Ly.wi (Ly.wi (Ly.wi L2 (a := 37) (k := 4) (x := ((i4 + 1 : Nat) : Int)) (by decide)) (a := 37) (k := 4) (x := ((i4 + 2 : Nat) : Int)) (by decide)) (a := 37) (k := 4) (x := ((i4 + 3 : Nat) : Int)) (by decide)) (a := 37) (k := 4) (x := ((i4 + 4 : Nat) : Int)) (by decide)) (TokR.adv (TokR.adv (TokR.adv (TokR.adv K5 (ns c7 (by decide))) (ns c8 (by decide))) (ns c9 (by decide))) (ns c10 (by decide)))
                obtain ⟨h11, e13, L12, i14, K15, H⟩ := H
                refine ⟨h11, e13, ?_⟩
                refine b_34_127 ?_
                refine ⟨(Ly.t93 L12 :), ?_⟩
                rw [show jr h11 93 0 = 37 from (Ly.r93_0 L12 :)]
                refine ⟨(Ly.t37 L12 :), ?_⟩
                by_cases c16 : tkK T i14 = 159
                · have H := H.1 c16
                  refine ⟨_, _, t_75y (d := d) (by omega) L12 K15 159 rfl c16 (ns c16 (by decide)), ?_⟩
                  refine ⟨Or.inr rfl, ?_⟩
                  exact H (Ly.wi L12 (a := 37) (k := 4) (x := ((i14 + 1 : Nat) : Int)) (by decide)) (TokR.adv K15 (ns c16 (by decide)))
                · have H := H.2 c16
                  refine ⟨_, _, t_75n (d := d) (by omega) L12 K15 159 rfl c16, ?_⟩
                  refine ⟨Or.inl rfl, ?_⟩
                  exact H (Ly.wi L12 (a := 37) (k := 5) (x := -10 - (tkP T i14 : Int)) (by decide)) (TokR.flt K15)
              · have H := H.2 c17
                refine ⟨(Ly.t93 L2 :), ?_⟩
                rw [show jr (wi (wi (wi h1 37 4 ((i4 + 1 : Nat) : Int)) 37 4 ((i4 + 2 : Nat) : Int)) 37 4 ((i4 + 3 : Nat) : Int)) 93 0 = 37 from (Ly.r93_0 L2 :)]
                refine ⟨(Ly.t37 L2 :), ?_⟩
                refine ⟨_, _, t_76 (d := d) (by omega) (Ly.wi (Ly.wi (Ly.wi L2 (a := 37) (k := 4) (x := ((i4 + 1 : Nat) : Int)) (by decide)) (a := 37) (k := 4) (x := ((i4 + 2 : Nat) : Int)) (by decide)) (a := 37) (k := 4) (x := ((i4 + 3 : Nat) : Int)) (by decide)) (TokR.adv (TokR.adv (TokR.adv K5 (ns c7 (by decide))) (ns c8 (by decide))) (ns c9 (by decide))), ?_⟩
                refine ⟨Or.inl rfl, ?_⟩
                exact H (Ly.wi (Ly.wi (Ly.wi (Ly.wi L2 (a := 37) (k := 4) (x := ((i4 + 1 : Nat) : Int)) (by decide)) (a := 37) (k := 4) (x := ((i4 + 2 : Nat) : Int)) (by decide)) (a := 37) (k := 4) (x := ((i4 + 3 : Nat) : Int)) (by decide)) (a := 37) (k := 5) (x := -10 - (tkP T (i4 + 3) : Int)) (by decide)) (TokR.flt (TokR.adv (TokR.adv (TokR.adv K5 (ns c7 (by decide))) (ns c8 (by decide))) (ns c9 (by decide))))
        · have H := H.2 c9
          refine ⟨_, _, t_75n (d := d) (by omega) (Ly.wi (Ly.wi L2 (a := 37) (k := 4) (x := ((i4 + 1 : Nat) : Int)) (by decide)) (a := 37) (k := 4) (x := ((i4 + 2 : Nat) : Int)) (by decide)) (TokR.adv (TokR.adv K5 (ns c7 (by decide))) (ns c8 (by decide))) 22 rfl c9, ?_⟩
          refine ⟨fun c => absurd c (by decide), fun _ => ?_⟩
          refine ⟨Or.inl rfl, ?_⟩
          exact H (Ly.wi (Ly.wi (Ly.wi L2 (a := 37) (k := 4) (x := ((i4 + 1 : Nat) : Int)) (by decide)) (a := 37) (k := 4) (x := ((i4 + 2 : Nat) : Int)) (by decide)) (a := 37) (k := 5) (x := -10 - (tkP T (i4 + 2) : Int)) (by decide)) (TokR.flt (TokR.adv (TokR.adv K5 (ns c7 (by decide))) (ns c8 (by decide))))
      · have H := H.2 c8
        refine ⟨_, _, t_75n (d := d) (by omega) (Ly.wi L2 (a := 37) (k := 4) (x := ((i4 + 1 : Nat) : Int)) (by decide)) (TokR.adv K5 (ns c7 (by decide))) 2 rfl c8, ?_⟩
        refine ⟨fun _ => ?_, fun c => absurd (by decide) c⟩
        refine ⟨Or.inl rfl, ?_⟩
        exact H (Ly.wi (Ly.wi L2 (a := 37) (k := 4) (x := ((i4 + 1 : Nat) : Int)) (by decide)) (a := 37) (k := 5) (x := -10 - (tkP T (i4 + 1) : Int)) (by decide)) (TokR.flt (TokR.adv K5 (ns c7 (by decide))))
    · have H := H.2 c7
      refine ⟨_, _, t_75n (d := d) (by omega) L2 K5 161 rfl c7, ?_⟩
      refine ⟨fun c => absurd c (by decide), fun _ => ?_⟩
      refine ⟨Or.inl rfl, ?_⟩
      exact H (Ly.wi L2 (a := 37) (k := 5) (x := -10 - (tkP T i4 : Int)) (by decide)) (TokR.flt K5)
set_option maxRecDepth 100000 in
theorem c_35_0 {p : Lpar} {d : Nat} {h : AH} {Q : Option AV → AH → Prop}  (hd : 9 ≤ d) (L : Ly p h) {T : Txt} {e i : Nat} (K : TokR T e i h) (H : ∃ x6 h1, jE d 33 [jP 93, jI 1, jI (ji h (pT p + 14) 4), jI 6] h (some (jI x6)) h1 ∧ Ly p h1 ∧ ∃ i4, TokR T e i4 h1 ∧ (x6 = (0 : Int) → Q (some (jI 0)) h1) ∧ (¬ (x6 = (0 : Int)) → ∃ x12 h7, jE d 40 [jP 93] h1 (some (jI x12)) h7 ∧ Ly p h7 ∧ ∃ i10, TokR T e i10 h7 ∧ (x12 = (0 : Int) → Q (some (jI 0)) h7) ∧ (¬ (x12 = (0 : Int)) → (tkK T i10 = 161 → (Ly p (wi h7 37 4 ((i10 + 1 : Nat) : Int)) → TokR T e (i10 + 1) (wi h7 37 4 ((i10 + 1 : Nat) : Int)) → ∃ x19 h14, jE d 53 [jP (pT p + 5), jI (ji h7 93 3)] (wi h7 37 4 ((i10 + 1 : Nat) : Int)) (some (jI x19)) h14 ∧ Ly p h14 ∧ ∃ i17, TokR T e i17 h14 ∧ ∃ x25 h20, jE d 53 [jP (pT p + 5), jI (ji h14 93 4)] h14 (some (jI x25)) h20 ∧ Ly p h20 ∧ ∃ i23, TokR T e i23 h20 ∧ WF d 35 73 [jP 93, jI (w32 (x19 * x25)), jI 0] [] h20 Q)) ∧ (¬ tkK T i10 = 161 → (Ly p (wi h7 37 5 (-10 - (tkP T i10 : Int))) → TokR T e i10 (wi h7 37 5 (-10 - (tkP T i10 : Int))) → Q (some (jI 0)) (wi h7 37 5 (-10 - (tkP T i10 : Int)))))))) : WF d 35 0 [jP 93, jU, jU] [] h Q := by
  refine b_35_0 ?_
  refine ⟨(Ly.t93 L :), ?_⟩
  rw [show jr h 93 1 = pT p from (Ly.r93_1 L :)]
  refine ⟨(Ly.dt0 L (Ly.iT L) :), ?_⟩
  rw [show jr h (pT p) 2 = (pT p + 14) from (Ly.dr0_2 L (Ly.iT L) :)]
  refine ⟨(Ly.dt14 L (Ly.iT L) :), ?_⟩
  refine ⟨(Ly.t93 L :), ?_⟩
  obtain ⟨x6, h1, e3, L2, i4, K5, H⟩ := H
  refine ⟨x6, h1, e3, ?_⟩
  refine ⟨fun c27 => ?_, fun c27 => ?_⟩
  · have H := H.1 c27
    refine ⟨Or.inl rfl, ?_⟩
    exact H
  · have H := H.2 c27
    refine ⟨(Ly.t93 L2 :), ?_⟩
    obtain ⟨x12, h7, e9, L8, i10, K11, H⟩ := H
    refine ⟨x12, h7, e9, ?_⟩
    refine ⟨fun c26 => ?_, fun c26 => ?_⟩
    · have H := H.1 c26
      refine ⟨Or.inl rfl, ?_⟩
      exact H
    · have H := H.2 c26
      refine ⟨(Ly.t93 L8 :), ?_⟩
      rw [show jr h7 93 0 = 37 from (Ly.r93_0 L8 :)]
      refine ⟨(Ly.t37 L8 :), ?_⟩
      by_cases c13 : tkK T i10 = 161
      · have H := H.1 c13
        refine ⟨_, _, t_75y (d := d) (by omega) L8 K11 161 rfl c13 (ns c13 (by decide)), ?_⟩
        refine ⟨fun _ => ?_, fun c => absurd (by decide) c⟩
        refine ⟨(Ly.t93 L8 :), ?_⟩
        rw [show jr (wi h7 37 4 ((i10 + 1 : Nat) : Int)) 93 1 = pT p from (Ly.r93_1 L8 :)]
        refine ⟨(Ly.dt0 L8 (Ly.iT L8) :), ?_⟩
        rw [show jr (wi h7 37 4 ((i10 + 1 : Nat) : Int)) (pT p) 1 = (pT p + 5) from (Ly.dr0_1 L8 (Ly.iT L8) :)]
        refine ⟨(Ly.t93 L8 :), ?_⟩
        refine ⟨(Ly.dt5 L8 (Ly.iT L8) :), ?_⟩
        have H := H (Ly.wi L8 (a := 37) (k := 4) (x := ((i10 + 1 : Nat) : Int)) (by decide)) (TokR.adv K11 (ns c13 (by decide)))
        obtain ⟨x19, h14, e16, L15, i17, K18, H⟩ := H
        refine ⟨x19, h14, e16, ?_⟩
        refine ⟨(Ly.t93 L15 :), ?_⟩
        rw [show jr h14 93 1 = pT p from (Ly.r93_1 L15 :)]
        refine ⟨(Ly.dt0 L15 (Ly.iT L15) :), ?_⟩
        rw [show jr h14 (pT p) 1 = (pT p + 5) from (Ly.dr0_1 L15 (Ly.iT L15) :)]
        refine ⟨(Ly.t93 L15 :), ?_⟩
        refine ⟨(Ly.dt5 L15 (Ly.iT L15) :), ?_⟩
        obtain ⟨x25, h20, e22, L21, i23, K24, H⟩ := H
        refine ⟨x25, h20, e22, ?_⟩
        refine b_35_71 ?_
        exact H
      · have H := H.2 c13
        refine ⟨_, _, t_75n (d := d) (by omega) L8 K11 161 rfl c13, ?_⟩
        refine ⟨fun c => absurd c (by decide), fun _ => ?_⟩
        refine ⟨Or.inl rfl, ?_⟩
        exact H (Ly.wi L8 (a := 37) (k := 5) (x := -10 - (tkP T i10 : Int)) (by decide)) (TokR.flt K11)
set_option maxRecDepth 100000 in
theorem c_35_73 {p : Lpar} {d : Nat} {h : AH} {Q : Option AV → AH → Prop} {v1 : Int} {v2 : Int} (hd : 9 ≤ d) (L : Ly p h) {T : Txt} {e i : Nat} (K : TokR T e i h) (H : (v1 ≤ v2 → ∃ h1, jE d 59 [jP (pT p + 14), jI (ji h 93 3), jI (ji h 93 4)] h none h1 ∧ Ly p h1 ∧ ∃ i4, TokR T e i4 h1 ∧ (tkK T i4 = 159 → (Ly p (wi h1 37 4 ((i4 + 1 : Nat) : Int)) → TokR T e (i4 + 1) (wi h1 37 4 ((i4 + 1 : Nat) : Int)) → Q (some (jI 1)) (wi h1 37 4 ((i4 + 1 : Nat) : Int)))) ∧ (¬ tkK T i4 = 159 → (Ly p (wi h1 37 5 (-10 - (tkP T i4 : Int))) → TokR T e i4 (wi h1 37 5 (-10 - (tkP T i4 : Int))) → Q (some (jI 0)) (wi h1 37 5 (-10 - (tkP T i4 : Int)))))) ∧ (¬ (v1 ≤ v2) → ∃ x12 h7, jE d 42 [jP 93] h (some (jI x12)) h7 ∧ Ly p h7 ∧ ∃ i10, TokR T e i10 h7 ∧ (x12 = (0 : Int) → Q (some (jI 0)) h7) ∧ (¬ x12 = (0 : Int) → ∃ h13, jE d 8 [jP (pT p), jI (ji h7 93 2)] h7 none h13 ∧ Ly p h13 ∧ ∃ i16, TokR T e i16 h13 ∧ WF d 35 73 [jP 93, jI v1, jI (w32 (v2 + 1))] [] h13 Q))) : WF d 35 73 [jP 93, jI v1, jI v2] [] h Q := by
  refine b_35_73 ?_
  refine ⟨fun c19 => ?_, fun c19 => ?_⟩
  · have H := H.1 c19
    refine ⟨(Ly.t93 L :), ?_⟩
    rw [show jr h 93 1 = pT p from (Ly.r93_1 L :)]
    refine ⟨(Ly.dt0 L (Ly.iT L) :), ?_⟩
    rw [show jr h (pT p) 2 = (pT p + 14) from (Ly.dr0_2 L (Ly.iT L) :)]
    refine ⟨(Ly.t93 L :), ?_⟩
    refine ⟨(Ly.t93 L :), ?_⟩
    refine ⟨(Ly.dt14 L (Ly.iT L) :), ?_⟩
    obtain ⟨h1, e3, L2, i4, K5, H⟩ := H
    refine ⟨h1, e3, ?_⟩
    refine b_35_122 ?_
    refine ⟨(Ly.t93 L2 :), ?_⟩
    rw [show jr h1 93 0 = 37 from (Ly.r93_0 L2 :)]
    refine ⟨(Ly.t37 L2 :), ?_⟩
    by_cases c6 : tkK T i4 = 159
    · have H := H.1 c6
      refine ⟨_, _, t_75y (d := d) (by omega) L2 K5 159 rfl c6 (ns c6 (by decide)), ?_⟩
      refine ⟨Or.inr rfl, ?_⟩
      exact H (Ly.wi L2 (a := 37) (k := 4) (x := ((i4 + 1 : Nat) : Int)) (by decide)) (TokR.adv K5 (ns c6 (by decide)))
    · have H := H.2 c6
      refine ⟨_, _, t_75n (d := d) (by omega) L2 K5 159 rfl c6, ?_⟩
      refine ⟨Or.inl rfl, ?_⟩
      exact H (Ly.wi L2 (a := 37) (k := 5) (x := -10 - (tkP T i4 : Int)) (by decide)) (TokR.flt K5)
  · have H := H.2 c19
    refine ⟨(Ly.t93 L :), ?_⟩
    obtain ⟨x12, h7, e9, L8, i10, K11, H⟩ := H
    refine ⟨x12, h7, e9, ?_⟩
    refine ⟨fun c18 => ?_, fun c18 => ?_⟩
    · have H := H.2 c18
      refine ⟨(Ly.t93 L8 :), ?_⟩
      rw [show jr h7 93 1 = pT p from (Ly.r93_1 L8 :)]
      refine ⟨(Ly.t93 L8 :), ?_⟩
      refine ⟨(Ly.dt0 L8 (Ly.iT L8) :), ?_⟩
      obtain ⟨h13, e15, L14, i16, K17, H⟩ := H
      refine ⟨h13, e15, ?_⟩
      refine b_35_98 ?_
      exact H
    · have c18 := Decidable.not_not.mp c18
      have H := H.1 c18
      refine ⟨Or.inl rfl, ?_⟩
      exact H
set_option maxRecDepth 100000 in
theorem c_36_0 {p : Lpar} {d : Nat} {h : AH} {Q : Option AV → AH → Prop}  (hd : 9 ≤ d) (L : Ly p h) {T : Txt} {e i : Nat} (K : TokR T e i h) (H : ∃ x6 h1, jE d 33 [jP 93, jI 2, jI (ji h (pT p + 18) 4), jI 6] h (some (jI x6)) h1 ∧ Ly p h1 ∧ ∃ i4, TokR T e i4 h1 ∧ (x6 = (0 : Int) → Q (some (jI 0)) h1) ∧ (¬ (x6 = (0 : Int)) → ∃ x12 h7, jE d 40 [jP 93] h1 (some (jI x12)) h7 ∧ Ly p h7 ∧ ∃ i10, TokR T e i10 h7 ∧ (x12 = (0 : Int) → Q (some (jI 0)) h7) ∧ (¬ (x12 = (0 : Int)) → (tkK T i10 = 18 → (Ly p (wi h7 37 4 ((i10 + 1 : Nat) : Int)) → TokR T e (i10 + 1) (wi h7 37 4 ((i10 + 1 : Nat) : Int)) → ∃ x19 h14, jE d 42 [jP 93] (wi h7 37 4 ((i10 + 1 : Nat) : Int)) (some (jI x19)) h14 ∧ Ly p h14 ∧ ∃ i17, TokR T e i17 h14 ∧ (x19 = (0 : Int) → Q (some (jI 0)) h14) ∧ (¬ x19 = (0 : Int) → (tkK T i17 = 22 → (Ly p (wi h14 37 4 ((i17 + 1 : Nat) : Int)) → TokR T e (i17 + 1) (wi h14 37 4 ((i17 + 1 : Nat) : Int)) → ∃ x26 h21, jE d 42 [jP 93] (wi h14 37 4 ((i17 + 1 : Nat) : Int)) (some (jI x26)) h21 ∧ Ly p h21 ∧ ∃ i24, TokR T e i24 h21 ∧ (x26 = (0 : Int) → Q (some (jI 0)) h21) ∧ (¬ x26 = (0 : Int) → ((ji h14 93 2) ≤ (ji h21 93 2) → 0 ≤ (ji h (pT p + 18) 4) ∧ (ji h (pT p + 18) 4) < 6 ∧ 0 ≤ (ji h (pT p + 18) 4) ∧ (ji h (pT p + 18) 4) < 6 ∧ (Ly p (wi (wi h21 (pT p + 9) (Int.toNat (ji h (pT p + 18) 4)) (ji h14 93 2)) (pT p + 10) (Int.toNat (ji h (pT p + 18) 4)) (ji (wi h21 (pT p + 9) (Int.toNat (ji h (pT p + 18) 4)) (ji h14 93 2)) 93 2)) → TokR T e i24 (wi (wi h21 (pT p + 9) (Int.toNat (ji h (pT p + 18) 4)) (ji h14 93 2)) (pT p + 10) (Int.toNat (ji h (pT p + 18) 4)) (ji (wi h21 (pT p + 9) (Int.toNat (ji h (pT p + 18) 4)) (ji h14 93 2)) 93 2)) → ∃ h27, jE d 59 [jP (pT p + 18), jI (ji (wi (wi h21 (pT p + 9) (Int.toNat (ji h (pT p + 18) 4)) (ji h14 93 2)) (pT p + 10) (Int.toNat (ji h (pT p + 18) 4)) (ji (wi h21 (pT p + 9) (Int.toNat (ji h (pT p + 18) 4)) (ji h14 93 2)) 93 2)) 93 3), jI (ji (wi (wi h21 (pT p + 9) (Int.toNat (ji h (pT p + 18) 4)) (ji h14 93 2)) (pT p + 10) (Int.toNat (ji h (pT p + 18) 4)) (ji (wi h21 (pT p + 9) (Int.toNat (ji h (pT p + 18) 4)) (ji h14 93 2)) 93 2)) 93 4)] (wi (wi h21 (pT p + 9) (Int.toNat (ji h (pT p + 18) 4)) (ji h14 93 2)) (pT p + 10) (Int.toNat (ji h (pT p + 18) 4)) (ji (wi h21 (pT p + 9) (Int.toNat (ji h (pT p + 18) 4)) (ji h14 93 2)) 93 2)) none h27 ∧ Ly p h27 ∧ ∃ i30, TokR T e i30 h27 ∧ (tkK T i30 = 159 → (Ly p (wi h27 37 4 ((i30 + 1 : Nat) : Int)) → TokR T e (i30 + 1) (wi h27 37 4 ((i30 + 1 : Nat) : Int)) → Q (some (jI 1)) (wi h27 37 4 ((i30 + 1 : Nat) : Int)))) ∧ (¬ tkK T i30 = 159 → (Ly p (wi h27 37 5 (-10 - (tkP T i30 : Int))) → TokR T e i30 (wi h27 37 5 (-10 - (tkP T i30 : Int))) → Q (some (jI 0)) (wi h27 37 5 (-10 - (tkP T i30 : Int))))))) ∧ (¬ ((ji h14 93 2) ≤ (ji h21 93 2)) → (0 ≤ (tkP T (i17 + 1) : Int) ∧ (tkP T (i17 + 1) : Int) ≤ 1000) ∧ (Ly p (wi h21 37 5 (-10 - (tkP T (i17 + 1) : Int))) → TokR T e i24 (wi h21 37 5 (-10 - (tkP T (i17 + 1) : Int))) → Q (some (jI 0)) (wi h21 37 5 (-10 - (tkP T (i17 + 1) : Int)))))))) ∧ (¬ tkK T i17 = 22 → (Ly p (wi h14 37 5 (-10 - (tkP T i17 : Int))) → TokR T e i17 (wi h14 37 5 (-10 - (tkP T i17 : Int))) → Q (some (jI 0)) (wi h14 37 5 (-10 - (tkP T i17 : Int)))))))) ∧ (¬ tkK T i10 = 18 → (Ly p (wi h7 37 5 (-10 - (tkP T i10 : Int))) → TokR T e i10 (wi h7 37 5 (-10 - (tkP T i10 : Int))) → Q (some (jI 0)) (wi h7 37 5 (-10 - (tkP T i10 : Int)))))))) : WF d 36 0 [jP 93, jU, jU, jU] [] h Q := by
  refine b_36_0 ?_
  refine ⟨(Ly.t93 L :), ?_⟩
  rw [show jr h 93 1 = pT p from (Ly.r93_1 L :)]
  refine ⟨(Ly.dt0 L (Ly.iT L) :), ?_⟩
  rw [show jr h (pT p) 3 = (pT p + 18) from (Ly.dr0_3 L (Ly.iT L) :)]
  refine ⟨(Ly.dt18 L (Ly.iT L) :), ?_⟩
  refine b_36_11 ?_
  refine ⟨(Ly.t93 L :), ?_⟩
  obtain ⟨x6, h1, e3, L2, i4, K5, H⟩ := H
  refine ⟨x6, h1, e3, ?_⟩
  refine ⟨fun c42 => ?_, fun c42 => ?_⟩
  · have H := H.1 c42
    refine ⟨Or.inl rfl, ?_⟩
    exact H
  · have H := H.2 c42
    refine ⟨(Ly.t93 L2 :), ?_⟩
    obtain ⟨x12, h7, e9, L8, i10, K11, H⟩ := H
    refine ⟨x12, h7, e9, ?_⟩
    refine ⟨fun c41 => ?_, fun c41 => ?_⟩
    · have H := H.1 c41
      refine ⟨Or.inl rfl, ?_⟩
      exact H
    · have H := H.2 c41
      refine ⟨(Ly.t93 L8 :), ?_⟩
      rw [show jr h7 93 0 = 37 from (Ly.r93_0 L8 :)]
      refine ⟨(Ly.t37 L8 :), ?_⟩
      by_cases c13 : tkK T i10 = 18
      · have H := H.1 c13
        refine ⟨_, _, t_75y (d := d) (by omega) L8 K11 18 rfl c13 (ns c13 (by decide)), ?_⟩
        refine ⟨fun c => absurd c (by decide), fun _ => ?_⟩
        refine ⟨(Ly.t93 L8 :), ?_⟩
        have H := H (Ly.wi L8 (a := 37) (k := 4) (x := ((i10 + 1 : Nat) : Int)) (by decide)) (TokR.adv K11 (ns c13 (by decide)))
        obtain ⟨x19, h14, e16, L15, i17, K18, H⟩ := H
        refine ⟨x19, h14, e16, ?_⟩
        refine ⟨fun c40 => ?_, fun c40 => ?_⟩
        · have H := H.2 c40
          refine ⟨(Ly.t93 L15 :), ?_⟩
          refine b_36_56 ?_
          refine ⟨(Ly.t93 L15 :), ?_⟩
          rw [show jr h14 93 0 = 37 from (Ly.r93_0 L15 :)]
          refine ⟨(Ly.t37 L15 :), ?_⟩
          by_cases c20 : tkK T i17 = 22
          · have H := H.1 c20
            refine ⟨_, _, t_75y (d := d) (by omega) L15 K18 22 rfl c20 (ns c20 (by decide)), ?_⟩
            refine ⟨fun _ => ?_, fun c => absurd (by decide) c⟩
            refine ⟨(Ly.t93 L15 :), ?_⟩
            rw [show jr (wi h14 37 4 ((i17 + 1 : Nat) : Int)) 93 0 = 37 from (Ly.r93_0 L15 :)]
            refine ⟨(Ly.t37 L15 :), ?_⟩
            refine ⟨_, _, t_71 (d := d) (by omega) (Ly.wi L15 (a := 37) (k := 4) (x := ((i17 + 1 : Nat) : Int)) (by decide)) (TokR.adv K18 (ns c20 (by decide))), ?_⟩
            refine b_36_78 ?_
            refine ⟨(Ly.t93 L15 :), ?_⟩
            have H := H (Ly.wi L15 (a := 37) (k := 4) (x := ((i17 + 1 : Nat) : Int)) (by decide)) (TokR.adv K18 (ns c20 (by decide)))
            obtain ⟨x26, h21, e23, L22, i24, K25, H⟩ := H
            refine ⟨x26, h21, e23, ?_⟩
            refine ⟨fun c39 => ?_, fun c39 => ?_⟩
            · have H := H.2 c39
              refine ⟨(Ly.t93 L22 :), ?_⟩
              refine ⟨fun c38 => ?_, fun c38 => ?_⟩
              · have H := H.1 c38
                refine ⟨(Ly.t93 L22 :), ?_⟩
                rw [show jr h21 93 1 = pT p from (Ly.r93_1 L22 :)]
                refine ⟨(Ly.dt0 L22 (Ly.iT L22) :), ?_⟩
                rw [show jr h21 (pT p) 7 = (pT p + 9) from (Ly.dr0_7 L22 (Ly.iT L22) :)]
                obtain ⟨z35, z36, H⟩ := H
                refine ⟨inW_mk (N := 6) (Ly.dt9 L22 (Ly.iT L22) :) (Ly.dn9 L22 (Ly.iT L22) :) z35 z36, ?_⟩
                refine b_36_115 ?_
                refine ⟨(Ly.t93 L22 :), ?_⟩
                rw [show jr (wi h21 (pT p + 9) (Int.toNat (ji h (pT p + 18) 4)) (ji h14 93 2)) 93 1 = pT p from (Ly.r93_1 L22 :)]
                refine ⟨(Ly.dt0 L22 (Ly.iT L22) :), ?_⟩
                rw [show jr (wi h21 (pT p + 9) (Int.toNat (ji h (pT p + 18) 4)) (ji h14 93 2)) (pT p) 8 = (pT p + 10) from (Ly.dr0_8 L22 (Ly.iT L22) :)]
                refine ⟨(Ly.t93 L22 :), ?_⟩
                obtain ⟨z33, z34, H⟩ := H
                refine ⟨inW_mk (N := 6) (Ly.dt10 L22 (Ly.iT L22) :) (Ly.dn10 L22 (Ly.iT L22) :) z33 z34, ?_⟩
                refine b_36_128 ?_
                refine ⟨(Ly.t93 L22 :), ?_⟩
                rw [show jr (wi (wi h21 (pT p + 9) (Int.toNat (ji h (pT p + 18) 4)) (ji h14 93 2)) (pT p + 10) (Int.toNat (ji h (pT p + 18) 4)) (ji (wi h21 (pT p + 9) (Int.toNat (ji h (pT p + 18) 4)) (ji h14 93 2)) 93 2)) 93 1 = pT p from (Ly.r93_1 L22 :)]
                refine ⟨(Ly.dt0 L22 (Ly.iT L22) :), ?_⟩
                rw [show jr (wi (wi h21 (pT p + 9) (Int.toNat (ji h (pT p + 18) 4)) (ji h14 93 2)) (pT p + 10) (Int.toNat (ji h (pT p + 18) 4)) (ji (wi h21 (pT p + 9) (Int.toNat (ji h (pT p + 18) 4)) (ji h14 93 2)) 93 2)) (pT p) 3 = (pT p + 18) from (Ly.dr0_3 L22 (Ly.iT L22) :)]
                refine ⟨(Ly.t93 L22 :), ?_⟩
                refine ⟨(Ly.t93 L22 :), ?_⟩
                refine ⟨(Ly.dt18 L22 (Ly.iT L22) :), ?_⟩
                have H := H (Ly.wi (Ly.wi L22 (a := (pT p + 9)) (k := Int.toNat (ji h (pT p + 18) 4)) (x := ji h14 93 2) (by have := (Ly.iT L22); unfold isD at this; omega)) (a := (pT p + 10)) (k := Int.toNat (ji h (pT p + 18) 4)) (x := ji (wi h21 (pT p + 9) (Int.toNat (ji h (pT p + 18) 4)) (ji h14 93 2)) 93 2) (by have := (Ly.iT L22); unfold isD at this; omega)) (TokR.swi (TokR.swi K25 (a := (pT p + 9)) (k := Int.toNat (ji h (pT p + 18) 4)) (x := ji h14 93 2) (by have := (Ly.iT L22); unfold isD at this; omega)) (a := (pT p + 10)) (k := Int.toNat (ji h (pT p + 18) 4)) (x := ji (wi h21 (pT p + 9) (Int.toNat (ji h (pT p + 18) 4)) (ji h14 93 2)) 93 2) (by have := (Ly.iT L22); unfold isD at this; omega))
                obtain ⟨h27, e29, L28, i30, K31, H⟩ := H
                refine ⟨h27, e29, ?_⟩
                refine b_36_146 ?_
                refine ⟨(Ly.t93 L28 :), ?_⟩
                rw [show jr h27 93 0 = 37 from (Ly.r93_0 L28 :)]
                refine ⟨(Ly.t37 L28 :), ?_⟩
                by_cases c32 : tkK T i30 = 159
                · have H := H.1 c32
                  refine ⟨_, _, t_75y (d := d) (by omega) L28 K31 159 rfl c32 (ns c32 (by decide)), ?_⟩
                  refine ⟨Or.inr rfl, ?_⟩
                  exact H (Ly.wi L28 (a := 37) (k := 4) (x := ((i30 + 1 : Nat) : Int)) (by decide)) (TokR.adv K31 (ns c32 (by decide)))
                · have H := H.2 c32
                  refine ⟨_, _, t_75n (d := d) (by omega) L28 K31 159 rfl c32, ?_⟩
                  refine ⟨Or.inl rfl, ?_⟩
                  exact H (Ly.wi L28 (a := 37) (k := 5) (x := -10 - (tkP T i30 : Int)) (by decide)) (TokR.flt K31)
              · have H := H.2 c38
                refine ⟨(Ly.t93 L22 :), ?_⟩
                rw [show jr h21 93 0 = 37 from (Ly.r93_0 L22 :)]
                refine ⟨(Ly.t37 L22 :), ?_⟩
                obtain ⟨z37, H⟩ := H
                refine ⟨_, m_77 (d := d) (by omega) L22 z37, ?_⟩
                refine b_36_103 ?_
                refine ⟨Or.inl rfl, ?_⟩
                exact H (Ly.wi L22 (a := 37) (k := 5) (x := -10 - (tkP T (i17 + 1) : Int)) (by decide)) (TokR.flt K25)
            · have c39 := Decidable.not_not.mp c39
              have H := H.1 c39
              refine ⟨Or.inl rfl, ?_⟩
              exact H
          · have H := H.2 c20
            refine ⟨_, _, t_75n (d := d) (by omega) L15 K18 22 rfl c20, ?_⟩
            refine ⟨fun c => absurd c (by decide), fun _ => ?_⟩
            refine ⟨Or.inl rfl, ?_⟩
            exact H (Ly.wi L15 (a := 37) (k := 5) (x := -10 - (tkP T i17 : Int)) (by decide)) (TokR.flt K18)
        · have c40 := Decidable.not_not.mp c40
          have H := H.1 c40
          refine ⟨Or.inl rfl, ?_⟩
          exact H
      · have H := H.2 c13
        refine ⟨_, _, t_75n (d := d) (by omega) L8 K11 18 rfl c13, ?_⟩
        refine ⟨fun _ => ?_, fun c => absurd (by decide) c⟩
        refine ⟨Or.inl rfl, ?_⟩
        exact H (Ly.wi L8 (a := 37) (k := 5) (x := -10 - (tkP T i10 : Int)) (by decide)) (TokR.flt K11)
set_option maxRecDepth 100000 in
theorem c_38_0 {p : Lpar} {d : Nat} {h : AH} {Q : Option AV → AH → Prop} {v1 : Int} (hd : 9 ≤ d) (L : Ly p h) {T : Txt} {e i : Nat} (K : TokR T e i h) (H : (tkK T i = 20 → 0 ≤ v1 ∧ v1 < 10 ∧ (Ly p (wi (wi h (pT p + 11) (Int.toNat v1) (-1 : Int)) 37 4 ((i + 1 : Nat) : Int)) → TokR T e (i + 1) (wi (wi h (pT p + 11) (Int.toNat v1) (-1 : Int)) 37 4 ((i + 1 : Nat) : Int)) → Q (some (jI 1)) (wi (wi h (pT p + 11) (Int.toNat v1) (-1 : Int)) 37 4 ((i + 1 : Nat) : Int)))) ∧ (¬ tkK T i = 20 → (tkK T i = 21 → 0 ≤ v1 ∧ v1 < 10 ∧ (Ly p (wi (wi h (pT p + 11) (Int.toNat v1) (1 : Int)) 37 4 ((i + 1 : Nat) : Int)) → TokR T e (i + 1) (wi (wi h (pT p + 11) (Int.toNat v1) (1 : Int)) 37 4 ((i + 1 : Nat) : Int)) → Q (some (jI 1)) (wi (wi h (pT p + 11) (Int.toNat v1) (1 : Int)) 37 4 ((i + 1 : Nat) : Int)))) ∧ (¬ tkK T i = 21 → (tkK T i = 161 → 0 ≤ v1 ∧ v1 < 10 ∧ (Ly p (wi (wi h (pT p + 11) (Int.toNat v1) (0 : Int)) 37 4 ((i + 1 : Nat) : Int)) → TokR T e (i + 1) (wi (wi h (pT p + 11) (Int.toNat v1) (0 : Int)) 37 4 ((i + 1 : Nat) : Int)) → Q (some (jI 1)) (wi (wi h (pT p + 11) (Int.toNat v1) (0 : Int)) 37 4 ((i + 1 : Nat) : Int)))) ∧ (¬ tkK T i = 161 → (Ly p (wi h 37 5 (-10 - (tkP T i : Int))) → TokR T e i (wi h 37 5 (-10 - (tkP T i : Int))) → Q (some (jI 0)) (wi h 37 5 (-10 - (tkP T i : Int)))))))) : WF d 38 0 [jP 93, jI v1] [] h Q := by
  refine b_38_0 ?_
  refine ⟨(Ly.t93 L :), ?_⟩
  rw [show jr h 93 0 = 37 from (Ly.r93_0 L :)]
  refine ⟨(Ly.t37 L :), ?_⟩
  refine ⟨_, _, t_70 (d := d) (by omega) L K, ?_⟩
  rw [show (ck (tkK T i) = 5) = (tkK T i = 20) from TokR.ckE K 20 rfl]
  refine ⟨fun c1 => ?_, fun c1 => ?_⟩
  · have H := H.1 c1
    refine ⟨(Ly.t93 L :), ?_⟩
    rw [show jr h 93 1 = pT p from (Ly.r93_1 L :)]
    refine ⟨(Ly.dt0 L (Ly.iT L) :), ?_⟩
    rw [show jr h (pT p) 9 = (pT p + 11) from (Ly.dr0_9 L (Ly.iT L) :)]
    obtain ⟨z2, z3, H⟩ := H
    refine ⟨inW_mk (N := 10) (Ly.dt11 L (Ly.iT L) :) (Ly.dn11 L (Ly.iT L) :) z2 z3, ?_⟩
    refine ⟨(Ly.t93 L :), ?_⟩
    rw [show jr (wi h (pT p + 11) (Int.toNat v1) (-1 : Int)) 93 0 = 37 from (Ly.r93_0 L :)]
    refine ⟨(Ly.t37 L :), ?_⟩
    refine ⟨_, t_74 (d := d) (by omega) (Ly.wi L (a := (pT p + 11)) (k := Int.toNat v1) (x := (-1)) (by have := (Ly.iT L); unfold isD at this; omega)) (TokR.swi K (a := (pT p + 11)) (k := Int.toNat v1) (x := (-1)) (by have := (Ly.iT L); unfold isD at this; omega)) (ns c1 (by decide)), ?_⟩
    refine ⟨Or.inr rfl, ?_⟩
    exact H (Ly.wi (Ly.wi L (a := (pT p + 11)) (k := Int.toNat v1) (x := (-1)) (by have := (Ly.iT L); unfold isD at this; omega)) (a := 37) (k := 4) (x := ((i + 1 : Nat) : Int)) (by decide)) (TokR.adv (TokR.swi K (a := (pT p + 11)) (k := Int.toNat v1) (x := (-1)) (by have := (Ly.iT L); unfold isD at this; omega)) (ns c1 (by decide)))
  · have H := H.2 c1
    rw [show (ck (tkK T i) = 6) = (tkK T i = 21) from TokR.ckE K 21 rfl]
    refine ⟨fun c4 => ?_, fun c4 => ?_⟩
    · have H := H.1 c4
      refine ⟨(Ly.t93 L :), ?_⟩
      rw [show jr h 93 1 = pT p from (Ly.r93_1 L :)]
      refine ⟨(Ly.dt0 L (Ly.iT L) :), ?_⟩
      rw [show jr h (pT p) 9 = (pT p + 11) from (Ly.dr0_9 L (Ly.iT L) :)]
      obtain ⟨z5, z6, H⟩ := H
      refine ⟨inW_mk (N := 10) (Ly.dt11 L (Ly.iT L) :) (Ly.dn11 L (Ly.iT L) :) z5 z6, ?_⟩
      refine ⟨(Ly.t93 L :), ?_⟩
      rw [show jr (wi h (pT p + 11) (Int.toNat v1) (1 : Int)) 93 0 = 37 from (Ly.r93_0 L :)]
      refine ⟨(Ly.t37 L :), ?_⟩
      refine ⟨_, t_74 (d := d) (by omega) (Ly.wi L (a := (pT p + 11)) (k := Int.toNat v1) (x := 1) (by have := (Ly.iT L); unfold isD at this; omega)) (TokR.swi K (a := (pT p + 11)) (k := Int.toNat v1) (x := 1) (by have := (Ly.iT L); unfold isD at this; omega)) (ns c4 (by decide)), ?_⟩
      refine ⟨Or.inr rfl, ?_⟩
      exact H (Ly.wi (Ly.wi L (a := (pT p + 11)) (k := Int.toNat v1) (x := 1) (by have := (Ly.iT L); unfold isD at this; omega)) (a := 37) (k := 4) (x := ((i + 1 : Nat) : Int)) (by decide)) (TokR.adv (TokR.swi K (a := (pT p + 11)) (k := Int.toNat v1) (x := 1) (by have := (Ly.iT L); unfold isD at this; omega)) (ns c4 (by decide)))
    · have H := H.2 c4
      rw [show (ck (tkK T i) = 61) = (tkK T i = 161) from TokR.ckE K 161 rfl]
      refine ⟨fun c7 => ?_, fun c7 => ?_⟩
      · have H := H.1 c7
        refine ⟨(Ly.t93 L :), ?_⟩
        rw [show jr h 93 1 = pT p from (Ly.r93_1 L :)]
        refine ⟨(Ly.dt0 L (Ly.iT L) :), ?_⟩
        rw [show jr h (pT p) 9 = (pT p + 11) from (Ly.dr0_9 L (Ly.iT L) :)]
        obtain ⟨z8, z9, H⟩ := H
        refine ⟨inW_mk (N := 10) (Ly.dt11 L (Ly.iT L) :) (Ly.dn11 L (Ly.iT L) :) z8 z9, ?_⟩
        refine ⟨(Ly.t93 L :), ?_⟩
        rw [show jr (wi h (pT p + 11) (Int.toNat v1) (0 : Int)) 93 0 = 37 from (Ly.r93_0 L :)]
        refine ⟨(Ly.t37 L :), ?_⟩
        refine ⟨_, t_74 (d := d) (by omega) (Ly.wi L (a := (pT p + 11)) (k := Int.toNat v1) (x := 0) (by have := (Ly.iT L); unfold isD at this; omega)) (TokR.swi K (a := (pT p + 11)) (k := Int.toNat v1) (x := 0) (by have := (Ly.iT L); unfold isD at this; omega)) (ns c7 (by decide)), ?_⟩
        refine ⟨Or.inr rfl, ?_⟩
        exact H (Ly.wi (Ly.wi L (a := (pT p + 11)) (k := Int.toNat v1) (x := 0) (by have := (Ly.iT L); unfold isD at this; omega)) (a := 37) (k := 4) (x := ((i + 1 : Nat) : Int)) (by decide)) (TokR.adv (TokR.swi K (a := (pT p + 11)) (k := Int.toNat v1) (x := 0) (by have := (Ly.iT L); unfold isD at this; omega)) (ns c7 (by decide)))
      · have H := H.2 c7
        refine ⟨(Ly.t93 L :), ?_⟩
        rw [show jr h 93 0 = 37 from (Ly.r93_0 L :)]
        refine ⟨(Ly.t37 L :), ?_⟩
        refine ⟨_, _, t_76 (d := d) (by omega) L K, ?_⟩
        refine ⟨Or.inl rfl, ?_⟩
        exact H (Ly.wi L (a := 37) (k := 5) (x := -10 - (tkP T i : Int)) (by decide)) (TokR.flt K)
set_option maxRecDepth 100000 in
theorem c_40_0 {p : Lpar} {d : Nat} {h : AH} {Q : Option AV → AH → Prop}  (hd : 9 ≤ d) (L : Ly p h) {T : Txt} {e i : Nat} (K : TokR T e i h) (H : (tkK T i = 191 → (Ly p (wi (wi (wi h 93 3 (-1)) 93 4 (-1)) 37 4 ((i + 1 : Nat) : Int)) → TokR T e (i + 1) (wi (wi (wi h 93 3 (-1)) 93 4 (-1)) 37 4 ((i + 1 : Nat) : Int)) → ∃ x7 h2, jE d 41 [jP 93] (wi (wi (wi h 93 3 (-1)) 93 4 (-1)) 37 4 ((i + 1 : Nat) : Int)) (some (jI x7)) h2 ∧ Ly p h2 ∧ ∃ i5, TokR T e i5 h2 ∧ (x7 = (-1) → (Ly p (wi h2 93 3 x7) → TokR T e i5 (wi h2 93 3 x7) → Q (some (jI 0)) (wi h2 93 3 x7))) ∧ (¬ x7 = (-1) → (tkK T i5 = 144 → (Ly p (wi (wi h2 93 3 x7) 37 4 ((i5 + 1 : Nat) : Int)) → TokR T e (i5 + 1) (wi (wi h2 93 3 x7) 37 4 ((i5 + 1 : Nat) : Int)) → ∃ x14 h9, jE d 41 [jP 93] (wi (wi h2 93 3 x7) 37 4 ((i5 + 1 : Nat) : Int)) (some (jI x14)) h9 ∧ Ly p h9 ∧ ∃ i12, TokR T e i12 h9 ∧ (x14 = (-1) → (Ly p (wi h9 93 4 x14) → TokR T e i12 (wi h9 93 4 x14) → Q (some (jI 0)) (wi h9 93 4 x14))) ∧ (¬ x14 = (-1) → (tkK T i12 = 193 → (Ly p (wi (wi h9 93 4 x14) 37 4 ((i12 + 1 : Nat) : Int)) → TokR T e (i12 + 1) (wi (wi h9 93 4 x14) 37 4 ((i12 + 1 : Nat) : Int)) → Q (some (jI 1)) (wi (wi h9 93 4 x14) 37 4 ((i12 + 1 : Nat) : Int)))) ∧ (¬ tkK T i12 = 193 → (Ly p (wi (wi h9 93 4 x14) 37 5 (-10 - (tkP T i12 : Int))) → TokR T e i12 (wi (wi h9 93 4 x14) 37 5 (-10 - (tkP T i12 : Int))) → Q (some (jI 0)) (wi (wi h9 93 4 x14) 37 5 (-10 - (tkP T i12 : Int)))))))) ∧ (¬ tkK T i5 = 144 → (tkK T i5 = 193 → (Ly p (wi (wi h2 93 3 x7) 37 4 ((i5 + 1 : Nat) : Int)) → TokR T e (i5 + 1) (wi (wi h2 93 3 x7) 37 4 ((i5 + 1 : Nat) : Int)) → Q (some (jI 1)) (wi (wi h2 93 3 x7) 37 4 ((i5 + 1 : Nat) : Int)))) ∧ (¬ tkK T i5 = 193 → (Ly p (wi (wi h2 93 3 x7) 37 5 (-10 - (tkP T i5 : Int))) → TokR T e i5 (wi (wi h2 93 3 x7) 37 5 (-10 - (tkP T i5 : Int))) → Q (some (jI 0)) (wi (wi h2 93 3 x7) 37 5 (-10 - (tkP T i5 : Int))))))))) ∧ (¬ tkK T i = 191 → (Ly p (wi (wi h 93 3 (-1)) 93 4 (-1)) → TokR T e i (wi (wi h 93 3 (-1)) 93 4 (-1)) → Q (some (jI 1)) (wi (wi h 93 3 (-1)) 93 4 (-1))))) : WF d 40 0 [jP 93] [] h Q := by
  refine b_40_0 ?_
  refine ⟨(Ly.t93 L :), ?_⟩
  refine b_40_5 ?_
  refine ⟨(Ly.t93 L :), ?_⟩
  refine b_40_10 ?_
  refine ⟨(Ly.t93 L :), ?_⟩
  rw [show jr (wi (wi h 93 3 (-1)) 93 4 (-1)) 93 0 = 37 from (Ly.r93_0 L :)]
  refine ⟨(Ly.t37 L :), ?_⟩
  refine ⟨_, _, t_70 (d := d) (by omega) (Ly.wi (Ly.wi L (a := 93) (k := 3) (x := (-1)) (by decide)) (a := 93) (k := 4) (x := (-1)) (by decide)) (TokR.swi (TokR.swi K (a := 93) (k := 3) (x := (-1)) (by decide)) (a := 93) (k := 4) (x := (-1)) (by decide)), ?_⟩
  rw [show (ck (tkK T i) = 91) = (tkK T i = 191) from TokR.ckE (TokR.swi (TokR.swi K (a := 93) (k := 3) (x := (-1)) (by decide)) (a := 93) (k := 4) (x := (-1)) (by decide)) 191 rfl]
  refine ⟨fun c1 => ?_, fun c1 => ?_⟩
  · have H := H.1 c1
    refine ⟨(Ly.t93 L :), ?_⟩
    rw [show jr (wi (wi h 93 3 (-1)) 93 4 (-1)) 93 0 = 37 from (Ly.r93_0 L :)]
    refine ⟨(Ly.t37 L :), ?_⟩
    refine ⟨_, t_74 (d := d) (by omega) (Ly.wi (Ly.wi L (a := 93) (k := 3) (x := (-1)) (by decide)) (a := 93) (k := 4) (x := (-1)) (by decide)) (TokR.swi (TokR.swi K (a := 93) (k := 3) (x := (-1)) (by decide)) (a := 93) (k := 4) (x := (-1)) (by decide)) (ns c1 (by decide)), ?_⟩
    refine b_40_31 ?_
    refine ⟨(Ly.t93 L :), ?_⟩
    have H := H (Ly.wi (Ly.wi (Ly.wi L (a := 93) (k := 3) (x := (-1)) (by decide)) (a := 93) (k := 4) (x := (-1)) (by decide)) (a := 37) (k := 4) (x := ((i + 1 : Nat) : Int)) (by decide)) (TokR.adv (TokR.swi (TokR.swi K (a := 93) (k := 3) (x := (-1)) (by decide)) (a := 93) (k := 4) (x := (-1)) (by decide)) (ns c1 (by decide)))
    obtain ⟨x7, h2, e4, L3, i5, K6, H⟩ := H
    refine ⟨x7, h2, e4, ?_⟩
    refine ⟨(Ly.t93 L3 :), ?_⟩
    refine b_40_39 ?_
    refine ⟨(Ly.t93 L3 :), ?_⟩
    refine ⟨fun c18 => ?_, fun c18 => ?_⟩
    · have H := H.2 c18
      refine ⟨(Ly.t93 L3 :), ?_⟩
      rw [show jr (wi h2 93 3 x7) 93 0 = 37 from (Ly.r93_0 L3 :)]
      refine ⟨(Ly.t37 L3 :), ?_⟩
      refine ⟨_, _, t_70 (d := d) (by omega) (Ly.wi L3 (a := 93) (k := 3) (x := x7) (by decide)) (TokR.swi K6 (a := 93) (k := 3) (x := x7) (by decide)), ?_⟩
      rw [show (ck (tkK T i5) = 44) = (tkK T i5 = 144) from TokR.ckE (TokR.swi K6 (a := 93) (k := 3) (x := x7) (by decide)) 144 rfl]
      refine ⟨fun c8 => ?_, fun c8 => ?_⟩
      · have H := H.2 c8
        refine ⟨(Ly.t93 L3 :), ?_⟩
        rw [show jr (wi h2 93 3 x7) 93 0 = 37 from (Ly.r93_0 L3 :)]
        refine ⟨(Ly.t37 L3 :), ?_⟩
        by_cases c17 : tkK T i5 = 193
        · have H := H.1 c17
          refine ⟨_, _, t_75y (d := d) (by omega) (Ly.wi L3 (a := 93) (k := 3) (x := x7) (by decide)) (TokR.swi K6 (a := 93) (k := 3) (x := x7) (by decide)) 193 rfl c17 (ns c17 (by decide)), ?_⟩
          refine ⟨Or.inr rfl, ?_⟩
          exact H (Ly.wi (Ly.wi L3 (a := 93) (k := 3) (x := x7) (by decide)) (a := 37) (k := 4) (x := ((i5 + 1 : Nat) : Int)) (by decide)) (TokR.adv (TokR.swi K6 (a := 93) (k := 3) (x := x7) (by decide)) (ns c17 (by decide)))
        · have H := H.2 c17
          refine ⟨_, _, t_75n (d := d) (by omega) (Ly.wi L3 (a := 93) (k := 3) (x := x7) (by decide)) (TokR.swi K6 (a := 93) (k := 3) (x := x7) (by decide)) 193 rfl c17, ?_⟩
          refine ⟨Or.inl rfl, ?_⟩
          exact H (Ly.wi (Ly.wi L3 (a := 93) (k := 3) (x := x7) (by decide)) (a := 37) (k := 5) (x := -10 - (tkP T i5 : Int)) (by decide)) (TokR.flt (TokR.swi K6 (a := 93) (k := 3) (x := x7) (by decide)))
      · have c8 := Decidable.not_not.mp c8
        have H := H.1 c8
        refine ⟨(Ly.t93 L3 :), ?_⟩
        rw [show jr (wi h2 93 3 x7) 93 0 = 37 from (Ly.r93_0 L3 :)]
        refine ⟨(Ly.t37 L3 :), ?_⟩
        refine ⟨_, t_74 (d := d) (by omega) (Ly.wi L3 (a := 93) (k := 3) (x := x7) (by decide)) (TokR.swi K6 (a := 93) (k := 3) (x := x7) (by decide)) (ns c8 (by decide)), ?_⟩
        refine b_40_68 ?_
        refine ⟨(Ly.t93 L3 :), ?_⟩
        have H := H (Ly.wi (Ly.wi L3 (a := 93) (k := 3) (x := x7) (by decide)) (a := 37) (k := 4) (x := ((i5 + 1 : Nat) : Int)) (by decide)) (TokR.adv (TokR.swi K6 (a := 93) (k := 3) (x := x7) (by decide)) (ns c8 (by decide)))
        obtain ⟨x14, h9, e11, L10, i12, K13, H⟩ := H
        refine ⟨x14, h9, e11, ?_⟩
        refine ⟨(Ly.t93 L10 :), ?_⟩
        refine b_40_76 ?_
        refine ⟨(Ly.t93 L10 :), ?_⟩
        refine ⟨fun c16 => ?_, fun c16 => ?_⟩
        · have H := H.2 c16
          refine ⟨(Ly.t93 L10 :), ?_⟩
          rw [show jr (wi h9 93 4 x14) 93 0 = 37 from (Ly.r93_0 L10 :)]
          refine ⟨(Ly.t37 L10 :), ?_⟩
          by_cases c15 : tkK T i12 = 193
          · have H := H.1 c15
            refine ⟨_, _, t_75y (d := d) (by omega) (Ly.wi L10 (a := 93) (k := 4) (x := x14) (by decide)) (TokR.swi K13 (a := 93) (k := 4) (x := x14) (by decide)) 193 rfl c15 (ns c15 (by decide)), ?_⟩
            refine ⟨Or.inr rfl, ?_⟩
            exact H (Ly.wi (Ly.wi L10 (a := 93) (k := 4) (x := x14) (by decide)) (a := 37) (k := 4) (x := ((i12 + 1 : Nat) : Int)) (by decide)) (TokR.adv (TokR.swi K13 (a := 93) (k := 4) (x := x14) (by decide)) (ns c15 (by decide)))
          · have H := H.2 c15
            refine ⟨_, _, t_75n (d := d) (by omega) (Ly.wi L10 (a := 93) (k := 4) (x := x14) (by decide)) (TokR.swi K13 (a := 93) (k := 4) (x := x14) (by decide)) 193 rfl c15, ?_⟩
            refine ⟨Or.inl rfl, ?_⟩
            exact H (Ly.wi (Ly.wi L10 (a := 93) (k := 4) (x := x14) (by decide)) (a := 37) (k := 5) (x := -10 - (tkP T i12 : Int)) (by decide)) (TokR.flt (TokR.swi K13 (a := 93) (k := 4) (x := x14) (by decide)))
        · have c16 := Decidable.not_not.mp c16
          have H := H.1 c16
          refine ⟨Or.inl rfl, ?_⟩
          exact H (Ly.wi L10 (a := 93) (k := 4) (x := x14) (by decide)) (TokR.swi K13 (a := 93) (k := 4) (x := x14) (by decide))
    · have c18 := Decidable.not_not.mp c18
      have H := H.1 c18
      refine ⟨Or.inl rfl, ?_⟩
      exact H (Ly.wi L3 (a := 93) (k := 3) (x := x7) (by decide)) (TokR.swi K6 (a := 93) (k := 3) (x := x7) (by decide))
  · have H := H.2 c1
    refine ⟨Or.inr rfl, ?_⟩
    exact H (Ly.wi (Ly.wi L (a := 93) (k := 3) (x := (-1)) (by decide)) (a := 93) (k := 4) (x := (-1)) (by decide)) (TokR.swi (TokR.swi K (a := 93) (k := 3) (x := (-1)) (by decide)) (a := 93) (k := 4) (x := (-1)) (by decide))
set_option maxRecDepth 100000 in
theorem c_41_0 {p : Lpar} {d : Nat} {h : AH} {Q : Option AV → AH → Prop}  (hd : 9 ≤ d) (L : Ly p h) {T : Txt} {e i : Nat} (K : TokR T e i h) (H : ∃ x6 h1, jE d 26 [jP (pT p + 1), jI 0, jI (nmT T i)] h (some (jI x6)) h1 ∧ Ly p h1 ∧ ∃ i4, TokR T e i4 h1 ∧ (x6 = (-1) → (Ly p (wi h1 37 5 (-10 - (tkP T i4 : Int))) → TokR T e i4 (wi h1 37 5 (-10 - (tkP T i4 : Int))) → Q (some (jI x6)) (wi h1 37 5 (-10 - (tkP T i4 : Int))))) ∧ (¬ x6 = (-1) → ¬ (tkK T i4 = 3 ∨ tkK T i4 = 4) ∧ (Ly p (wi h1 37 4 ((i4 + 1 : Nat) : Int)) → TokR T e (i4 + 1) (wi h1 37 4 ((i4 + 1 : Nat) : Int)) → Q (some (jI x6)) (wi h1 37 4 ((i4 + 1 : Nat) : Int))))) : WF d 41 0 [jP 93, jU] [] h Q := by
  refine b_41_0 ?_
  refine ⟨(Ly.t93 L :), ?_⟩
  rw [show jr h 93 1 = pT p from (Ly.r93_1 L :)]
  refine ⟨(Ly.dt0 L (Ly.iT L) :), ?_⟩
  rw [show jr h (pT p) 0 = (pT p + 1) from (Ly.dr0_0 L (Ly.iT L) :)]
  refine ⟨(Ly.t93 L :), ?_⟩
  rw [show jr h 93 0 = 37 from (Ly.r93_0 L :)]
  refine ⟨(Ly.t37 L :), ?_⟩
  refine ⟨_, _, t_73 (d := d) (by omega) L K, ?_⟩
  refine ⟨(Ly.dt1 L (Ly.iT L) :), ?_⟩
  obtain ⟨x6, h1, e3, L2, i4, K5, H⟩ := H
  refine ⟨x6, h1, e3, ?_⟩
  refine ⟨fun c8 => ?_, fun c8 => ?_⟩
  · have H := H.2 c8
    refine ⟨(Ly.t93 L2 :), ?_⟩
    rw [show jr h1 93 0 = 37 from (Ly.r93_0 L2 :)]
    refine ⟨(Ly.t37 L2 :), ?_⟩
    obtain ⟨z7, H⟩ := H
    refine ⟨_, t_74 (d := d) (by omega) L2 K5 z7, ?_⟩
    exact H (Ly.wi L2 (a := 37) (k := 4) (x := ((i4 + 1 : Nat) : Int)) (by decide)) (TokR.adv K5 z7)
  · have c8 := Decidable.not_not.mp c8
    have H := H.1 c8
    refine ⟨(Ly.t93 L2 :), ?_⟩
    rw [show jr h1 93 0 = 37 from (Ly.r93_0 L2 :)]
    refine ⟨(Ly.t37 L2 :), ?_⟩
    refine ⟨_, _, t_76 (d := d) (by omega) L2 K5, ?_⟩
    exact H (Ly.wi L2 (a := 37) (k := 5) (x := -10 - (tkP T i4 : Int)) (by decide)) (TokR.flt K5)
set_option maxRecDepth 100000 in
theorem c_42_0 {p : Lpar} {d : Nat} {h : AH} {Q : Option AV → AH → Prop}  (hd : 9 ≤ d) (L : Ly p h) {T : Txt} {e i : Nat} (K : TokR T e i h) (H : (tkK T i = 145 → (tkK T (i + 1) = 2 → (Ly p (wi (wi (wi h 37 4 ((i + 1 : Nat) : Int)) 93 2 (w32 (-(tkW T (i + 1))))) 37 4 ((i + 2 : Nat) : Int)) → TokR T e (i + 2) (wi (wi (wi h 37 4 ((i + 1 : Nat) : Int)) 93 2 (w32 (-(tkW T (i + 1))))) 37 4 ((i + 2 : Nat) : Int)) → Q (some (jI 1)) (wi (wi (wi h 37 4 ((i + 1 : Nat) : Int)) 93 2 (w32 (-(tkW T (i + 1))))) 37 4 ((i + 2 : Nat) : Int)))) ∧ (¬ tkK T (i + 1) = 2 → (Ly p (wi (wi (wi h 37 4 ((i + 1 : Nat) : Int)) 93 2 (w32 (-(tkW T (i + 1))))) 37 5 (-10 - (tkP T (i + 1) : Int))) → TokR T e (i + 1) (wi (wi (wi h 37 4 ((i + 1 : Nat) : Int)) 93 2 (w32 (-(tkW T (i + 1))))) 37 5 (-10 - (tkP T (i + 1) : Int))) → Q (some (jI 0)) (wi (wi (wi h 37 4 ((i + 1 : Nat) : Int)) 93 2 (w32 (-(tkW T (i + 1))))) 37 5 (-10 - (tkP T (i + 1) : Int)))))) ∧ (¬ tkK T i = 145 → (tkK T i = 2 → (Ly p (wi (wi h 93 2 (tkW T i)) 37 4 ((i + 1 : Nat) : Int)) → TokR T e (i + 1) (wi (wi h 93 2 (tkW T i)) 37 4 ((i + 1 : Nat) : Int)) → Q (some (jI 1)) (wi (wi h 93 2 (tkW T i)) 37 4 ((i + 1 : Nat) : Int)))) ∧ (¬ tkK T i = 2 → (Ly p (wi (wi h 93 2 (tkW T i)) 37 5 (-10 - (tkP T i : Int))) → TokR T e i (wi (wi h 93 2 (tkW T i)) 37 5 (-10 - (tkP T i : Int))) → Q (some (jI 0)) (wi (wi h 93 2 (tkW T i)) 37 5 (-10 - (tkP T i : Int))))))) : WF d 42 0 [jP 93, jU] [] h Q := by
  refine b_42_0 ?_
  refine ⟨(Ly.t93 L :), ?_⟩
  rw [show jr h 93 0 = 37 from (Ly.r93_0 L :)]
  refine ⟨(Ly.t37 L :), ?_⟩
  refine ⟨_, _, t_70 (d := d) (by omega) L K, ?_⟩
  rw [show (ck (tkK T i) = 45) = (tkK T i = 145) from TokR.ckE K 145 rfl]
  refine ⟨fun c1 => ?_, fun c1 => ?_⟩
  · have H := H.2 c1
    refine ⟨fun _ => ?_, fun c => absurd (by decide) c⟩
    refine ⟨fun _ => ?_, fun c => absurd (by decide) c⟩
    refine ⟨(Ly.t93 L :), ?_⟩
    rw [show jr h 93 0 = 37 from (Ly.r93_0 L :)]
    refine ⟨(Ly.t37 L :), ?_⟩
    refine ⟨_, _, t_72 (d := d) (by omega) L K, ?_⟩
    refine ⟨(Ly.t93 L :), ?_⟩
    refine ⟨(Ly.t93 L :), ?_⟩
    rw [show jr (wi h 93 2 (tkW T i)) 93 0 = 37 from (Ly.r93_0 L :)]
    refine ⟨(Ly.t37 L :), ?_⟩
    by_cases c3 : tkK T i = 2
    · have H := H.1 c3
      refine ⟨_, _, t_75y (d := d) (by omega) (Ly.wi L (a := 93) (k := 2) (x := tkW T i) (by decide)) (TokR.swi K (a := 93) (k := 2) (x := tkW T i) (by decide)) 2 rfl c3 (ns c3 (by decide)), ?_⟩
      refine ⟨Or.inr rfl, ?_⟩
      exact H (Ly.wi (Ly.wi L (a := 93) (k := 2) (x := tkW T i) (by decide)) (a := 37) (k := 4) (x := ((i + 1 : Nat) : Int)) (by decide)) (TokR.adv (TokR.swi K (a := 93) (k := 2) (x := tkW T i) (by decide)) (ns c3 (by decide)))
    · have H := H.2 c3
      refine ⟨_, _, t_75n (d := d) (by omega) (Ly.wi L (a := 93) (k := 2) (x := tkW T i) (by decide)) (TokR.swi K (a := 93) (k := 2) (x := tkW T i) (by decide)) 2 rfl c3, ?_⟩
      refine ⟨Or.inl rfl, ?_⟩
      exact H (Ly.wi (Ly.wi L (a := 93) (k := 2) (x := tkW T i) (by decide)) (a := 37) (k := 5) (x := -10 - (tkP T i : Int)) (by decide)) (TokR.flt (TokR.swi K (a := 93) (k := 2) (x := tkW T i) (by decide)))
  · have c1 := Decidable.not_not.mp c1
    have H := H.1 c1
    refine ⟨fun c => absurd c (by decide), fun _ => ?_⟩
    refine ⟨(Ly.t93 L :), ?_⟩
    rw [show jr h 93 0 = 37 from (Ly.r93_0 L :)]
    refine ⟨(Ly.t37 L :), ?_⟩
    refine ⟨_, t_74 (d := d) (by omega) L K (ns c1 (by decide)), ?_⟩
    refine ⟨fun c => absurd c (by decide), fun _ => ?_⟩
    refine ⟨(Ly.t93 L :), ?_⟩
    rw [show jr (wi h 37 4 ((i + 1 : Nat) : Int)) 93 0 = 37 from (Ly.r93_0 L :)]
    refine ⟨(Ly.t37 L :), ?_⟩
    refine ⟨_, _, t_72 (d := d) (by omega) (Ly.wi L (a := 37) (k := 4) (x := ((i + 1 : Nat) : Int)) (by decide)) (TokR.adv K (ns c1 (by decide))), ?_⟩
    refine ⟨(Ly.t93 L :), ?_⟩
    refine ⟨(Ly.t93 L :), ?_⟩
    rw [show jr (wi (wi h 37 4 ((i + 1 : Nat) : Int)) 93 2 (w32 (-(tkW T (i + 1))))) 93 0 = 37 from (Ly.r93_0 L :)]
    refine ⟨(Ly.t37 L :), ?_⟩
    by_cases c2 : tkK T (i + 1) = 2
    · have H := H.1 c2
      refine ⟨_, _, t_75y (d := d) (by omega) (Ly.wi (Ly.wi L (a := 37) (k := 4) (x := ((i + 1 : Nat) : Int)) (by decide)) (a := 93) (k := 2) (x := w32 (-(tkW T (i + 1)))) (by decide)) (TokR.swi (TokR.adv K (ns c1 (by decide))) (a := 93) (k := 2) (x := w32 (-(tkW T (i + 1)))) (by decide)) 2 rfl c2 (ns c2 (by decide)), ?_⟩
      refine ⟨Or.inr rfl, ?_⟩
      exact H (Ly.wi (Ly.wi (Ly.wi L (a := 37) (k := 4) (x := ((i + 1 : Nat) : Int)) (by decide)) (a := 93) (k := 2) (x := w32 (-(tkW T (i + 1)))) (by decide)) (a := 37) (k := 4) (x := ((i + 2 : Nat) : Int)) (by decide)) (TokR.adv (TokR.swi (TokR.adv K (ns c1 (by decide))) (a := 93) (k := 2) (x := w32 (-(tkW T (i + 1)))) (by decide)) (ns c2 (by decide)))
    · have H := H.2 c2
      refine ⟨_, _, t_75n (d := d) (by omega) (Ly.wi (Ly.wi L (a := 37) (k := 4) (x := ((i + 1 : Nat) : Int)) (by decide)) (a := 93) (k := 2) (x := w32 (-(tkW T (i + 1)))) (by decide)) (TokR.swi (TokR.adv K (ns c1 (by decide))) (a := 93) (k := 2) (x := w32 (-(tkW T (i + 1)))) (by decide)) 2 rfl c2, ?_⟩
      refine ⟨Or.inl rfl, ?_⟩
      exact H (Ly.wi (Ly.wi (Ly.wi L (a := 37) (k := 4) (x := ((i + 1 : Nat) : Int)) (by decide)) (a := 93) (k := 2) (x := w32 (-(tkW T (i + 1)))) (by decide)) (a := 37) (k := 5) (x := -10 - (tkP T (i + 1) : Int)) (by decide)) (TokR.flt (TokR.swi (TokR.adv K (ns c1 (by decide))) (a := 93) (k := 2) (x := w32 (-(tkW T (i + 1)))) (by decide)))
set_option maxRecDepth 100000 in
theorem c_43_0 {p : Lpar} {d : Nat} {h : AH} {Q : Option AV → AH → Prop}  (hd : 9 ≤ d) (L : Ly p h) {T : Txt} {e i : Nat} (K : TokR T e i h) (H : WF d 43 2 [jP 93, jI 1, jU, jU] [] h Q) : WF d 43 0 [jP 93, jU, jU, jU] [] h Q := by
  refine b_43_0 ?_
  exact H
set_option maxRecDepth 100000 in
theorem c_43_2 {p : Lpar} {d : Nat} {h : AH} {Q : Option AV → AH → Prop} {v1 : Int} {z2 : AV} {z3 : AV} (hd : 9 ≤ d) (L : Ly p h) {T : Txt} {e i : Nat} (K : TokR T e i h) (H : (v1 < 0 → Q (some (jI 1)) h) ∧ (¬ (v1 < 0) → (tkK T i = 1 → ∃ x7 h2, jE d 25 [jP (pT p + 1), jI (nmT T i)] h (some (jI x7)) h2 ∧ Ly p h2 ∧ ∃ i5, TokR T e i5 h2 ∧ (x7 = (-1) → ¬ (tkK T i5 = 3 ∨ tkK T i5 = 4) ∧ (tkK T (i5 + 1) = 18 → (Ly p (wi (wi h2 37 4 ((i5 + 1 : Nat) : Int)) 37 4 ((i5 + 2 : Nat) : Int)) → TokR T e (i5 + 2) (wi (wi h2 37 4 ((i5 + 1 : Nat) : Int)) 37 4 ((i5 + 2 : Nat) : Int)) → ∃ x15 h10, jE d 26 [jP (pT p + 1), jI 0, jI (nmT T (i5 + 2))] (wi (wi h2 37 4 ((i5 + 1 : Nat) : Int)) 37 4 ((i5 + 2 : Nat) : Int)) (some (jI x15)) h10 ∧ Ly p h10 ∧ ∃ i13, TokR T e i13 h10 ∧ (x15 = (-1) → (Ly p (wi h10 37 5 (-10 - (tkP T i13 : Int))) → TokR T e i13 (wi h10 37 5 (-10 - (tkP T i13 : Int))) → Q (some (jI 0)) (wi h10 37 5 (-10 - (tkP T i13 : Int))))) ∧ (¬ x15 = (-1) → ¬ (tkK T i13 = 3 ∨ tkK T i13 = 4) ∧ (18 ≤ (ji h10 93 6) → (v1 = (0 : Int) → (Ly p (wi h10 37 4 ((i13 + 1 : Nat) : Int)) → TokR T e (i13 + 1) (wi h10 37 4 ((i13 + 1 : Nat) : Int)) → Q (some (jI 1)) (wi h10 37 4 ((i13 + 1 : Nat) : Int)))) ∧ (¬ (v1 = (0 : Int)) → (tkK T (i13 + 1) = 144 → (Ly p (wi (wi h10 37 4 ((i13 + 1 : Nat) : Int)) 37 4 ((i13 + 2 : Nat) : Int)) → TokR T e (i13 + 2) (wi (wi h10 37 4 ((i13 + 1 : Nat) : Int)) 37 4 ((i13 + 2 : Nat) : Int)) → WF d 43 2 [jP 93, jI (w32 (v1 + (-1))), jI (nmT T i), jI x15] [] (wi (wi h10 37 4 ((i13 + 1 : Nat) : Int)) 37 4 ((i13 + 2 : Nat) : Int)) Q)) ∧ (¬ tkK T (i13 + 1) = 144 → (Ly p (wi h10 37 4 ((i13 + 1 : Nat) : Int)) → TokR T e (i13 + 1) (wi h10 37 4 ((i13 + 1 : Nat) : Int)) → Q (some (jI 1)) (wi h10 37 4 ((i13 + 1 : Nat) : Int)))))) ∧ (¬ (18 ≤ (ji h10 93 6)) → (Ly p (wi h10 37 4 ((i13 + 1 : Nat) : Int)) → TokR T e (i13 + 1) (wi h10 37 4 ((i13 + 1 : Nat) : Int)) → ∃ h19, jE d 24 [jP (pT p + 1), jI (nmT T i), jI 4, jI (ji h10 93 6)] (wi h10 37 4 ((i13 + 1 : Nat) : Int)) none h19 ∧ Ly p h19 ∧ ∃ i22, TokR T e i22 h19 ∧ 0 ≤ (ji h19 93 6) ∧ (ji h19 93 6) < 18 ∧ (v1 = (0 : Int) → (Ly p (wi (wi h19 94 (Int.toNat (ji h19 93 6)) x15) 93 6 (w32 ((ji h19 93 6) + 1))) → TokR T e i22 (wi (wi h19 94 (Int.toNat (ji h19 93 6)) x15) 93 6 (w32 ((ji h19 93 6) + 1))) → Q (some (jI 1)) (wi (wi h19 94 (Int.toNat (ji h19 93 6)) x15) 93 6 (w32 ((ji h19 93 6) + 1))))) ∧ (¬ (v1 = (0 : Int)) → (tkK T i22 = 144 → (Ly p (wi (wi (wi h19 94 (Int.toNat (ji h19 93 6)) x15) 93 6 (w32 ((ji h19 93 6) + 1))) 37 4 ((i22 + 1 : Nat) : Int)) → TokR T e (i22 + 1) (wi (wi (wi h19 94 (Int.toNat (ji h19 93 6)) x15) 93 6 (w32 ((ji h19 93 6) + 1))) 37 4 ((i22 + 1 : Nat) : Int)) → WF d 43 2 [jP 93, jI (w32 (v1 + (-1))), jI (nmT T i), jI x15] [] (wi (wi (wi h19 94 (Int.toNat (ji h19 93 6)) x15) 93 6 (w32 ((ji h19 93 6) + 1))) 37 4 ((i22 + 1 : Nat) : Int)) Q)) ∧ (¬ tkK T i22 = 144 → (Ly p (wi (wi h19 94 (Int.toNat (ji h19 93 6)) x15) 93 6 (w32 ((ji h19 93 6) + 1))) → TokR T e i22 (wi (wi h19 94 (Int.toNat (ji h19 93 6)) x15) 93 6 (w32 ((ji h19 93 6) + 1))) → Q (some (jI 1)) (wi (wi h19 94 (Int.toNat (ji h19 93 6)) x15) 93 6 (w32 ((ji h19 93 6) + 1))))))))))) ∧ (¬ tkK T (i5 + 1) = 18 → (Ly p (wi (wi h2 37 4 ((i5 + 1 : Nat) : Int)) 37 5 (-10 - (tkP T (i5 + 1) : Int))) → TokR T e (i5 + 1) (wi (wi h2 37 4 ((i5 + 1 : Nat) : Int)) 37 5 (-10 - (tkP T (i5 + 1) : Int))) → Q (some (jI 0)) (wi (wi h2 37 4 ((i5 + 1 : Nat) : Int)) 37 5 (-10 - (tkP T (i5 + 1) : Int)))))) ∧ (¬ (x7 = (-1)) → (Ly p (wi h2 37 5 (-10 - (tkP T i5 : Int))) → TokR T e i5 (wi h2 37 5 (-10 - (tkP T i5 : Int))) → Q (some (jI 0)) (wi h2 37 5 (-10 - (tkP T i5 : Int)))))) ∧ (¬ tkK T i = 1 → (Ly p (wi h 37 5 (-10 - (tkP T i : Int))) → TokR T e i (wi h 37 5 (-10 - (tkP T i : Int))) → Q (some (jI 0)) (wi h 37 5 (-10 - (tkP T i : Int))))))) : WF d 43 2 [jP 93, jI v1, z2, z3] [] h Q := by
  refine b_43_2 ?_
  refine ⟨fun c31 => ?_, fun c31 => ?_⟩
  · have H := H.1 c31
    refine ⟨Or.inr rfl, ?_⟩
    exact H
  · have H := H.2 c31
    refine ⟨(Ly.t93 L :), ?_⟩
    rw [show jr h 93 0 = 37 from (Ly.r93_0 L :)]
    refine ⟨(Ly.t37 L :), ?_⟩
    refine ⟨_, _, t_73 (d := d) (by omega) L K, ?_⟩
    refine b_43_14 ?_
    refine ⟨(Ly.t93 L :), ?_⟩
    rw [show jr h 93 0 = 37 from (Ly.r93_0 L :)]
    refine ⟨(Ly.t37 L :), ?_⟩
    refine ⟨_, _, t_70 (d := d) (by omega) L K, ?_⟩
    rw [show (ck (tkK T i) = 3) = (tkK T i = 1) from TokR.ckE K 1 rfl]
    refine ⟨fun c1 => ?_, fun c1 => ?_⟩
    · have H := H.2 c1
      refine ⟨(Ly.t93 L :), ?_⟩
      rw [show jr h 93 0 = 37 from (Ly.r93_0 L :)]
      refine ⟨(Ly.t37 L :), ?_⟩
      refine ⟨_, _, t_76 (d := d) (by omega) L K, ?_⟩
      refine ⟨Or.inl rfl, ?_⟩
      exact H (Ly.wi L (a := 37) (k := 5) (x := -10 - (tkP T i : Int)) (by decide)) (TokR.flt K)
    · have c1 := Decidable.not_not.mp c1
      have H := H.1 c1
      refine ⟨(Ly.t93 L :), ?_⟩
      rw [show jr h 93 1 = pT p from (Ly.r93_1 L :)]
      refine ⟨(Ly.dt0 L (Ly.iT L) :), ?_⟩
      rw [show jr h (pT p) 0 = (pT p + 1) from (Ly.dr0_0 L (Ly.iT L) :)]
      refine ⟨(Ly.dt1 L (Ly.iT L) :), ?_⟩
      obtain ⟨x7, h2, e4, L3, i5, K6, H⟩ := H
      refine ⟨x7, h2, e4, ?_⟩
      refine ⟨fun c30 => ?_, fun c30 => ?_⟩
      · have H := H.1 c30
        refine ⟨(Ly.t93 L3 :), ?_⟩
        rw [show jr h2 93 0 = 37 from (Ly.r93_0 L3 :)]
        refine ⟨(Ly.t37 L3 :), ?_⟩
        obtain ⟨z8, H⟩ := H
        refine ⟨_, t_74 (d := d) (by omega) L3 K6 z8, ?_⟩
        refine b_43_55 ?_
        refine ⟨(Ly.t93 L3 :), ?_⟩
        rw [show jr (wi h2 37 4 ((i5 + 1 : Nat) : Int)) 93 0 = 37 from (Ly.r93_0 L3 :)]
        refine ⟨(Ly.t37 L3 :), ?_⟩
        by_cases c9 : tkK T (i5 + 1) = 18
        · have H := H.1 c9
          refine ⟨_, _, t_75y (d := d) (by omega) (Ly.wi L3 (a := 37) (k := 4) (x := ((i5 + 1 : Nat) : Int)) (by decide)) (TokR.adv K6 z8) 18 rfl c9 (ns c9 (by decide)), ?_⟩
          refine ⟨fun _ => ?_, fun c => absurd (by decide) c⟩
          refine ⟨(Ly.t93 L3 :), ?_⟩
          rw [show jr (wi (wi h2 37 4 ((i5 + 1 : Nat) : Int)) 37 4 ((i5 + 2 : Nat) : Int)) 93 1 = pT p from (Ly.r93_1 L3 :)]
          refine ⟨(Ly.dt0 L3 (Ly.iT L3) :), ?_⟩
          rw [show jr (wi (wi h2 37 4 ((i5 + 1 : Nat) : Int)) 37 4 ((i5 + 2 : Nat) : Int)) (pT p) 0 = (pT p + 1) from (Ly.dr0_0 L3 (Ly.iT L3) :)]
          refine ⟨(Ly.t93 L3 :), ?_⟩
          rw [show jr (wi (wi h2 37 4 ((i5 + 1 : Nat) : Int)) 37 4 ((i5 + 2 : Nat) : Int)) 93 0 = 37 from (Ly.r93_0 L3 :)]
          refine ⟨(Ly.t37 L3 :), ?_⟩
          refine ⟨_, _, t_73 (d := d) (by omega) (Ly.wi (Ly.wi L3 (a := 37) (k := 4) (x := ((i5 + 1 : Nat) : Int)) (by decide)) (a := 37) (k := 4) (x := ((i5 + 2 : Nat) : Int)) (by decide)) (TokR.adv (TokR.adv K6 z8) (ns c9 (by decide))), ?_⟩
          refine ⟨(Ly.dt1 L3 (Ly.iT L3) :), ?_⟩
          have H := H (Ly.wi (Ly.wi L3 (a := 37) (k := 4) (x := ((i5 + 1 : Nat) : Int)) (by decide)) (a := 37) (k := 4) (x := ((i5 + 2 : Nat) : Int)) (by decide)) (TokR.adv (TokR.adv K6 z8) (ns c9 (by decide)))
          obtain ⟨x15, h10, e12, L11, i13, K14, H⟩ := H
          refine ⟨x15, h10, e12, ?_⟩
          refine b_43_89 ?_
          refine ⟨fun c29 => ?_, fun c29 => ?_⟩
          · have H := H.2 c29
            refine ⟨(Ly.t93 L11 :), ?_⟩
            rw [show jr h10 93 0 = 37 from (Ly.r93_0 L11 :)]
            refine ⟨(Ly.t37 L11 :), ?_⟩
            obtain ⟨z16, H⟩ := H
            refine ⟨_, t_74 (d := d) (by omega) L11 K14 z16, ?_⟩
            refine b_43_109 ?_
            refine ⟨(Ly.t93 L11 :), ?_⟩
            refine ⟨fun c28 => ?_, fun c28 => ?_⟩
            · have H := H.1 c28
              refine b_43_154 ?_
              refine ⟨fun c18 => ?_, fun c18 => ?_⟩
              · have H := H.1 c18
                refine ⟨Or.inr rfl, ?_⟩
                exact H (Ly.wi L11 (a := 37) (k := 4) (x := ((i13 + 1 : Nat) : Int)) (by decide)) (TokR.adv K14 z16)
              · have H := H.2 c18
                refine ⟨(Ly.t93 L11 :), ?_⟩
                rw [show jr (wi h10 37 4 ((i13 + 1 : Nat) : Int)) 93 0 = 37 from (Ly.r93_0 L11 :)]
                refine ⟨(Ly.t37 L11 :), ?_⟩
                refine ⟨_, _, t_70 (d := d) (by omega) (Ly.wi L11 (a := 37) (k := 4) (x := ((i13 + 1 : Nat) : Int)) (by decide)) (TokR.adv K14 z16), ?_⟩
                rw [show (ck (tkK T (i13 + 1)) = 44) = (tkK T (i13 + 1) = 144) from TokR.ckE (TokR.adv K14 z16) 144 rfl]
                refine ⟨fun c17 => ?_, fun c17 => ?_⟩
                · have H := H.1 c17
                  refine ⟨(Ly.t93 L11 :), ?_⟩
                  rw [show jr (wi h10 37 4 ((i13 + 1 : Nat) : Int)) 93 0 = 37 from (Ly.r93_0 L11 :)]
                  refine ⟨(Ly.t37 L11 :), ?_⟩
                  refine ⟨_, t_74 (d := d) (by omega) (Ly.wi L11 (a := 37) (k := 4) (x := ((i13 + 1 : Nat) : Int)) (by decide)) (TokR.adv K14 z16) (ns c17 (by decide)), ?_⟩
                  refine b_43_179 ?_
                  exact H (Ly.wi (Ly.wi L11 (a := 37) (k := 4) (x := ((i13 + 1 : Nat) : Int)) (by decide)) (a := 37) (k := 4) (x := ((i13 + 2 : Nat) : Int)) (by decide)) (TokR.adv (TokR.adv K14 z16) (ns c17 (by decide)))
                · have H := H.2 c17
                  refine ⟨Or.inr rfl, ?_⟩
                  exact H (Ly.wi L11 (a := 37) (k := 4) (x := ((i13 + 1 : Nat) : Int)) (by decide)) (TokR.adv K14 z16)
            · have H := H.2 c28
              refine ⟨(Ly.t93 L11 :), ?_⟩
              rw [show jr (wi h10 37 4 ((i13 + 1 : Nat) : Int)) 93 1 = pT p from (Ly.r93_1 L11 :)]
              refine ⟨(Ly.dt0 L11 (Ly.iT L11) :), ?_⟩
              rw [show jr (wi h10 37 4 ((i13 + 1 : Nat) : Int)) (pT p) 0 = (pT p + 1) from (Ly.dr0_0 L11 (Ly.iT L11) :)]
              refine ⟨(Ly.t93 L11 :), ?_⟩
              refine ⟨(Ly.dt1 L11 (Ly.iT L11) :), ?_⟩
              have H := H (Ly.wi L11 (a := 37) (k := 4) (x := ((i13 + 1 : Nat) : Int)) (by decide)) (TokR.adv K14 z16)
              obtain ⟨h19, e21, L20, i22, K23, H⟩ := H
              refine ⟨h19, e21, ?_⟩
              refine b_43_134 ?_
              refine ⟨(Ly.t93 L20 :), ?_⟩
              rw [show jr h19 93 5 = 94 from (Ly.r93_5 L20 :)]
              refine ⟨(Ly.t93 L20 :), ?_⟩
              obtain ⟨z26, z27, H⟩ := H
              refine ⟨inW_mk (N := 18) (Ly.t94 L20 :) (Ly.n94 L20 :) z26 z27, ?_⟩
              refine b_43_144 ?_
              refine ⟨(Ly.t93 L20 :), ?_⟩
              refine ⟨(Ly.t93 L20 :), ?_⟩
              refine b_43_154 ?_
              refine ⟨fun c25 => ?_, fun c25 => ?_⟩
              · have H := H.1 c25
                refine ⟨Or.inr rfl, ?_⟩
                exact H (Ly.wi (Ly.wi L20 (a := 94) (k := Int.toNat (ji h19 93 6)) (x := x15) (by decide)) (a := 93) (k := 6) (x := w32 ((ji (wi h19 94 (Int.toNat (ji h19 93 6)) x15) 93 6) + 1)) (by decide)) (TokR.swi (TokR.swi K23 (a := 94) (k := Int.toNat (ji h19 93 6)) (x := x15) (by decide)) (a := 93) (k := 6) (x := w32 ((ji (wi h19 94 (Int.toNat (ji h19 93 6)) x15) 93 6) + 1)) (by decide))
              · have H := H.2 c25
                refine ⟨(Ly.t93 L20 :), ?_⟩
                rw [show jr (wi (wi h19 94 (Int.toNat (ji h19 93 6)) x15) 93 6 (w32 ((ji (wi h19 94 (Int.toNat (ji h19 93 6)) x15) 93 6) + 1))) 93 0 = 37 from (Ly.r93_0 L20 :)]
                refine ⟨(Ly.t37 L20 :), ?_⟩
                refine ⟨_, _, t_70 (d := d) (by omega) (Ly.wi (Ly.wi L20 (a := 94) (k := Int.toNat (ji h19 93 6)) (x := x15) (by decide)) (a := 93) (k := 6) (x := w32 ((ji (wi h19 94 (Int.toNat (ji h19 93 6)) x15) 93 6) + 1)) (by decide)) (TokR.swi (TokR.swi K23 (a := 94) (k := Int.toNat (ji h19 93 6)) (x := x15) (by decide)) (a := 93) (k := 6) (x := w32 ((ji (wi h19 94 (Int.toNat (ji h19 93 6)) x15) 93 6) + 1)) (by decide)), ?_⟩
                rw [show (ck (tkK T i22) = 44) = (tkK T i22 = 144) from TokR.ckE (TokR.swi (TokR.swi K23 (a := 94) (k := Int.toNat (ji h19 93 6)) (x := x15) (by decide)) (a := 93) (k := 6) (x := w32 ((ji (wi h19 94 (Int.toNat (ji h19 93 6)) x15) 93 6) + 1)) (by decide)) 144 rfl]
                refine ⟨fun c24 => ?_, fun c24 => ?_⟩
                · have H := H.1 c24
                  refine ⟨(Ly.t93 L20 :), ?_⟩
                  rw [show jr (wi (wi h19 94 (Int.toNat (ji h19 93 6)) x15) 93 6 (w32 ((ji (wi h19 94 (Int.toNat (ji h19 93 6)) x15) 93 6) + 1))) 93 0 = 37 from (Ly.r93_0 L20 :)]
                  refine ⟨(Ly.t37 L20 :), ?_⟩
                  refine ⟨_, t_74 (d := d) (by omega) (Ly.wi (Ly.wi L20 (a := 94) (k := Int.toNat (ji h19 93 6)) (x := x15) (by decide)) (a := 93) (k := 6) (x := w32 ((ji (wi h19 94 (Int.toNat (ji h19 93 6)) x15) 93 6) + 1)) (by decide)) (TokR.swi (TokR.swi K23 (a := 94) (k := Int.toNat (ji h19 93 6)) (x := x15) (by decide)) (a := 93) (k := 6) (x := w32 ((ji (wi h19 94 (Int.toNat (ji h19 93 6)) x15) 93 6) + 1)) (by decide)) (ns c24 (by decide)), ?_⟩
                  refine b_43_179 ?_
                  exact H (Ly.wi (Ly.wi (Ly.wi L20 (a := 94) (k := Int.toNat (ji h19 93 6)) (x := x15) (by decide)) (a := 93) (k := 6) (x := w32 ((ji (wi h19 94 (Int.toNat (ji h19 93 6)) x15) 93 6) + 1)) (by decide)) (a := 37) (k := 4) (x := ((i22 + 1 : Nat) : Int)) (by decide)) (TokR.adv (TokR.swi (TokR.swi K23 (a := 94) (k := Int.toNat (ji h19 93 6)) (x := x15) (by decide)) (a := 93) (k := 6) (x := w32 ((ji (wi h19 94 (Int.toNat (ji h19 93 6)) x15) 93 6) + 1)) (by decide)) (ns c24 (by decide)))
                · have H := H.2 c24
                  refine ⟨Or.inr rfl, ?_⟩
                  exact H (Ly.wi (Ly.wi L20 (a := 94) (k := Int.toNat (ji h19 93 6)) (x := x15) (by decide)) (a := 93) (k := 6) (x := w32 ((ji (wi h19 94 (Int.toNat (ji h19 93 6)) x15) 93 6) + 1)) (by decide)) (TokR.swi (TokR.swi K23 (a := 94) (k := Int.toNat (ji h19 93 6)) (x := x15) (by decide)) (a := 93) (k := 6) (x := w32 ((ji (wi h19 94 (Int.toNat (ji h19 93 6)) x15) 93 6) + 1)) (by decide))
          · have c29 := Decidable.not_not.mp c29
            have H := H.1 c29
            refine ⟨(Ly.t93 L11 :), ?_⟩
            rw [show jr h10 93 0 = 37 from (Ly.r93_0 L11 :)]
            refine ⟨(Ly.t37 L11 :), ?_⟩
            refine ⟨_, _, t_76 (d := d) (by omega) L11 K14, ?_⟩
            refine ⟨Or.inl rfl, ?_⟩
            exact H (Ly.wi L11 (a := 37) (k := 5) (x := -10 - (tkP T i13 : Int)) (by decide)) (TokR.flt K14)
        · have H := H.2 c9
          refine ⟨_, _, t_75n (d := d) (by omega) (Ly.wi L3 (a := 37) (k := 4) (x := ((i5 + 1 : Nat) : Int)) (by decide)) (TokR.adv K6 z8) 18 rfl c9, ?_⟩
          refine ⟨fun c => absurd c (by decide), fun _ => ?_⟩
          refine ⟨Or.inl rfl, ?_⟩
          exact H (Ly.wi (Ly.wi L3 (a := 37) (k := 4) (x := ((i5 + 1 : Nat) : Int)) (by decide)) (a := 37) (k := 5) (x := -10 - (tkP T (i5 + 1) : Int)) (by decide)) (TokR.flt (TokR.adv K6 z8))
      · have H := H.2 c30
        refine ⟨(Ly.t93 L3 :), ?_⟩
        rw [show jr h2 93 0 = 37 from (Ly.r93_0 L3 :)]
        refine ⟨(Ly.t37 L3 :), ?_⟩
        refine ⟨_, _, t_76 (d := d) (by omega) L3 K6, ?_⟩
        refine ⟨Or.inl rfl, ?_⟩
        exact H (Ly.wi L3 (a := 37) (k := 5) (x := -10 - (tkP T i5 : Int)) (by decide)) (TokR.flt K6)
set_option maxRecDepth 100000 in
theorem c_44_0 {p : Lpar} {d : Nat} {h : AH} {Q : Option AV → AH → Prop} {v1 : Int} (hd : 9 ≤ d) (L : Ly p h) {T : Txt} {e i : Nat} (K : TokR T e i h) (H : (v1 < 0 → Q (some (jI (-1))) h) ∧ (¬ (v1 < 0) → (v1 < (ji h 93 6) → 0 ≤ v1 ∧ v1 < 18 ∧ Q (some (jI (ji h 94 (Int.toNat v1)))) h) ∧ (¬ (v1 < (ji h 93 6)) → Q (some (jI (-1))) h))) : WF d 44 0 [jP 93, jI v1] [] h Q := by
  refine b_44_0 ?_
  refine ⟨fun c4 => ?_, fun c4 => ?_⟩
  · have H := H.1 c4
    exact H
  · have H := H.2 c4
    refine ⟨(Ly.t93 L :), ?_⟩
    refine ⟨fun c3 => ?_, fun c3 => ?_⟩
    · have H := H.1 c3
      refine ⟨(Ly.t93 L :), ?_⟩
      rw [show jr h 93 5 = 94 from (Ly.r93_5 L :)]
      obtain ⟨z1, z2, H⟩ := H
      refine ⟨inA_mk (N := 18) (Ly.t94 L :) (Ly.n94 L :) z1 z2, ?_⟩
      exact H
    · have H := H.2 c3
      exact H
set_option maxRecDepth 100000 in
theorem c_45_0 {p : Lpar} {d : Nat} {h : AH} {Q : Option AV → AH → Prop} {v1 : Int} (hd : 9 ≤ d) (L : Ly p h) {T : Txt} {e i : Nat} (K : TokR T e i h) (H : (Ly p (wi (wi h (pT p + 1) 3 (w32 ((ji h (pT p + 1) 3) - (w32 ((ji h 93 6) - v1))))) 93 6 v1) → TokR T e i (wi (wi h (pT p + 1) 3 (w32 ((ji h (pT p + 1) 3) - (w32 ((ji h 93 6) - v1))))) 93 6 v1) → Q none (wi (wi h (pT p + 1) 3 (w32 ((ji h (pT p + 1) 3) - (w32 ((ji h 93 6) - v1))))) 93 6 v1))) : WF d 45 0 [jP 93, jI v1] [] h Q := by
  refine b_45_0 ?_
  refine ⟨(Ly.t93 L :), ?_⟩
  rw [show jr h 93 1 = pT p from (Ly.r93_1 L :)]
  refine ⟨(Ly.dt0 L (Ly.iT L) :), ?_⟩
  rw [show jr h (pT p) 0 = (pT p + 1) from (Ly.dr0_0 L (Ly.iT L) :)]
  refine ⟨(Ly.dt1 L (Ly.iT L) :), ?_⟩
  refine ⟨(Ly.t93 L :), ?_⟩
  refine ⟨(Ly.dt1 L (Ly.iT L) :), ?_⟩
  refine ⟨(Ly.t93 L :), ?_⟩
  exact H (Ly.wi (Ly.wi L (a := (pT p + 1)) (k := 3) (x := w32 ((ji h (pT p + 1) 3) - (w32 ((ji h 93 6) - v1)))) (by have := (Ly.iT L); unfold isD at this; omega)) (a := 93) (k := 6) (x := v1) (by decide)) (TokR.swi (TokR.swi K (a := (pT p + 1)) (k := 3) (x := w32 ((ji h (pT p + 1) 3) - (w32 ((ji h 93 6) - v1)))) (by have := (Ly.iT L); unfold isD at this; omega)) (a := 93) (k := 6) (x := v1) (by decide))
set_option maxRecDepth 100000 in
theorem c_47_0 {p : Lpar} {d : Nat} {h : AH} {Q : Option AV → AH → Prop} {v1 : Int} (hd : 9 ≤ d) (L : Ly p h) {T : Txt} {e i : Nat} (K : TokR T e i h) (H : (tkK T i = 1 → (Ly p (wl h (pT p) 14 (w64 ((jl h (pT p) 14) + (jl h 93 7)))) → TokR T e i (wl h (pT p) 14 (w64 ((jl h (pT p) 14) + (jl h 93 7)))) → ∃ p7 h2, jE d 48 [jP 93] (wl h (pT p) 14 (w64 ((jl h (pT p) 14) + (jl h 93 7)))) (some (jP p7)) h2 ∧ Ly p h2 ∧ ∃ i5, TokR T e i5 h2 ∧ Q (some (jP p7)) h2)) ∧ (¬ tkK T i = 1 → (tkK T i = 2 → (Ly p (nw (wl h (pT p) 14 (w64 ((jl h (pT p) 14) + (jl h 93 7)))) 3 7) → TokR T e i (nw (wl h (pT p) 14 (w64 ((jl h (pT p) 14) + (jl h 93 7)))) 3 7) → ∃ h9, jE d 11 [jP (jx (wl h (pT p) 14 (w64 ((jl h (pT p) 14) + (jl h 93 7))))), jI 0, jI (tkW T i), jI (-1), jI (-1)] (nw (wl h (pT p) 14 (w64 ((jl h (pT p) 14) + (jl h 93 7)))) 3 7) none h9 ∧ Ly p h9 ∧ ∃ i12, TokR T e i12 h9 ∧ ¬ (tkK T i12 = 3 ∨ tkK T i12 = 4) ∧ (Ly p (wi h9 37 4 ((i12 + 1 : Nat) : Int)) → TokR T e (i12 + 1) (wi h9 37 4 ((i12 + 1 : Nat) : Int)) → Q (some (jP (jx (wl h (pT p) 14 (w64 ((jl h (pT p) 14) + (jl h 93 7))))))) (wi h9 37 4 ((i12 + 1 : Nat) : Int))))) ∧ (¬ tkK T i = 2 → (tkK T i = 140 → (Ly p (wl h (pT p) 14 (w64 ((jl h (pT p) 14) + (jl h 93 7)))) → TokR T e i (wl h (pT p) 14 (w64 ((jl h (pT p) 14) + (jl h 93 7)))) → ∃ p21 h16, jE d 50 [jP 93, jI v1] (wl h (pT p) 14 (w64 ((jl h (pT p) 14) + (jl h 93 7)))) (some (jP p21)) h16 ∧ Ly p h16 ∧ ∃ i19, TokR T e i19 h16 ∧ Q (some (jP p21)) h16)) ∧ (¬ tkK T i = 140 → (tkK T i = 17 → (Ly p (wl h (pT p) 14 (w64 ((jl h (pT p) 14) + (jl h 93 7)))) → TokR T e i (wl h (pT p) 14 (w64 ((jl h (pT p) 14) + (jl h 93 7)))) → ∃ p28 h23, jE d 50 [jP 93, jI v1] (wl h (pT p) 14 (w64 ((jl h (pT p) 14) + (jl h 93 7)))) (some (jP p28)) h23 ∧ Ly p h23 ∧ ∃ i26, TokR T e i26 h23 ∧ Q (some (jP p28)) h23)) ∧ (¬ tkK T i = 17 → (Ly p (wi (wl h (pT p) 14 (w64 ((jl h (pT p) 14) + (jl h 93 7)))) 37 5 (-10 - (tkP T i : Int))) → TokR T e i (wi (wl h (pT p) 14 (w64 ((jl h (pT p) 14) + (jl h 93 7)))) 37 5 (-10 - (tkP T i : Int))) → Q (some (jP 0)) (wi (wl h (pT p) 14 (w64 ((jl h (pT p) 14) + (jl h 93 7)))) 37 5 (-10 - (tkP T i : Int))))))))) : WF d 47 0 [jP 93, jI v1, jU] [] h Q := by
  refine b_47_0 ?_
  refine ⟨(Ly.t93 L :), ?_⟩
  rw [show jr h 93 1 = pT p from (Ly.r93_1 L :)]
  refine ⟨(Ly.dt0 L (Ly.iT L) :), ?_⟩
  refine ⟨(Ly.t93 L :), ?_⟩
  refine ⟨(Ly.dt0 L (Ly.iT L) :), ?_⟩
  refine ⟨(Ly.t93 L :), ?_⟩
  rw [show jr (wl h (pT p) 14 (w64 ((jl h (pT p) 14) + (jl h 93 7)))) 93 0 = 37 from (Ly.r93_0 L :)]
  refine ⟨(Ly.t37 L :), ?_⟩
  refine ⟨_, _, t_70 (d := d) (by omega) (Ly.wl L (a := pT p) (k := 14) (x := w64 ((jl h (pT p) 14) + (jl h 93 7)))) (TokR.swl K (a := pT p) (k := 14) (x := w64 ((jl h (pT p) 14) + (jl h 93 7)))), ?_⟩
  rw [show (ck (tkK T i) = 3) = (tkK T i = 1) from TokR.ckE (TokR.swl K (a := pT p) (k := 14) (x := w64 ((jl h (pT p) 14) + (jl h 93 7)))) 1 rfl]
  refine ⟨fun c1 => ?_, fun c1 => ?_⟩
  · have H := H.1 c1
    refine ⟨(Ly.t93 L :), ?_⟩
    have H := H (Ly.wl L (a := pT p) (k := 14) (x := w64 ((jl h (pT p) 14) + (jl h 93 7)))) (TokR.swl K (a := pT p) (k := 14) (x := w64 ((jl h (pT p) 14) + (jl h 93 7))))
    obtain ⟨p7, h2, e4, L3, i5, K6, H⟩ := H
    refine ⟨p7, h2, e4, ?_⟩
    exact H
  · have H := H.2 c1
    rw [show (ck (tkK T i) = 4) = (tkK T i = 2) from TokR.ckE (TokR.swl K (a := pT p) (k := 14) (x := w64 ((jl h (pT p) 14) + (jl h 93 7)))) 2 rfl]
    refine ⟨fun c8 => ?_, fun c8 => ?_⟩
    · have H := H.1 c8
      refine ⟨(Ly.t93 (Ly.nw (Ly.wl L (a := pT p) (k := 14) (x := w64 ((jl h (pT p) 14) + (jl h 93 7)))) (t := 3) (n := 7)) :), ?_⟩
      rw [show jr (nw (wl h (pT p) 14 (w64 ((jl h (pT p) 14) + (jl h 93 7)))) 3 7) 93 0 = 37 from (Ly.r93_0 (Ly.nw (Ly.wl L (a := pT p) (k := 14) (x := w64 ((jl h (pT p) 14) + (jl h 93 7)))) (t := 3) (n := 7)) :)]
      refine ⟨(Ly.t37 (Ly.nw (Ly.wl L (a := pT p) (k := 14) (x := w64 ((jl h (pT p) 14) + (jl h 93 7)))) (t := 3) (n := 7)) :), ?_⟩
      refine ⟨_, _, t_72 (d := d) (by omega) (Ly.nw (Ly.wl L (a := pT p) (k := 14) (x := w64 ((jl h (pT p) 14) + (jl h 93 7)))) (t := 3) (n := 7)) (TokR.snw (TokR.swl K (a := pT p) (k := 14) (x := w64 ((jl h (pT p) 14) + (jl h 93 7)))) (Ly.wl L (a := pT p) (k := 14) (x := w64 ((jl h (pT p) 14) + (jl h 93 7)))) (t := 3) (n := 7)), ?_⟩
      refine ⟨Nat.le_trans (by decide) (Ly.nx (Ly.wl L (a := pT p) (k := 14) (x := w64 ((jl h (pT p) 14) + (jl h 93 7))))), ?_⟩
      have H := H (Ly.nw (Ly.wl L (a := pT p) (k := 14) (x := w64 ((jl h (pT p) 14) + (jl h 93 7)))) (t := 3) (n := 7)) (TokR.snw (TokR.swl K (a := pT p) (k := 14) (x := w64 ((jl h (pT p) 14) + (jl h 93 7)))) (Ly.wl L (a := pT p) (k := 14) (x := w64 ((jl h (pT p) 14) + (jl h 93 7)))) (t := 3) (n := 7))
      obtain ⟨h9, e11, L10, i12, K13, H⟩ := H
      refine ⟨h9, e11, ?_⟩
      refine ⟨(Ly.t93 L10 :), ?_⟩
      rw [show jr h9 93 0 = 37 from (Ly.r93_0 L10 :)]
      refine ⟨(Ly.t37 L10 :), ?_⟩
      obtain ⟨z14, H⟩ := H
      refine ⟨_, t_74 (d := d) (by omega) L10 K13 z14, ?_⟩
      exact H (Ly.wi L10 (a := 37) (k := 4) (x := ((i12 + 1 : Nat) : Int)) (by decide)) (TokR.adv K13 z14)
    · have H := H.2 c8
      rw [show (ck (tkK T i) = 40) = (tkK T i = 140) from TokR.ckE (TokR.swl K (a := pT p) (k := 14) (x := w64 ((jl h (pT p) 14) + (jl h 93 7)))) 140 rfl]
      refine ⟨fun c15 => ?_, fun c15 => ?_⟩
      · have H := H.1 c15
        refine ⟨(Ly.t93 L :), ?_⟩
        have H := H (Ly.wl L (a := pT p) (k := 14) (x := w64 ((jl h (pT p) 14) + (jl h 93 7)))) (TokR.swl K (a := pT p) (k := 14) (x := w64 ((jl h (pT p) 14) + (jl h 93 7))))
        obtain ⟨p21, h16, e18, L17, i19, K20, H⟩ := H
        refine ⟨p21, h16, e18, ?_⟩
        exact H
      · have H := H.2 c15
        rw [show (ck (tkK T i) = 7566701) = (tkK T i = 17) from TokR.ckE (TokR.swl K (a := pT p) (k := 14) (x := w64 ((jl h (pT p) 14) + (jl h 93 7)))) 17 rfl]
        refine ⟨fun c22 => ?_, fun c22 => ?_⟩
        · have H := H.1 c22
          refine ⟨(Ly.t93 L :), ?_⟩
          have H := H (Ly.wl L (a := pT p) (k := 14) (x := w64 ((jl h (pT p) 14) + (jl h 93 7)))) (TokR.swl K (a := pT p) (k := 14) (x := w64 ((jl h (pT p) 14) + (jl h 93 7))))
          obtain ⟨p28, h23, e25, L24, i26, K27, H⟩ := H
          refine ⟨p28, h23, e25, ?_⟩
          exact H
        · have H := H.2 c22
          refine ⟨(Ly.t93 L :), ?_⟩
          rw [show jr (wl h (pT p) 14 (w64 ((jl h (pT p) 14) + (jl h 93 7)))) 93 0 = 37 from (Ly.r93_0 L :)]
          refine ⟨(Ly.t37 L :), ?_⟩
          refine ⟨_, _, t_76 (d := d) (by omega) (Ly.wl L (a := pT p) (k := 14) (x := w64 ((jl h (pT p) 14) + (jl h 93 7)))) (TokR.swl K (a := pT p) (k := 14) (x := w64 ((jl h (pT p) 14) + (jl h 93 7)))), ?_⟩
          exact H (Ly.wi (Ly.wl L (a := pT p) (k := 14) (x := w64 ((jl h (pT p) 14) + (jl h 93 7)))) (a := 37) (k := 5) (x := -10 - (tkP T i : Int)) (by decide)) (TokR.flt (TokR.swl K (a := pT p) (k := 14) (x := w64 ((jl h (pT p) 14) + (jl h 93 7)))))
set_option maxRecDepth 100000 in
theorem c_48_0 {p : Lpar} {d : Nat} {h : AH} {Q : Option AV → AH → Prop}  (hd : 9 ≤ d) (L : Ly p h) {T : Txt} {e i : Nat} (K : TokR T e i h) (H : ∃ x6 h1, jE d 25 [jP (pT p + 1), jI (nmT T i)] h (some (jI x6)) h1 ∧ Ly p h1 ∧ ∃ i4, TokR T e i4 h1 ∧ WF d 48 18 [jP 93, jI x6, jU, jU, jU, jU] [] h1 Q) : WF d 48 0 [jP 93, jU, jU, jU, jU, jU] [] h Q := by
  refine b_48_0 ?_
  refine ⟨(Ly.t93 L :), ?_⟩
  rw [show jr h 93 1 = pT p from (Ly.r93_1 L :)]
  refine ⟨(Ly.dt0 L (Ly.iT L) :), ?_⟩
  rw [show jr h (pT p) 0 = (pT p + 1) from (Ly.dr0_0 L (Ly.iT L) :)]
  refine ⟨(Ly.t93 L :), ?_⟩
  rw [show jr h 93 0 = 37 from (Ly.r93_0 L :)]
  refine ⟨(Ly.t37 L :), ?_⟩
  refine ⟨_, _, t_73 (d := d) (by omega) L K, ?_⟩
  refine ⟨(Ly.dt1 L (Ly.iT L) :), ?_⟩
  obtain ⟨x6, h1, e3, L2, i4, K5, H⟩ := H
  refine ⟨x6, h1, e3, ?_⟩
  exact H
set_option maxRecDepth 100000 in
theorem c_48_18 {p : Lpar} {d : Nat} {h : AH} {Q : Option AV → AH → Prop} {v1 : Int} {z2 : AV} {z3 : AV} {z4 : AV} {z5 : AV} (hd : 9 ≤ d) (L : Ly p h) {T : Txt} {e i : Nat} (K : TokR T e i h) (H : ∃ x6 h1, jE d 26 [jP (pT p + 1), jI v1, jI (nmT T i)] h (some (jI x6)) h1 ∧ Ly p h1 ∧ ∃ i4, TokR T e i4 h1 ∧ WF d 48 37 [jP 93, jI v1, jI x6, z3, z4, z5] [] h1 Q) : WF d 48 18 [jP 93, jI v1, z2, z3, z4, z5] [] h Q := by
  refine b_48_18 ?_
  refine ⟨(Ly.t93 L :), ?_⟩
  rw [show jr h 93 1 = pT p from (Ly.r93_1 L :)]
  refine ⟨(Ly.dt0 L (Ly.iT L) :), ?_⟩
  rw [show jr h (pT p) 0 = (pT p + 1) from (Ly.dr0_0 L (Ly.iT L) :)]
  refine ⟨(Ly.t93 L :), ?_⟩
  rw [show jr h 93 0 = 37 from (Ly.r93_0 L :)]
  refine ⟨(Ly.t37 L :), ?_⟩
  refine ⟨_, _, t_73 (d := d) (by omega) L K, ?_⟩
  refine ⟨(Ly.dt1 L (Ly.iT L) :), ?_⟩
  obtain ⟨x6, h1, e3, L2, i4, K5, H⟩ := H
  refine ⟨x6, h1, e3, ?_⟩
  exact H
set_option maxRecDepth 100000 in
theorem c_48_37 {p : Lpar} {d : Nat} {h : AH} {Q : Option AV → AH → Prop} {v1 : Int} {v2 : Int} {z3 : AV} {z4 : AV} {z5 : AV} (hd : 9 ≤ d) (L : Ly p h) {T : Txt} {e i : Nat} (K : TokR T e i h) (H : (v2 = (-1) → (Ly p (wi h 37 5 (-10 - (tkP T i : Int))) → TokR T e i (wi h 37 5 (-10 - (tkP T i : Int))) → WF d 48 65 [jP 93, jI v1, jI v2, z3, z4, z5] [] (wi h 37 5 (-10 - (tkP T i : Int))) Q)) ∧ (¬ (v2 = (-1)) → (v1 = 4 → ¬ (tkK T i = 3 ∨ tkK T i = 4) ∧ (Ly p (wi h 37 4 ((i + 1 : Nat) : Int)) → TokR T e (i + 1) (wi h 37 4 ((i + 1 : Nat) : Int)) → WF d 48 74 [jP 93, jI v1, jI v2, z3, z4, z5] [] (wi h 37 4 ((i + 1 : Nat) : Int)) Q)) ∧ (¬ (v1 = 4) → (v1 = 1 → ¬ (tkK T i = 3 ∨ tkK T i = 4) ∧ (Ly p (wi h 37 4 ((i + 1 : Nat) : Int)) → TokR T e (i + 1) (wi h 37 4 ((i + 1 : Nat) : Int)) → WF d 48 74 [jP 93, jI v1, jI v2, z3, z4, z5] [] (wi h 37 4 ((i + 1 : Nat) : Int)) Q)) ∧ (¬ (v1 = 1) → (v1 = 2 → ¬ (tkK T i = 3 ∨ tkK T i = 4) ∧ (Ly p (wi h 37 4 ((i + 1 : Nat) : Int)) → TokR T e (i + 1) (wi h 37 4 ((i + 1 : Nat) : Int)) → WF d 48 74 [jP 93, jI v1, jI v2, z3, z4, z5] [] (wi h 37 4 ((i + 1 : Nat) : Int)) Q)) ∧ (¬ (v1 = 2) → (Ly p (wi h 37 5 (-10 - (tkP T i : Int))) → TokR T e i (wi h 37 5 (-10 - (tkP T i : Int))) → WF d 48 65 [jP 93, jI v1, jI v2, z3, z4, z5] [] (wi h 37 5 (-10 - (tkP T i : Int))) Q)))))) : WF d 48 37 [jP 93, jI v1, jI v2, z3, z4, z5] [] h Q := by
  refine b_48_37 ?_
  refine ⟨fun c7 => ?_, fun c7 => ?_⟩
  · have H := H.1 c7
    refine ⟨(Ly.t93 L :), ?_⟩
    rw [show jr h 93 0 = 37 from (Ly.r93_0 L :)]
    refine ⟨(Ly.t37 L :), ?_⟩
    refine ⟨_, _, t_76 (d := d) (by omega) L K, ?_⟩
    exact H (Ly.wi L (a := 37) (k := 5) (x := -10 - (tkP T i : Int)) (by decide)) (TokR.flt K)
  · have H := H.2 c7
    refine ⟨fun c6 => ?_, fun c6 => ?_⟩
    · have H := H.1 c6
      refine ⟨(Ly.t93 L :), ?_⟩
      rw [show jr h 93 0 = 37 from (Ly.r93_0 L :)]
      refine ⟨(Ly.t37 L :), ?_⟩
      obtain ⟨z1, H⟩ := H
      refine ⟨_, t_74 (d := d) (by omega) L K z1, ?_⟩
      exact H (Ly.wi L (a := 37) (k := 4) (x := ((i + 1 : Nat) : Int)) (by decide)) (TokR.adv K z1)
    · have H := H.2 c6
      refine ⟨fun c5 => ?_, fun c5 => ?_⟩
      · have H := H.1 c5
        refine ⟨(Ly.t93 L :), ?_⟩
        rw [show jr h 93 0 = 37 from (Ly.r93_0 L :)]
        refine ⟨(Ly.t37 L :), ?_⟩
        obtain ⟨z2, H⟩ := H
        refine ⟨_, t_74 (d := d) (by omega) L K z2, ?_⟩
        exact H (Ly.wi L (a := 37) (k := 4) (x := ((i + 1 : Nat) : Int)) (by decide)) (TokR.adv K z2)
      · have H := H.2 c5
        refine ⟨fun c4 => ?_, fun c4 => ?_⟩
        · have H := H.1 c4
          refine ⟨(Ly.t93 L :), ?_⟩
          rw [show jr h 93 0 = 37 from (Ly.r93_0 L :)]
          refine ⟨(Ly.t37 L :), ?_⟩
          obtain ⟨z3, H⟩ := H
          refine ⟨_, t_74 (d := d) (by omega) L K z3, ?_⟩
          exact H (Ly.wi L (a := 37) (k := 4) (x := ((i + 1 : Nat) : Int)) (by decide)) (TokR.adv K z3)
        · have H := H.2 c4
          refine ⟨(Ly.t93 L :), ?_⟩
          rw [show jr h 93 0 = 37 from (Ly.r93_0 L :)]
          refine ⟨(Ly.t37 L :), ?_⟩
          refine ⟨_, _, t_76 (d := d) (by omega) L K, ?_⟩
          exact H (Ly.wi L (a := 37) (k := 5) (x := -10 - (tkP T i : Int)) (by decide)) (TokR.flt K)
set_option maxRecDepth 100000 in
theorem c_48_65 {p : Lpar} {d : Nat} {h : AH} {Q : Option AV → AH → Prop} {v1 : Int} {v2 : Int} {z3 : AV} {z4 : AV} {z5 : AV} (hd : 9 ≤ d) (L : Ly p h) {T : Txt} {e i : Nat} (K : TokR T e i h) (H : Q (some (jP 0)) h) : WF d 48 65 [jP 93, jI v1, jI v2, z3, z4, z5] [] h Q := by
  refine b_48_65 ?_
  exact H
set_option maxRecDepth 100000 in
theorem c_48_74 {p : Lpar} {d : Nat} {h : AH} {Q : Option AV → AH → Prop} {v1 : Int} {v2 : Int} {z3 : AV} {z4 : AV} {z5 : AV} (hd : 9 ≤ d) (L : Ly p h) {T : Txt} {e i : Nat} (K : TokR T e i h) (H : (v1 = 4 → (Ly p (nw h 3 7) → TokR T e i (nw h 3 7) → ∃ h2, jE d 11 [jP (jx h), jI 1, jI v2, jI (-1), jI (-1)] (nw h 3 7) none h2 ∧ Ly p h2 ∧ ∃ i5, TokR T e i5 h2 ∧ Q (some (jP (jx h))) h2)) ∧ (¬ v1 = 4 → (v1 = 1 → WF d 48 114 [jP 93, jI v1, jI v2, jP (pT p + 14), z4, z5] [] h Q) ∧ (¬ v1 = 1 → WF d 48 114 [jP 93, jI v1, jI v2, jP (pT p + 18), z4, z5] [] h Q))) : WF d 48 74 [jP 93, jI v1, jI v2, z3, z4, z5] [] h Q := by
  refine b_48_74 ?_
  refine ⟨fun c7 => ?_, fun c7 => ?_⟩
  · have H := H.2 c7
    refine ⟨fun c1 => ?_, fun c1 => ?_⟩
    · have H := H.2 c1
      refine ⟨(Ly.t93 L :), ?_⟩
      rw [show jr h 93 1 = pT p from (Ly.r93_1 L :)]
      refine ⟨(Ly.dt0 L (Ly.iT L) :), ?_⟩
      rw [show jr h (pT p) 3 = (pT p + 18) from (Ly.dr0_3 L (Ly.iT L) :)]
      exact H
    · have c1 := Decidable.not_not.mp c1
      have H := H.1 c1
      refine ⟨(Ly.t93 L :), ?_⟩
      rw [show jr h 93 1 = pT p from (Ly.r93_1 L :)]
      refine ⟨(Ly.dt0 L (Ly.iT L) :), ?_⟩
      rw [show jr h (pT p) 2 = (pT p + 14) from (Ly.dr0_2 L (Ly.iT L) :)]
      exact H
  · have c7 := Decidable.not_not.mp c7
    have H := H.1 c7
    refine ⟨Nat.le_trans (by decide) (Ly.nx L), ?_⟩
    have H := H (Ly.nw L (t := 3) (n := 7)) (TokR.snw K L (t := 3) (n := 7))
    obtain ⟨h2, e4, L3, i5, K6, H⟩ := H
    refine ⟨h2, e4, ?_⟩
    exact H
set_option maxRecDepth 100000 in
theorem c_48_114 {p : Lpar} {d : Nat} {h : AH} {Q : Option AV → AH → Prop} {v1 : Int} {v2 : Int} {a3 : Nat} {z4 : AV} {z5 : AV} (hd : 9 ≤ d) (L : Ly p h) {T : Txt} {e i : Nat} (K : TokR T e i h) (H : WF d 48 117 [jP 93, jI v1, jI v2, jP a3, jI 0, z5] [] h Q) : WF d 48 114 [jP 93, jI v1, jI v2, jP a3, z4, z5] [] h Q := by
  refine b_48_114 ?_
  exact H
set_option maxRecDepth 100000 in
theorem c_48_117 {p : Lpar} {d : Nat} {h : AH} {Q : Option AV → AH → Prop} {v1 : Int} {v2 : Int} {a3 : Nat} {v4 : Int} {z5 : AV} (hd : 9 ≤ d) (L : Ly p h) {T : Txt} {e i : Nat} (K : TokR T e i h) (H : WF d 48 120 [jP 93, jI v1, jI v2, jP a3, jI v4, jI 0] [] h Q) : WF d 48 117 [jP 93, jI v1, jI v2, jP a3, jI v4, z5] [] h Q := by
  refine b_48_117 ?_
  exact H
set_option maxRecDepth 100000 in
theorem c_48_120 {p : Lpar} {d : Nat} {h : AH} {Q : Option AV → AH → Prop} {v1 : Int} {v2 : Int} {a3 : Nat} {v4 : Int} {v5 : Int} (hd : 9 ≤ d) (L : Ly p h) {T : Txt} {e i : Nat} (K : TokR T e i h) (H : jt h a3 = 9 ∧ inA h (jr h a3 1) 0 v2 ∧ ((ji h (jr h a3 1) (Int.toNat v2)) = (-1) → (v1 = 1 → (Ly p (nw h 3 7) → TokR T e i (nw h 3 7) → ∃ h6, jE d 11 [jP (jx h), jI 2, jI v2, jI v4, jI v5] (nw h 3 7) none h6 ∧ Ly p h6 ∧ ∃ i9, TokR T e i9 h6 ∧ Q (some (jP (jx h))) h6)) ∧ (¬ v1 = 1 → (Ly p (nw h 3 7) → TokR T e i (nw h 3 7) → ∃ h1, jE d 11 [jP (jx h), jI 3, jI v2, jI v4, jI v5] (nw h 3 7) none h1 ∧ Ly p h1 ∧ ∃ i4, TokR T e i4 h1 ∧ Q (some (jP (jx h))) h1))) ∧ (¬ ((ji h (jr h a3 1) (Int.toNat v2)) = (-1)) → jt h a3 = 9 ∧ inA h (jr h a3 1) 0 v2 ∧ ∃ x17 h12, jE d 49 [jP 93, jI 91, jI (ji h (jr h a3 1) (Int.toNat v2))] h (some (jI x17)) h12 ∧ Ly p h12 ∧ ∃ i15, TokR T e i15 h12 ∧ WF d 48 144 [jP 93, jI v1, jI v2, jP a3, jI x17, jI v5] [] h12 Q)) : WF d 48 120 [jP 93, jI v1, jI v2, jP a3, jI v4, jI v5] [] h Q := by
  refine b_48_120 ?_
  obtain ⟨z22, H⟩ := H
  refine ⟨z22, ?_⟩
  obtain ⟨z21, H⟩ := H
  refine ⟨z21, ?_⟩
  refine ⟨fun c20 => ?_, fun c20 => ?_⟩
  · have H := H.1 c20
    refine ⟨fun c11 => ?_, fun c11 => ?_⟩
    · have H := H.2 c11
      refine ⟨Nat.le_trans (by decide) (Ly.nx L), ?_⟩
      have H := H (Ly.nw L (t := 3) (n := 7)) (TokR.snw K L (t := 3) (n := 7))
      obtain ⟨h1, e3, L2, i4, K5, H⟩ := H
      refine ⟨h1, e3, ?_⟩
      exact H
    · have c11 := Decidable.not_not.mp c11
      have H := H.1 c11
      refine ⟨Nat.le_trans (by decide) (Ly.nx L), ?_⟩
      have H := H (Ly.nw L (t := 3) (n := 7)) (TokR.snw K L (t := 3) (n := 7))
      obtain ⟨h6, e8, L7, i9, K10, H⟩ := H
      refine ⟨h6, e8, ?_⟩
      exact H
  · have H := H.2 c20
    obtain ⟨z19, H⟩ := H
    refine ⟨z19, ?_⟩
    obtain ⟨z18, H⟩ := H
    refine ⟨z18, ?_⟩
    refine ⟨(Ly.t93 L :), ?_⟩
    obtain ⟨x17, h12, e14, L13, i15, K16, H⟩ := H
    refine ⟨x17, h12, e14, ?_⟩
    exact H
set_option maxRecDepth 100000 in
theorem c_48_144 {p : Lpar} {d : Nat} {h : AH} {Q : Option AV → AH → Prop} {v1 : Int} {v2 : Int} {a3 : Nat} {v4 : Int} {v5 : Int} (hd : 9 ≤ d) (L : Ly p h) {T : Txt} {e i : Nat} (K : TokR T e i h) (H : (v4 = (-1000) → Q (some (jP 0)) h) ∧ (¬ v4 = (-1000) → jt h a3 = 9 ∧ inA h (jr h a3 2) 0 v2 ∧ ((ji h (jr h a3 2) (Int.toNat v2)) = (-1) → WF d 48 182 [jP 93, jI v1, jI v2, jP a3, jI v4, jI 0] [] h Q) ∧ (¬ (ji h (jr h a3 2) (Int.toNat v2)) = (-1) → jt h a3 = 9 ∧ inA h (jr h a3 2) 0 v2 ∧ ∃ x6 h1, jE d 49 [jP 93, jI 44, jI (ji h (jr h a3 2) (Int.toNat v2))] h (some (jI x6)) h1 ∧ Ly p h1 ∧ ∃ i4, TokR T e i4 h1 ∧ WF d 48 182 [jP 93, jI v1, jI v2, jP a3, jI v4, jI x6] [] h1 Q))) : WF d 48 144 [jP 93, jI v1, jI v2, jP a3, jI v4, jI v5] [] h Q := by
  refine b_48_144 ?_
  refine ⟨fun c12 => ?_, fun c12 => ?_⟩
  · have H := H.2 c12
    obtain ⟨z11, H⟩ := H
    refine ⟨z11, ?_⟩
    obtain ⟨z10, H⟩ := H
    refine ⟨z10, ?_⟩
    refine ⟨fun c9 => ?_, fun c9 => ?_⟩
    · have H := H.2 c9
      obtain ⟨z8, H⟩ := H
      refine ⟨z8, ?_⟩
      obtain ⟨z7, H⟩ := H
      refine ⟨z7, ?_⟩
      refine ⟨(Ly.t93 L :), ?_⟩
      obtain ⟨x6, h1, e3, L2, i4, K5, H⟩ := H
      refine ⟨x6, h1, e3, ?_⟩
      exact H
    · have c9 := Decidable.not_not.mp c9
      have H := H.1 c9
      exact H
  · have c12 := Decidable.not_not.mp c12
    have H := H.1 c12
    exact H
set_option maxRecDepth 100000 in
theorem c_48_182 {p : Lpar} {d : Nat} {h : AH} {Q : Option AV → AH → Prop} {v1 : Int} {v2 : Int} {a3 : Nat} {v4 : Int} {v5 : Int} (hd : 9 ≤ d) (L : Ly p h) {T : Txt} {e i : Nat} (K : TokR T e i h) (H : (v5 = (-1000) → Q (some (jP 0)) h) ∧ (¬ (v5 = (-1000)) → (tkK T i = 193 → (v1 = 1 → (Ly p (nw (wi h 37 4 ((i + 1 : Nat) : Int)) 3 7) → TokR T e (i + 1) (nw (wi h 37 4 ((i + 1 : Nat) : Int)) 3 7) → ∃ h7, jE d 11 [jP (jx (wi h 37 4 ((i + 1 : Nat) : Int))), jI 2, jI v2, jI v4, jI v5] (nw (wi h 37 4 ((i + 1 : Nat) : Int)) 3 7) none h7 ∧ Ly p h7 ∧ ∃ i10, TokR T e i10 h7 ∧ Q (some (jP (jx (wi h 37 4 ((i + 1 : Nat) : Int))))) h7)) ∧ (¬ v1 = 1 → (Ly p (nw (wi h 37 4 ((i + 1 : Nat) : Int)) 3 7) → TokR T e (i + 1) (nw (wi h 37 4 ((i + 1 : Nat) : Int)) 3 7) → ∃ h2, jE d 11 [jP (jx (wi h 37 4 ((i + 1 : Nat) : Int))), jI 3, jI v2, jI v4, jI v5] (nw (wi h 37 4 ((i + 1 : Nat) : Int)) 3 7) none h2 ∧ Ly p h2 ∧ ∃ i5, TokR T e i5 h2 ∧ Q (some (jP (jx (wi h 37 4 ((i + 1 : Nat) : Int))))) h2))) ∧ (¬ tkK T i = 193 → (Ly p (wi h 37 5 (-10 - (tkP T i : Int))) → TokR T e i (wi h 37 5 (-10 - (tkP T i : Int))) → Q (some (jP 0)) (wi h 37 5 (-10 - (tkP T i : Int))))))) : WF d 48 182 [jP 93, jI v1, jI v2, jP a3, jI v4, jI v5] [] h Q := by
  refine b_48_182 ?_
  refine ⟨fun c13 => ?_, fun c13 => ?_⟩
  · have H := H.1 c13
    exact H
  · have H := H.2 c13
    refine ⟨(Ly.t93 L :), ?_⟩
    rw [show jr h 93 0 = 37 from (Ly.r93_0 L :)]
    refine ⟨(Ly.t37 L :), ?_⟩
    by_cases c1 : tkK T i = 193
    · have H := H.1 c1
      refine ⟨_, _, t_75y (d := d) (by omega) L K 193 rfl c1 (ns c1 (by decide)), ?_⟩
      refine ⟨fun _ => ?_, fun c => absurd (by decide) c⟩
      refine ⟨fun c12 => ?_, fun c12 => ?_⟩
      · have H := H.2 c12
        refine ⟨Nat.le_trans (by decide) (Ly.nx (Ly.wi L (a := 37) (k := 4) (x := ((i + 1 : Nat) : Int)) (by decide))), ?_⟩
        have H := H (Ly.nw (Ly.wi L (a := 37) (k := 4) (x := ((i + 1 : Nat) : Int)) (by decide)) (t := 3) (n := 7)) (TokR.snw (TokR.adv K (ns c1 (by decide))) (Ly.wi L (a := 37) (k := 4) (x := ((i + 1 : Nat) : Int)) (by decide)) (t := 3) (n := 7))
        obtain ⟨h2, e4, L3, i5, K6, H⟩ := H
        refine ⟨h2, e4, ?_⟩
        exact H
      · have c12 := Decidable.not_not.mp c12
        have H := H.1 c12
        refine ⟨Nat.le_trans (by decide) (Ly.nx (Ly.wi L (a := 37) (k := 4) (x := ((i + 1 : Nat) : Int)) (by decide))), ?_⟩
        have H := H (Ly.nw (Ly.wi L (a := 37) (k := 4) (x := ((i + 1 : Nat) : Int)) (by decide)) (t := 3) (n := 7)) (TokR.snw (TokR.adv K (ns c1 (by decide))) (Ly.wi L (a := 37) (k := 4) (x := ((i + 1 : Nat) : Int)) (by decide)) (t := 3) (n := 7))
        obtain ⟨h7, e9, L8, i10, K11, H⟩ := H
        refine ⟨h7, e9, ?_⟩
        exact H
    · have H := H.2 c1
      refine ⟨_, _, t_75n (d := d) (by omega) L K 193 rfl c1, ?_⟩
      refine ⟨fun c => absurd c (by decide), fun _ => ?_⟩
      exact H (Ly.wi L (a := 37) (k := 5) (x := -10 - (tkP T i : Int)) (by decide)) (TokR.flt K)
