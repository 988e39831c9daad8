-- needs: 20.num 21.lay 22.spec 23.va 24.leaf 25.tbls 26.thg 27.tok
set_option maxRecDepth 100000 in
theorem c_37_0 {p : Lpar} {d : Nat} {h : AH} {Q : Option AV → AH → Prop}  (hd : 9 ≤ d) (L : Ly p h) {T : Txt} {e i : Nat} (K : TokR T e i h) (H : ∃ x6 h1, jE d 33 [jP 93, jI 3, jI (ji h (pT p + 22) 4), jI 10] h (some (jI x6)) h1 ∧ Ly p h1 ∧ ∃ i4, TokR T e i4 h1 ∧ (x6 = (0 : Int) → Q (some (jI 0)) h1) ∧ (¬ x6 = (0 : Int) → (tkK T i4 = 19 → (Ly p (wi h1 37 4 ((i4 + 1 : Nat) : Int)) → TokR T e (i4 + 1) (wi h1 37 4 ((i4 + 1 : Nat) : Int)) → ∃ x13 h8, jE d 43 [jP 93] (wi h1 37 4 ((i4 + 1 : Nat) : Int)) (some (jI x13)) h8 ∧ Ly p h8 ∧ ∃ i11, TokR T e i11 h8 ∧ (x13 = (0 : Int) → Q (some (jI 0)) h8) ∧ (¬ x13 = (0 : Int) → (tkK T i11 = 158 → (Ly p (wi h8 37 4 ((i11 + 1 : Nat) : Int)) → TokR T e (i11 + 1) (wi h8 37 4 ((i11 + 1 : Nat) : Int)) → ∃ x20 h15, jE d 44 [jP 93, jI 0] (wi h8 37 4 ((i11 + 1 : Nat) : Int)) (some (jI x20)) h15 ∧ Ly p h15 ∧ ∃ i18, TokR T e i18 h15 ∧ ∃ x26 h21, jE d 44 [jP 93, jI 1] h15 (some (jI x26)) h21 ∧ Ly p h21 ∧ ∃ i24, TokR T e i24 h21 ∧ ∃ h27, jE d 59 [jP (pT p + 22), jI x20, jI x26] h21 none h27 ∧ Ly p h27 ∧ ∃ i30, TokR T e i30 h27 ∧ WF d 37 86 [jP 93, jI (ji h (pT p + 22) 4)] [] h27 Q)) ∧ (¬ tkK T i11 = 158 → (Ly p (wi h8 37 5 (-10 - (tkP T i11 : Int))) → TokR T e i11 (wi h8 37 5 (-10 - (tkP T i11 : Int))) → Q (some (jI 0)) (wi h8 37 5 (-10 - (tkP T i11 : Int)))))))) ∧ (¬ tkK T i4 = 19 → (tkK T i4 = 158 → (Ly p (wi h1 37 4 ((i4 + 1 : Nat) : Int)) → TokR T e (i4 + 1) (wi h1 37 4 ((i4 + 1 : Nat) : Int)) → ∃ x39 h34, jE d 44 [jP 93, jI 0] (wi h1 37 4 ((i4 + 1 : Nat) : Int)) (some (jI x39)) h34 ∧ Ly p h34 ∧ ∃ i37, TokR T e i37 h34 ∧ ∃ x45 h40, jE d 44 [jP 93, jI 1] h34 (some (jI x45)) h40 ∧ Ly p h40 ∧ ∃ i43, TokR T e i43 h40 ∧ ∃ h46, jE d 59 [jP (pT p + 22), jI x39, jI x45] h40 none h46 ∧ Ly p h46 ∧ ∃ i49, TokR T e i49 h46 ∧ WF d 37 86 [jP 93, jI (ji h (pT p + 22) 4)] [] h46 Q)) ∧ (¬ tkK T i4 = 158 → (Ly p (wi h1 37 5 (-10 - (tkP T i4 : Int))) → TokR T e i4 (wi h1 37 5 (-10 - (tkP T i4 : Int))) → Q (some (jI 0)) (wi h1 37 5 (-10 - (tkP T i4 : Int)))))))) : WF d 37 0 [jP 93, jU] [] h Q := by
  refine b_37_0 ?_
  refine ⟨(Ly.t93 L :), ?_⟩
  rw [show jr h 93 1 = pT p from (Ly.r93_1 L :)]
  refine ⟨(Ly.dt0 L (Ly.iT L) :), ?_⟩
  rw [show jr h (pT p) 4 = (pT p + 22) from (Ly.dr0_4 L (Ly.iT L) :)]
  refine ⟨(Ly.dt22 L (Ly.iT L) :), ?_⟩
  refine b_37_11 ?_
  refine ⟨(Ly.t93 L :), ?_⟩
  obtain ⟨x6, h1, e3, L2, i4, K5, H⟩ := H
  refine ⟨x6, h1, e3, ?_⟩
  refine ⟨fun c51 => ?_, fun c51 => ?_⟩
  · have H := H.2 c51
    refine ⟨(Ly.t93 L2 :), ?_⟩
    rw [show jr h1 93 0 = 37 from (Ly.r93_0 L2 :)]
    refine ⟨(Ly.t37 L2 :), ?_⟩
    refine ⟨_, _, t_70 (d := d) (by omega) L2 K5, ?_⟩
    rw [show (ck (tkK T i4) = 6713202) = (tkK T i4 = 19) from TokR.ckE K5 19 rfl]
    refine ⟨fun c7 => ?_, fun c7 => ?_⟩
    · have H := H.2 c7
      refine ⟨(Ly.t93 L2 :), ?_⟩
      rw [show jr h1 93 0 = 37 from (Ly.r93_0 L2 :)]
      refine ⟨(Ly.t37 L2 :), ?_⟩
      by_cases c33 : tkK T i4 = 158
      · have H := H.1 c33
        refine ⟨_, _, t_75y (d := d) (by omega) L2 K5 158 rfl c33 (ns c33 (by decide)), ?_⟩
        refine ⟨fun _ => ?_, fun c => absurd (by decide) c⟩
        refine ⟨(Ly.t93 L2 :), ?_⟩
        rw [show jr (wi h1 37 4 ((i4 + 1 : Nat) : Int)) 93 1 = pT p from (Ly.r93_1 L2 :)]
        refine ⟨(Ly.dt0 L2 (Ly.iT L2) :), ?_⟩
        rw [show jr (wi h1 37 4 ((i4 + 1 : Nat) : Int)) (pT p) 4 = (pT p + 22) from (Ly.dr0_4 L2 (Ly.iT L2) :)]
        refine ⟨(Ly.t93 L2 :), ?_⟩
        have H := H (Ly.wi L2 (a := 37) (k := 4) (x := ((i4 + 1 : Nat) : Int)) (by decide)) (TokR.adv K5 (ns c33 (by decide)))
        obtain ⟨x39, h34, e36, L35, i37, K38, H⟩ := H
        refine ⟨x39, h34, e36, ?_⟩
        refine ⟨(Ly.t93 L35 :), ?_⟩
        obtain ⟨x45, h40, e42, L41, i43, K44, H⟩ := H
        refine ⟨x45, h40, e42, ?_⟩
        refine ⟨(Ly.dt22 L41 (Ly.iT L41) :), ?_⟩
        obtain ⟨h46, e48, L47, i49, K50, H⟩ := H
        refine ⟨h46, e48, ?_⟩
        exact H
      · have H := H.2 c33
        refine ⟨_, _, t_75n (d := d) (by omega) L2 K5 158 rfl c33, ?_⟩
        refine ⟨fun c => absurd c (by decide), fun _ => ?_⟩
        refine ⟨Or.inl rfl, ?_⟩
        exact H (Ly.wi L2 (a := 37) (k := 5) (x := -10 - (tkP T i4 : Int)) (by decide)) (TokR.flt K5)
    · have c7 := Decidable.not_not.mp c7
      have H := H.1 c7
      refine ⟨(Ly.t93 L2 :), ?_⟩
      rw [show jr h1 93 0 = 37 from (Ly.r93_0 L2 :)]
      refine ⟨(Ly.t37 L2 :), ?_⟩
      refine ⟨_, t_74 (d := d) (by omega) L2 K5 (ns c7 (by decide)), ?_⟩
      refine b_37_43 ?_
      refine ⟨(Ly.t93 L2 :), ?_⟩
      have H := H (Ly.wi L2 (a := 37) (k := 4) (x := ((i4 + 1 : Nat) : Int)) (by decide)) (TokR.adv K5 (ns c7 (by decide)))
      obtain ⟨x13, h8, e10, L9, i11, K12, H⟩ := H
      refine ⟨x13, h8, e10, ?_⟩
      refine ⟨fun c32 => ?_, fun c32 => ?_⟩
      · have H := H.2 c32
        refine ⟨(Ly.t93 L9 :), ?_⟩
        rw [show jr h8 93 0 = 37 from (Ly.r93_0 L9 :)]
        refine ⟨(Ly.t37 L9 :), ?_⟩
        by_cases c14 : tkK T i11 = 158
        · have H := H.1 c14
          refine ⟨_, _, t_75y (d := d) (by omega) L9 K12 158 rfl c14 (ns c14 (by decide)), ?_⟩
          refine ⟨fun _ => ?_, fun c => absurd (by decide) c⟩
          refine ⟨(Ly.t93 L9 :), ?_⟩
          rw [show jr (wi h8 37 4 ((i11 + 1 : Nat) : Int)) 93 1 = pT p from (Ly.r93_1 L9 :)]
          refine ⟨(Ly.dt0 L9 (Ly.iT L9) :), ?_⟩
          rw [show jr (wi h8 37 4 ((i11 + 1 : Nat) : Int)) (pT p) 4 = (pT p + 22) from (Ly.dr0_4 L9 (Ly.iT L9) :)]
          refine ⟨(Ly.t93 L9 :), ?_⟩
          have H := H (Ly.wi L9 (a := 37) (k := 4) (x := ((i11 + 1 : Nat) : Int)) (by decide)) (TokR.adv K12 (ns c14 (by decide)))
          obtain ⟨x20, h15, e17, L16, i18, K19, H⟩ := H
          refine ⟨x20, h15, e17, ?_⟩
          refine ⟨(Ly.t93 L16 :), ?_⟩
          obtain ⟨x26, h21, e23, L22, i24, K25, H⟩ := H
          refine ⟨x26, h21, e23, ?_⟩
          refine ⟨(Ly.dt22 L22 (Ly.iT L22) :), ?_⟩
          obtain ⟨h27, e29, L28, i30, K31, H⟩ := H
          refine ⟨h27, e29, ?_⟩
          exact H
        · have H := H.2 c14
          refine ⟨_, _, t_75n (d := d) (by omega) L9 K12 158 rfl c14, ?_⟩
          refine ⟨fun c => absurd c (by decide), fun _ => ?_⟩
          refine ⟨Or.inl rfl, ?_⟩
          exact H (Ly.wi L9 (a := 37) (k := 5) (x := -10 - (tkP T i11 : Int)) (by decide)) (TokR.flt K12)
      · have c32 := Decidable.not_not.mp c32
        have H := H.1 c32
        refine ⟨Or.inl rfl, ?_⟩
        exact H
  · have c51 := Decidable.not_not.mp c51
    have H := H.1 c51
    refine ⟨Or.inl rfl, ?_⟩
    exact H
set_option maxRecDepth 100000 in
theorem c_37_86 {p : Lpar} {d : Nat} {h : AH} {Q : Option AV → AH → Prop} {v1 : Int} (hd : 9 ≤ d) (L : Ly p h) {T : Txt} {e i : Nat} (K : TokR T e i h) (H : ∃ x6 h1, jE d 44 [jP 93, jI 0] h (some (jI x6)) h1 ∧ Ly p h1 ∧ ∃ i4, TokR T e i4 h1 ∧ ∃ x12 h7, jE d 53 [jP (pT p + 5), jI x6] h1 (some (jI x12)) h7 ∧ Ly p h7 ∧ ∃ i10, TokR T e i10 h7 ∧ ∃ x18 h13, jE d 44 [jP 93, jI 1] h7 (some (jI x18)) h13 ∧ Ly p h13 ∧ ∃ i16, TokR T e i16 h13 ∧ ∃ x24 h19, jE d 53 [jP (pT p + 5), jI x18] h13 (some (jI x24)) h19 ∧ Ly p h19 ∧ ∃ i22, TokR T e i22 h19 ∧ (Ly p (wl h19 93 7 (w32 (x12 * x24))) → TokR T e i22 (wl h19 93 7 (w32 (x12 * x24))) → ∃ p30 h25, jE d 46 [jP 93, jI 0] (wl h19 93 7 (w32 (x12 * x24))) (some (jP p30)) h25 ∧ Ly p h25 ∧ ∃ i28, TokR T e i28 h25 ∧ 0 ≤ v1 ∧ v1 < 10 ∧ (p30 = 0 ∨ jt h25 p30 = 6) ∧ 0 ≤ v1 ∧ v1 < 10 ∧ ¬ (jr (wr h25 (pT p + 12) (Int.toNat v1) p30) (pT p + 12) (Int.toNat v1)) = 1 ∧ ((jr (wr h25 (pT p + 12) (Int.toNat v1) p30) (pT p + 12) (Int.toNat v1)) = 0 → (Ly p (wr h25 (pT p + 12) (Int.toNat v1) p30) → TokR T e i28 (wr h25 (pT p + 12) (Int.toNat v1) p30) → Q (some (jI 0)) (wr h25 (pT p + 12) (Int.toNat v1) p30))) ∧ (¬ (jr (wr h25 (pT p + 12) (Int.toNat v1) p30) (pT p + 12) (Int.toNat v1)) = 0 → (Ly p (wr h25 (pT p + 12) (Int.toNat v1) p30) → TokR T e i28 (wr h25 (pT p + 12) (Int.toNat v1) p30) → ∃ x38 h33, jE d 38 [jP 93, jI v1] (wr h25 (pT p + 12) (Int.toNat v1) p30) (some (jI x38)) h33 ∧ Ly p h33 ∧ ∃ i36, TokR T e i36 h33 ∧ (x38 = (0 : Int) → Q (some (jI 0)) h33) ∧ (¬ x38 = (0 : Int) → ∃ p44 h39, jE d 46 [jP 93, jI 0] h33 (some (jP p44)) h39 ∧ Ly p h39 ∧ ∃ i42, TokR T e i42 h39 ∧ 0 ≤ v1 ∧ v1 < 10 ∧ (p44 = 0 ∨ jt h39 p44 = 6) ∧ (Ly p (wr h39 (pT p + 13) (Int.toNat v1) p44) → TokR T e i42 (wr h39 (pT p + 13) (Int.toNat v1) p44) → ∃ h45, jE d 45 [jP 93, jI 0] (wr h39 (pT p + 13) (Int.toNat v1) p44) none h45 ∧ Ly p h45 ∧ ∃ i48, TokR T e i48 h45 ∧ 0 ≤ v1 ∧ v1 < 10 ∧ ¬ (jr h45 (pT p + 13) (Int.toNat v1)) = 1 ∧ ((jr h45 (pT p + 13) (Int.toNat v1)) = 0 → Q (some (jI 0)) h45) ∧ (¬ (jr h45 (pT p + 13) (Int.toNat v1)) = 0 → (tkK T i48 = 159 → (Ly p (wi h45 37 4 ((i48 + 1 : Nat) : Int)) → TokR T e (i48 + 1) (wi h45 37 4 ((i48 + 1 : Nat) : Int)) → Q (some (jI 1)) (wi h45 37 4 ((i48 + 1 : Nat) : Int)))) ∧ (¬ tkK T i48 = 159 → (Ly p (wi h45 37 5 (-10 - (tkP T i48 : Int))) → TokR T e i48 (wi h45 37 5 (-10 - (tkP T i48 : Int))) → Q (some (jI 0)) (wi h45 37 5 (-10 - (tkP T i48 : Int)))))))))))) : WF d 37 86 [jP 93, jI v1] [] h Q := by
  refine b_37_86 ?_
  refine ⟨(Ly.t93 L :), ?_⟩
  rw [show jr h 93 1 = pT p from (Ly.r93_1 L :)]
  refine ⟨(Ly.dt0 L (Ly.iT L) :), ?_⟩
  rw [show jr h (pT p) 1 = (pT p + 5) from (Ly.dr0_1 L (Ly.iT L) :)]
  refine ⟨(Ly.t93 L :), ?_⟩
  obtain ⟨x6, h1, e3, L2, i4, K5, H⟩ := H
  refine ⟨x6, h1, e3, ?_⟩
  refine ⟨(Ly.dt5 L2 (Ly.iT L2) :), ?_⟩
  obtain ⟨x12, h7, e9, L8, i10, K11, H⟩ := H
  refine ⟨x12, h7, e9, ?_⟩
  refine ⟨(Ly.t93 L8 :), ?_⟩
  rw [show jr h7 93 1 = pT p from (Ly.r93_1 L8 :)]
  refine ⟨(Ly.dt0 L8 (Ly.iT L8) :), ?_⟩
  rw [show jr h7 (pT p) 1 = (pT p + 5) from (Ly.dr0_1 L8 (Ly.iT L8) :)]
  refine ⟨(Ly.t93 L8 :), ?_⟩
  obtain ⟨x18, h13, e15, L14, i16, K17, H⟩ := H
  refine ⟨x18, h13, e15, ?_⟩
  refine ⟨(Ly.dt5 L14 (Ly.iT L14) :), ?_⟩
  obtain ⟨x24, h19, e21, L20, i22, K23, H⟩ := H
  refine ⟨x24, h19, e21, ?_⟩
  refine ⟨(Ly.t93 L20 :), ?_⟩
  refine b_37_122 ?_
  refine ⟨(Ly.t93 L20 :), ?_⟩
  rw [show jr (wl h19 93 7 (w32 (x12 * x24))) 93 1 = pT p from (Ly.r93_1 L20 :)]
  refine ⟨(Ly.dt0 L20 (Ly.iT L20) :), ?_⟩
  rw [show jr (wl h19 93 7 (w32 (x12 * x24))) (pT p) 10 = (pT p + 12) from (Ly.dr0_10 L20 (Ly.iT L20) :)]
  refine ⟨(Ly.t93 L20 :), ?_⟩
  have H := H (Ly.wl L20 (a := 93) (k := 7) (x := w32 (x12 * x24))) (TokR.swl K23 (a := 93) (k := 7) (x := w32 (x12 * x24)))
  obtain ⟨p30, h25, e27, L26, i28, K29, H⟩ := H
  refine ⟨p30, h25, e27, ?_⟩
  obtain ⟨z62, z63, H⟩ := H
  refine ⟨inW_mk (N := 10) (Ly.dt12 L26 (Ly.iT L26) :) (Ly.dn12 L26 (Ly.iT L26) :) z62 z63, ?_⟩
  obtain ⟨z61, H⟩ := H
  refine ⟨z61, ?_⟩
  refine b_37_136 ?_
  refine ⟨(Ly.t93 (Ly.wr L26 (a := (pT p + 12)) (k := Int.toNat v1) (b := p30) (by have := (Ly.iT L26); unfold isD at this; unfold mutR; omega)) :), ?_⟩
  rw [show jr (wr h25 (pT p + 12) (Int.toNat v1) p30) 93 1 = pT p from (Ly.r93_1 (Ly.wr L26 (a := (pT p + 12)) (k := Int.toNat v1) (b := p30) (by have := (Ly.iT L26); unfold isD at this; unfold mutR; omega)) :)]
  refine ⟨(Ly.dt0 (Ly.wr L26 (a := (pT p + 12)) (k := Int.toNat v1) (b := p30) (by have := (Ly.iT L26); unfold isD at this; unfold mutR; omega)) (Ly.iT (Ly.wr L26 (a := (pT p + 12)) (k := Int.toNat v1) (b := p30) (by have := (Ly.iT L26); unfold isD at this; unfold mutR; omega))) :), ?_⟩
  rw [show jr (wr h25 (pT p + 12) (Int.toNat v1) p30) (pT p) 10 = (pT p + 12) from (Ly.dr0_10 (Ly.wr L26 (a := (pT p + 12)) (k := Int.toNat v1) (b := p30) (by have := (Ly.iT L26); unfold isD at this; unfold mutR; omega)) (Ly.iT (Ly.wr L26 (a := (pT p + 12)) (k := Int.toNat v1) (b := p30) (by have := (Ly.iT L26); unfold isD at this; unfold mutR; omega))) :)]
  obtain ⟨z31, z32, H⟩ := H
  refine ⟨Or.inl (inA_mk (N := 10) (Ly.dt12 (Ly.wr L26 (a := (pT p + 12)) (k := Int.toNat v1) (b := p30) (by have := (Ly.iT L26); unfold isD at this; unfold mutR; omega)) (Ly.iT (Ly.wr L26 (a := (pT p + 12)) (k := Int.toNat v1) (b := p30) (by have := (Ly.iT L26); unfold isD at this; unfold mutR; omega))) :) (Ly.dn12 (Ly.wr L26 (a := (pT p + 12)) (k := Int.toNat v1) (b := p30) (by have := (Ly.iT L26); unfold isD at this; unfold mutR; omega)) (Ly.iT (Ly.wr L26 (a := (pT p + 12)) (k := Int.toNat v1) (b := p30) (by have := (Ly.iT L26); unfold isD at this; unfold mutR; omega))) :) z31 z32), ?_⟩
  obtain ⟨z59, H⟩ := H
  refine ⟨z59, fun c60 => ?_, fun c60 => ?_⟩
  · have H := H.1 c60
    refine ⟨Or.inl rfl, ?_⟩
    exact H (Ly.wr L26 (a := (pT p + 12)) (k := Int.toNat v1) (b := p30) (by have := (Ly.iT L26); unfold isD at this; unfold mutR; omega)) (TokR.swr K29 (a := (pT p + 12)) (k := Int.toNat v1) (x := p30))
  · have H := H.2 c60
    refine ⟨(Ly.t93 (Ly.wr L26 (a := (pT p + 12)) (k := Int.toNat v1) (b := p30) (by have := (Ly.iT L26); unfold isD at this; unfold mutR; omega)) :), ?_⟩
    have H := H (Ly.wr L26 (a := (pT p + 12)) (k := Int.toNat v1) (b := p30) (by have := (Ly.iT L26); unfold isD at this; unfold mutR; omega)) (TokR.swr K29 (a := (pT p + 12)) (k := Int.toNat v1) (x := p30))
    obtain ⟨x38, h33, e35, L34, i36, K37, H⟩ := H
    refine ⟨x38, h33, e35, ?_⟩
    refine ⟨fun c58 => ?_, fun c58 => ?_⟩
    · have H := H.2 c58
      refine ⟨(Ly.t93 L34 :), ?_⟩
      rw [show jr h33 93 1 = pT p from (Ly.r93_1 L34 :)]
      refine ⟨(Ly.dt0 L34 (Ly.iT L34) :), ?_⟩
      rw [show jr h33 (pT p) 11 = (pT p + 13) from (Ly.dr0_11 L34 (Ly.iT L34) :)]
      refine ⟨(Ly.t93 L34 :), ?_⟩
      obtain ⟨p44, h39, e41, L40, i42, K43, H⟩ := H
      refine ⟨p44, h39, e41, ?_⟩
      obtain ⟨z56, z57, H⟩ := H
      refine ⟨inW_mk (N := 10) (Ly.dt13 L40 (Ly.iT L40) :) (Ly.dn13 L40 (Ly.iT L40) :) z56 z57, ?_⟩
      obtain ⟨z55, H⟩ := H
      refine ⟨z55, ?_⟩
      refine b_37_172 ?_
      refine ⟨(Ly.t93 (Ly.wr L40 (a := (pT p + 13)) (k := Int.toNat v1) (b := p44) (by have := (Ly.iT L40); unfold isD at this; unfold mutR; omega)) :), ?_⟩
      have H := H (Ly.wr L40 (a := (pT p + 13)) (k := Int.toNat v1) (b := p44) (by have := (Ly.iT L40); unfold isD at this; unfold mutR; omega)) (TokR.swr K43 (a := (pT p + 13)) (k := Int.toNat v1) (x := p44))
      obtain ⟨h45, e47, L46, i48, K49, H⟩ := H
      refine ⟨h45, e47, ?_⟩
      refine b_37_177 ?_
      refine ⟨(Ly.t93 L46 :), ?_⟩
      rw [show jr h45 93 1 = pT p from (Ly.r93_1 L46 :)]
      refine ⟨(Ly.dt0 L46 (Ly.iT L46) :), ?_⟩
      rw [show jr h45 (pT p) 11 = (pT p + 13) from (Ly.dr0_11 L46 (Ly.iT L46) :)]
      obtain ⟨z50, z51, H⟩ := H
      refine ⟨Or.inl (inA_mk (N := 10) (Ly.dt13 L46 (Ly.iT L46) :) (Ly.dn13 L46 (Ly.iT L46) :) z50 z51), ?_⟩
      obtain ⟨z53, H⟩ := H
      refine ⟨z53, fun c54 => ?_, fun c54 => ?_⟩
      · have H := H.1 c54
        refine ⟨Or.inl rfl, ?_⟩
        exact H
      · have H := H.2 c54
        refine ⟨(Ly.t93 L46 :), ?_⟩
        rw [show jr h45 93 0 = 37 from (Ly.r93_0 L46 :)]
        refine ⟨(Ly.t37 L46 :), ?_⟩
        by_cases c52 : tkK T i48 = 159
        · have H := H.1 c52
          refine ⟨_, _, t_75y (d := d) (by omega) L46 K49 159 rfl c52 (ns c52 (by decide)), ?_⟩
          refine ⟨fun c => absurd c (by decide), fun _ => ?_⟩
          refine ⟨Or.inr rfl, ?_⟩
          exact H (Ly.wi L46 (a := 37) (k := 4) (x := ((i48 + 1 : Nat) : Int)) (by decide)) (TokR.adv K49 (ns c52 (by decide)))
        · have H := H.2 c52
          refine ⟨_, _, t_75n (d := d) (by omega) L46 K49 159 rfl c52, ?_⟩
          refine ⟨fun _ => ?_, fun c => absurd (by decide) c⟩
          refine ⟨Or.inl rfl, ?_⟩
          exact H (Ly.wi L46 (a := 37) (k := 5) (x := -10 - (tkP T i48 : Int)) (by decide)) (TokR.flt K49)
    · have c58 := Decidable.not_not.mp c58
      have H := H.1 c58
      refine ⟨Or.inl rfl, ?_⟩
      exact H
