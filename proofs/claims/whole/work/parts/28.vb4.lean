-- needs: 20.num 21.lay 22.spec 23.va 24.leaf 25.tbls 26.thg 27.tok
set_option maxRecDepth 100000 in
theorem c_37_0 {p : Lpar} {d : Nat} {h : AH} {Q : Option AV → AH → Prop}  (hd : 9 ≤ d) (L : Ly p h) {T : Txt} {e i : Nat} (K : TokR T e i h) (H : ∃ x6 h1, jE d 33 [jP 93, jI 3, jI (ji h (pT p + 22) 4), jI 10] h (some (jI x6)) h1 ∧ Ly p h1 ∧ ∃ i4, TokR T e i4 h1 ∧ (x6 = (0 : Int) → Q (some (jI 0)) h1) ∧ (¬ x6 = (0 : Int) → (tkK T i4 = 19 → (Ly p (wi h1 37 4 ((i4 + 1 : Nat) : Int)) → TokR T e (i4 + 1) (wi h1 37 4 ((i4 + 1 : Nat) : Int)) → ∃ x94 h89, jE d 43 [jP 93] (wi h1 37 4 ((i4 + 1 : Nat) : Int)) (some (jI x94)) h89 ∧ Ly p h89 ∧ ∃ i92, TokR T e i92 h89 ∧ (x94 = (0 : Int) → Q (some (jI 0)) h89) ∧ (¬ x94 = (0 : Int) → (tkK T i92 = 158 → (Ly p (wi h89 37 4 ((i92 + 1 : Nat) : Int)) → TokR T e (i92 + 1) (wi h89 37 4 ((i92 + 1 : Nat) : Int)) → ∃ x101 h96, jE d 44 [jP 93, jI 0] (wi h89 37 4 ((i92 + 1 : Nat) : Int)) (some (jI x101)) h96 ∧ Ly p h96 ∧ ∃ i99, TokR T e i99 h96 ∧ ∃ x107 h102, jE d 44 [jP 93, jI 1] h96 (some (jI x107)) h102 ∧ Ly p h102 ∧ ∃ i105, TokR T e i105 h102 ∧ ∃ h108, jE d 59 [jP (pT p + 22), jI x101, jI x107] h102 none h108 ∧ Ly p h108 ∧ ∃ i111, TokR T e i111 h108 ∧ ∃ x118 h113, jE d 44 [jP 93, jI 0] h108 (some (jI x118)) h113 ∧ Ly p h113 ∧ ∃ i116, TokR T e i116 h113 ∧ ∃ x124 h119, jE d 53 [jP (pT p + 5), jI x118] h113 (some (jI x124)) h119 ∧ Ly p h119 ∧ ∃ i122, TokR T e i122 h119 ∧ ∃ x130 h125, jE d 44 [jP 93, jI 1] h119 (some (jI x130)) h125 ∧ Ly p h125 ∧ ∃ i128, TokR T e i128 h125 ∧ ∃ x136 h131, jE d 53 [jP (pT p + 5), jI x130] h125 (some (jI x136)) h131 ∧ Ly p h131 ∧ ∃ i134, TokR T e i134 h131 ∧ (Ly p (wl h131 93 7 (w32 (x124 * x136))) → TokR T e i134 (wl h131 93 7 (w32 (x124 * x136))) → ∃ p142 h137, jE d 46 [jP 93, jI 0] (wl h131 93 7 (w32 (x124 * x136))) (some (jP p142)) h137 ∧ Ly p h137 ∧ ∃ i140, TokR T e i140 h137 ∧ 0 ≤ (ji h (pT p + 22) 4) ∧ (ji h (pT p + 22) 4) < 10 ∧ (p142 = 0 ∨ jt h137 p142 = 6) ∧ 0 ≤ (ji h (pT p + 22) 4) ∧ (ji h (pT p + 22) 4) < 10 ∧ ¬ (jr (wr h137 (pT p + 12) (Int.toNat (ji h (pT p + 22) 4)) p142) (pT p + 12) (Int.toNat (ji h (pT p + 22) 4))) = 1 ∧ ((jr (wr h137 (pT p + 12) (Int.toNat (ji h (pT p + 22) 4)) p142) (pT p + 12) (Int.toNat (ji h (pT p + 22) 4))) = 0 → (Ly p (wr h137 (pT p + 12) (Int.toNat (ji h (pT p + 22) 4)) p142) → TokR T e i140 (wr h137 (pT p + 12) (Int.toNat (ji h (pT p + 22) 4)) p142) → Q (some (jI 0)) (wr h137 (pT p + 12) (Int.toNat (ji h (pT p + 22) 4)) p142))) ∧ (¬ (jr (wr h137 (pT p + 12) (Int.toNat (ji h (pT p + 22) 4)) p142) (pT p + 12) (Int.toNat (ji h (pT p + 22) 4))) = 0 → (Ly p (wr h137 (pT p + 12) (Int.toNat (ji h (pT p + 22) 4)) p142) → TokR T e i140 (wr h137 (pT p + 12) (Int.toNat (ji h (pT p + 22) 4)) p142) → ∃ x150 h145, jE d 38 [jP 93, jI (ji h (pT p + 22) 4)] (wr h137 (pT p + 12) (Int.toNat (ji h (pT p + 22) 4)) p142) (some (jI x150)) h145 ∧ Ly p h145 ∧ ∃ i148, TokR T e i148 h145 ∧ (x150 = (0 : Int) → Q (some (jI 0)) h145) ∧ (¬ x150 = (0 : Int) → ∃ p156 h151, jE d 46 [jP 93, jI 0] h145 (some (jP p156)) h151 ∧ Ly p h151 ∧ ∃ i154, TokR T e i154 h151 ∧ 0 ≤ (ji h (pT p + 22) 4) ∧ (ji h (pT p + 22) 4) < 10 ∧ (p156 = 0 ∨ jt h151 p156 = 6) ∧ (Ly p (wr h151 (pT p + 13) (Int.toNat (ji h (pT p + 22) 4)) p156) → TokR T e i154 (wr h151 (pT p + 13) (Int.toNat (ji h (pT p + 22) 4)) p156) → ∃ h157, jE d 45 [jP 93, jI 0] (wr h151 (pT p + 13) (Int.toNat (ji h (pT p + 22) 4)) p156) none h157 ∧ Ly p h157 ∧ ∃ i160, TokR T e i160 h157 ∧ 0 ≤ (ji h (pT p + 22) 4) ∧ (ji h (pT p + 22) 4) < 10 ∧ ¬ (jr h157 (pT p + 13) (Int.toNat (ji h (pT p + 22) 4))) = 1 ∧ ((jr h157 (pT p + 13) (Int.toNat (ji h (pT p + 22) 4))) = 0 → Q (some (jI 0)) h157) ∧ (¬ (jr h157 (pT p + 13) (Int.toNat (ji h (pT p + 22) 4))) = 0 → (tkK T i160 = 159 → (Ly p (wi h157 37 4 ((i160 + 1 : Nat) : Int)) → TokR T e (i160 + 1) (wi h157 37 4 ((i160 + 1 : Nat) : Int)) → Q (some (jI 1)) (wi h157 37 4 ((i160 + 1 : Nat) : Int)))) ∧ (¬ tkK T i160 = 159 → (Ly p (wi h157 37 5 (-10 - (tkP T i160 : Int))) → TokR T e i160 (wi h157 37 5 (-10 - (tkP T i160 : Int))) → Q (some (jI 0)) (wi h157 37 5 (-10 - (tkP T i160 : Int))))))))))))) ∧ (¬ tkK T i92 = 158 → (Ly p (wi h89 37 5 (-10 - (tkP T i92 : Int))) → TokR T e i92 (wi h89 37 5 (-10 - (tkP T i92 : Int))) → Q (some (jI 0)) (wi h89 37 5 (-10 - (tkP T i92 : Int)))))))) ∧ (¬ tkK T i4 = 19 → (tkK T i4 = 158 → (Ly p (wi h1 37 4 ((i4 + 1 : Nat) : Int)) → TokR T e (i4 + 1) (wi h1 37 4 ((i4 + 1 : Nat) : Int)) → ∃ x14 h9, jE d 44 [jP 93, jI 0] (wi h1 37 4 ((i4 + 1 : Nat) : Int)) (some (jI x14)) h9 ∧ Ly p h9 ∧ ∃ i12, TokR T e i12 h9 ∧ ∃ x20 h15, jE d 44 [jP 93, jI 1] h9 (some (jI x20)) h15 ∧ Ly p h15 ∧ ∃ i18, TokR T e i18 h15 ∧ ∃ h21, jE d 59 [jP (pT p + 22), jI x14, jI x20] h15 none h21 ∧ Ly p h21 ∧ ∃ i24, TokR T e i24 h21 ∧ ∃ x31 h26, jE d 44 [jP 93, jI 0] h21 (some (jI x31)) h26 ∧ Ly p h26 ∧ ∃ i29, TokR T e i29 h26 ∧ ∃ x37 h32, jE d 53 [jP (pT p + 5), jI x31] h26 (some (jI x37)) h32 ∧ Ly p h32 ∧ ∃ i35, TokR T e i35 h32 ∧ ∃ x43 h38, jE d 44 [jP 93, jI 1] h32 (some (jI x43)) h38 ∧ Ly p h38 ∧ ∃ i41, TokR T e i41 h38 ∧ ∃ x49 h44, jE d 53 [jP (pT p + 5), jI x43] h38 (some (jI x49)) h44 ∧ Ly p h44 ∧ ∃ i47, TokR T e i47 h44 ∧ (Ly p (wl h44 93 7 (w32 (x37 * x49))) → TokR T e i47 (wl h44 93 7 (w32 (x37 * x49))) → ∃ p55 h50, jE d 46 [jP 93, jI 0] (wl h44 93 7 (w32 (x37 * x49))) (some (jP p55)) h50 ∧ Ly p h50 ∧ ∃ i53, TokR T e i53 h50 ∧ 0 ≤ (ji h (pT p + 22) 4) ∧ (ji h (pT p + 22) 4) < 10 ∧ (p55 = 0 ∨ jt h50 p55 = 6) ∧ 0 ≤ (ji h (pT p + 22) 4) ∧ (ji h (pT p + 22) 4) < 10 ∧ ¬ (jr (wr h50 (pT p + 12) (Int.toNat (ji h (pT p + 22) 4)) p55) (pT p + 12) (Int.toNat (ji h (pT p + 22) 4))) = 1 ∧ ((jr (wr h50 (pT p + 12) (Int.toNat (ji h (pT p + 22) 4)) p55) (pT p + 12) (Int.toNat (ji h (pT p + 22) 4))) = 0 → (Ly p (wr h50 (pT p + 12) (Int.toNat (ji h (pT p + 22) 4)) p55) → TokR T e i53 (wr h50 (pT p + 12) (Int.toNat (ji h (pT p + 22) 4)) p55) → Q (some (jI 0)) (wr h50 (pT p + 12) (Int.toNat (ji h (pT p + 22) 4)) p55))) ∧ (¬ (jr (wr h50 (pT p + 12) (Int.toNat (ji h (pT p + 22) 4)) p55) (pT p + 12) (Int.toNat (ji h (pT p + 22) 4))) = 0 → (Ly p (wr h50 (pT p + 12) (Int.toNat (ji h (pT p + 22) 4)) p55) → TokR T e i53 (wr h50 (pT p + 12) (Int.toNat (ji h (pT p + 22) 4)) p55) → ∃ x63 h58, jE d 38 [jP 93, jI (ji h (pT p + 22) 4)] (wr h50 (pT p + 12) (Int.toNat (ji h (pT p + 22) 4)) p55) (some (jI x63)) h58 ∧ Ly p h58 ∧ ∃ i61, TokR T e i61 h58 ∧ (x63 = (0 : Int) → Q (some (jI 0)) h58) ∧ (¬ x63 = (0 : Int) → ∃ p69 h64, jE d 46 [jP 93, jI 0] h58 (some (jP p69)) h64 ∧ Ly p h64 ∧ ∃ i67, TokR T e i67 h64 ∧ 0 ≤ (ji h (pT p + 22) 4) ∧ (ji h (pT p + 22) 4) < 10 ∧ (p69 = 0 ∨ jt h64 p69 = 6) ∧ (Ly p (wr h64 (pT p + 13) (Int.toNat (ji h (pT p + 22) 4)) p69) → TokR T e i67 (wr h64 (pT p + 13) (Int.toNat (ji h (pT p + 22) 4)) p69) → ∃ h70, jE d 45 [jP 93, jI 0] (wr h64 (pT p + 13) (Int.toNat (ji h (pT p + 22) 4)) p69) none h70 ∧ Ly p h70 ∧ ∃ i73, TokR T e i73 h70 ∧ 0 ≤ (ji h (pT p + 22) 4) ∧ (ji h (pT p + 22) 4) < 10 ∧ ¬ (jr h70 (pT p + 13) (Int.toNat (ji h (pT p + 22) 4))) = 1 ∧ ((jr h70 (pT p + 13) (Int.toNat (ji h (pT p + 22) 4))) = 0 → Q (some (jI 0)) h70) ∧ (¬ (jr h70 (pT p + 13) (Int.toNat (ji h (pT p + 22) 4))) = 0 → (tkK T i73 = 159 → (Ly p (wi h70 37 4 ((i73 + 1 : Nat) : Int)) → TokR T e (i73 + 1) (wi h70 37 4 ((i73 + 1 : Nat) : Int)) → Q (some (jI 1)) (wi h70 37 4 ((i73 + 1 : Nat) : Int)))) ∧ (¬ tkK T i73 = 159 → (Ly p (wi h70 37 5 (-10 - (tkP T i73 : Int))) → TokR T e i73 (wi h70 37 5 (-10 - (tkP T i73 : Int))) → Q (some (jI 0)) (wi h70 37 5 (-10 - (tkP T i73 : Int))))))))))))) ∧ (¬ tkK T i4 = 158 → (Ly p (wi h1 37 5 (-10 - (tkP T i4 : Int))) → TokR T e i4 (wi h1 37 5 (-10 - (tkP T i4 : Int))) → Q (some (jI 0)) (wi h1 37 5 (-10 - (tkP T i4 : Int)))))))) : WF d 37 0 [jP 93, jU] [] h Q := by
  refine b_37_0 ?_
  refine ⟨(Ly.t93 L :), ?_⟩
  rw [show jr h 93 1 = pT p from (Ly.r93_1 L :)]
  refine ⟨(Ly.dt0 L (Ly.iT L) :), ?_⟩
  rw [show jr h (pT p) 4 = (pT p + 22) from (Ly.dr0_4 L (Ly.iT L) :)]
  refine ⟨(Ly.dt22 L (Ly.iT L) :), ?_⟩
  refine b_37_11 ?_
  refine ⟨(Ly.t93 L :), ?_⟩
  obtain ⟨x6, h1, e3, L2, i4, K5, H⟩ := H
  refine ⟨x6, h1, e3, ?_⟩
  refine ⟨fun c177 => ?_, fun c177 => ?_⟩
  · have H := H.2 c177
    refine ⟨(Ly.t93 L2 :), ?_⟩
    rw [show jr h1 93 0 = 37 from (Ly.r93_0 L2 :)]
    refine ⟨(Ly.t37 L2 :), ?_⟩
    refine ⟨_, _, t_70 (d := d) (by omega) L2 K5, ?_⟩
    rw [show (ck (tkK T i4) = 6713202) = (tkK T i4 = 19) from TokR.ckE K5 19 rfl]
    refine ⟨fun c7 => ?_, fun c7 => ?_⟩
    · have H := H.2 c7
      refine ⟨(Ly.t93 L2 :), ?_⟩
      rw [show jr h1 93 0 = 37 from (Ly.r93_0 L2 :)]
      refine ⟨(Ly.t37 L2 :), ?_⟩
      by_cases c8 : tkK T i4 = 158
      · have H := H.1 c8
        refine ⟨_, _, t_75y (d := d) (by omega) L2 K5 158 rfl c8 (ns c8 (by decide)), ?_⟩
        refine ⟨fun _ => ?_, fun c => absurd (by decide) c⟩
        refine ⟨(Ly.t93 L2 :), ?_⟩
        rw [show jr (wi h1 37 4 ((i4 + 1 : Nat) : Int)) 93 1 = pT p from (Ly.r93_1 L2 :)]
        refine ⟨(Ly.dt0 L2 (Ly.iT L2) :), ?_⟩
        rw [show jr (wi h1 37 4 ((i4 + 1 : Nat) : Int)) (pT p) 4 = (pT p + 22) from (Ly.dr0_4 L2 (Ly.iT L2) :)]
        refine ⟨(Ly.t93 L2 :), ?_⟩
        have H := H (Ly.wi L2 (a := 37) (k := 4) (x := ((i4 + 1 : Nat) : Int)) (by decide)) (TokR.adv K5 (ns c8 (by decide)))
        obtain ⟨x14, h9, e11, L10, i12, K13, H⟩ := H
        refine ⟨x14, h9, e11, ?_⟩
        refine ⟨(Ly.t93 L10 :), ?_⟩
        obtain ⟨x20, h15, e17, L16, i18, K19, H⟩ := H
        refine ⟨x20, h15, e17, ?_⟩
        refine ⟨(Ly.dt22 L16 (Ly.iT L16) :), ?_⟩
        obtain ⟨h21, e23, L22, i24, K25, H⟩ := H
        refine ⟨h21, e23, ?_⟩
        refine b_37_86 ?_
        refine ⟨(Ly.t93 L22 :), ?_⟩
        rw [show jr h21 93 1 = pT p from (Ly.r93_1 L22 :)]
        refine ⟨(Ly.dt0 L22 (Ly.iT L22) :), ?_⟩
        rw [show jr h21 (pT p) 1 = (pT p + 5) from (Ly.dr0_1 L22 (Ly.iT L22) :)]
        refine ⟨(Ly.t93 L22 :), ?_⟩
        obtain ⟨x31, h26, e28, L27, i29, K30, H⟩ := H
        refine ⟨x31, h26, e28, ?_⟩
        refine ⟨(Ly.dt5 L27 (Ly.iT L27) :), ?_⟩
        obtain ⟨x37, h32, e34, L33, i35, K36, H⟩ := H
        refine ⟨x37, h32, e34, ?_⟩
        refine ⟨(Ly.t93 L33 :), ?_⟩
        rw [show jr h32 93 1 = pT p from (Ly.r93_1 L33 :)]
        refine ⟨(Ly.dt0 L33 (Ly.iT L33) :), ?_⟩
        rw [show jr h32 (pT p) 1 = (pT p + 5) from (Ly.dr0_1 L33 (Ly.iT L33) :)]
        refine ⟨(Ly.t93 L33 :), ?_⟩
        obtain ⟨x43, h38, e40, L39, i41, K42, H⟩ := H
        refine ⟨x43, h38, e40, ?_⟩
        refine ⟨(Ly.dt5 L39 (Ly.iT L39) :), ?_⟩
        obtain ⟨x49, h44, e46, L45, i47, K48, H⟩ := H
        refine ⟨x49, h44, e46, ?_⟩
        refine ⟨(Ly.t93 L45 :), ?_⟩
        refine b_37_122 ?_
        refine ⟨(Ly.t93 L45 :), ?_⟩
        rw [show jr (wl h44 93 7 (w32 (x37 * x49))) 93 1 = pT p from (Ly.r93_1 L45 :)]
        refine ⟨(Ly.dt0 L45 (Ly.iT L45) :), ?_⟩
        rw [show jr (wl h44 93 7 (w32 (x37 * x49))) (pT p) 10 = (pT p + 12) from (Ly.dr0_10 L45 (Ly.iT L45) :)]
        refine ⟨(Ly.t93 L45 :), ?_⟩
        have H := H (Ly.wl L45 (a := 93) (k := 7) (x := w32 (x37 * x49))) (TokR.swl K48 (a := 93) (k := 7) (x := w32 (x37 * x49)))
        obtain ⟨p55, h50, e52, L51, i53, K54, H⟩ := H
        refine ⟨p55, h50, e52, ?_⟩
        obtain ⟨z87, z88, H⟩ := H
        refine ⟨inW_mk (N := 10) (Ly.dt12 L51 (Ly.iT L51) :) (Ly.dn12 L51 (Ly.iT L51) :) z87 z88, ?_⟩
        obtain ⟨z86, H⟩ := H
        refine ⟨z86, ?_⟩
        refine b_37_136 ?_
        refine ⟨(Ly.t93 (Ly.wr L51 (a := (pT p + 12)) (k := Int.toNat (ji h (pT p + 22) 4)) (b := p55) (by have := (Ly.iT L51); unfold isD at this; unfold mutR; omega)) :), ?_⟩
        rw [show jr (wr h50 (pT p + 12) (Int.toNat (ji h (pT p + 22) 4)) p55) 93 1 = pT p from (Ly.r93_1 (Ly.wr L51 (a := (pT p + 12)) (k := Int.toNat (ji h (pT p + 22) 4)) (b := p55) (by have := (Ly.iT L51); unfold isD at this; unfold mutR; omega)) :)]
        refine ⟨(Ly.dt0 (Ly.wr L51 (a := (pT p + 12)) (k := Int.toNat (ji h (pT p + 22) 4)) (b := p55) (by have := (Ly.iT L51); unfold isD at this; unfold mutR; omega)) (Ly.iT (Ly.wr L51 (a := (pT p + 12)) (k := Int.toNat (ji h (pT p + 22) 4)) (b := p55) (by have := (Ly.iT L51); unfold isD at this; unfold mutR; omega))) :), ?_⟩
        rw [show jr (wr h50 (pT p + 12) (Int.toNat (ji h (pT p + 22) 4)) p55) (pT p) 10 = (pT p + 12) from (Ly.dr0_10 (Ly.wr L51 (a := (pT p + 12)) (k := Int.toNat (ji h (pT p + 22) 4)) (b := p55) (by have := (Ly.iT L51); unfold isD at this; unfold mutR; omega)) (Ly.iT (Ly.wr L51 (a := (pT p + 12)) (k := Int.toNat (ji h (pT p + 22) 4)) (b := p55) (by have := (Ly.iT L51); unfold isD at this; unfold mutR; omega))) :)]
        obtain ⟨z56, z57, H⟩ := H
        refine ⟨Or.inl (inA_mk (N := 10) (Ly.dt12 (Ly.wr L51 (a := (pT p + 12)) (k := Int.toNat (ji h (pT p + 22) 4)) (b := p55) (by have := (Ly.iT L51); unfold isD at this; unfold mutR; omega)) (Ly.iT (Ly.wr L51 (a := (pT p + 12)) (k := Int.toNat (ji h (pT p + 22) 4)) (b := p55) (by have := (Ly.iT L51); unfold isD at this; unfold mutR; omega))) :) (Ly.dn12 (Ly.wr L51 (a := (pT p + 12)) (k := Int.toNat (ji h (pT p + 22) 4)) (b := p55) (by have := (Ly.iT L51); unfold isD at this; unfold mutR; omega)) (Ly.iT (Ly.wr L51 (a := (pT p + 12)) (k := Int.toNat (ji h (pT p + 22) 4)) (b := p55) (by have := (Ly.iT L51); unfold isD at this; unfold mutR; omega))) :) z56 z57), ?_⟩
        obtain ⟨z84, H⟩ := H
        refine ⟨z84, fun c85 => ?_, fun c85 => ?_⟩
        · have H := H.1 c85
          refine ⟨Or.inl rfl, ?_⟩
          exact H (Ly.wr L51 (a := (pT p + 12)) (k := Int.toNat (ji h (pT p + 22) 4)) (b := p55) (by have := (Ly.iT L51); unfold isD at this; unfold mutR; omega)) (TokR.swr K54 (a := (pT p + 12)) (k := Int.toNat (ji h (pT p + 22) 4)) (x := p55))
        · have H := H.2 c85
          refine ⟨(Ly.t93 (Ly.wr L51 (a := (pT p + 12)) (k := Int.toNat (ji h (pT p + 22) 4)) (b := p55) (by have := (Ly.iT L51); unfold isD at this; unfold mutR; omega)) :), ?_⟩
          have H := H (Ly.wr L51 (a := (pT p + 12)) (k := Int.toNat (ji h (pT p + 22) 4)) (b := p55) (by have := (Ly.iT L51); unfold isD at this; unfold mutR; omega)) (TokR.swr K54 (a := (pT p + 12)) (k := Int.toNat (ji h (pT p + 22) 4)) (x := p55))
          obtain ⟨x63, h58, e60, L59, i61, K62, H⟩ := H
          refine ⟨x63, h58, e60, ?_⟩
          refine ⟨fun c83 => ?_, fun c83 => ?_⟩
          · have H := H.2 c83
            refine ⟨(Ly.t93 L59 :), ?_⟩
            rw [show jr h58 93 1 = pT p from (Ly.r93_1 L59 :)]
            refine ⟨(Ly.dt0 L59 (Ly.iT L59) :), ?_⟩
            rw [show jr h58 (pT p) 11 = (pT p + 13) from (Ly.dr0_11 L59 (Ly.iT L59) :)]
            refine ⟨(Ly.t93 L59 :), ?_⟩
            obtain ⟨p69, h64, e66, L65, i67, K68, H⟩ := H
            refine ⟨p69, h64, e66, ?_⟩
            obtain ⟨z81, z82, H⟩ := H
            refine ⟨inW_mk (N := 10) (Ly.dt13 L65 (Ly.iT L65) :) (Ly.dn13 L65 (Ly.iT L65) :) z81 z82, ?_⟩
            obtain ⟨z80, H⟩ := H
            refine ⟨z80, ?_⟩
            refine b_37_172 ?_
            refine ⟨(Ly.t93 (Ly.wr L65 (a := (pT p + 13)) (k := Int.toNat (ji h (pT p + 22) 4)) (b := p69) (by have := (Ly.iT L65); unfold isD at this; unfold mutR; omega)) :), ?_⟩
            have H := H (Ly.wr L65 (a := (pT p + 13)) (k := Int.toNat (ji h (pT p + 22) 4)) (b := p69) (by have := (Ly.iT L65); unfold isD at this; unfold mutR; omega)) (TokR.swr K68 (a := (pT p + 13)) (k := Int.toNat (ji h (pT p + 22) 4)) (x := p69))
            obtain ⟨h70, e72, L71, i73, K74, H⟩ := H
            refine ⟨h70, e72, ?_⟩
            refine b_37_177 ?_
            refine ⟨(Ly.t93 L71 :), ?_⟩
            rw [show jr h70 93 1 = pT p from (Ly.r93_1 L71 :)]
            refine ⟨(Ly.dt0 L71 (Ly.iT L71) :), ?_⟩
            rw [show jr h70 (pT p) 11 = (pT p + 13) from (Ly.dr0_11 L71 (Ly.iT L71) :)]
            obtain ⟨z75, z76, H⟩ := H
            refine ⟨Or.inl (inA_mk (N := 10) (Ly.dt13 L71 (Ly.iT L71) :) (Ly.dn13 L71 (Ly.iT L71) :) z75 z76), ?_⟩
            obtain ⟨z78, H⟩ := H
            refine ⟨z78, fun c79 => ?_, fun c79 => ?_⟩
            · have H := H.1 c79
              refine ⟨Or.inl rfl, ?_⟩
              exact H
            · have H := H.2 c79
              refine ⟨(Ly.t93 L71 :), ?_⟩
              rw [show jr h70 93 0 = 37 from (Ly.r93_0 L71 :)]
              refine ⟨(Ly.t37 L71 :), ?_⟩
              by_cases c77 : tkK T i73 = 159
              · have H := H.1 c77
                refine ⟨_, _, t_75y (d := d) (by omega) L71 K74 159 rfl c77 (ns c77 (by decide)), ?_⟩
                refine ⟨fun c => absurd c (by decide), fun _ => ?_⟩
                refine ⟨Or.inr rfl, ?_⟩
                exact H (Ly.wi L71 (a := 37) (k := 4) (x := ((i73 + 1 : Nat) : Int)) (by decide)) (TokR.adv K74 (ns c77 (by decide)))
              · have H := H.2 c77
                refine ⟨_, _, t_75n (d := d) (by omega) L71 K74 159 rfl c77, ?_⟩
                refine ⟨fun _ => ?_, fun c => absurd (by decide) c⟩
                refine ⟨Or.inl rfl, ?_⟩
                exact H (Ly.wi L71 (a := 37) (k := 5) (x := -10 - (tkP T i73 : Int)) (by decide)) (TokR.flt K74)
          · have c83 := Decidable.not_not.mp c83
            have H := H.1 c83
            refine ⟨Or.inl rfl, ?_⟩
            exact H
      · have H := H.2 c8
        refine ⟨_, _, t_75n (d := d) (by omega) L2 K5 158 rfl c8, ?_⟩
        refine ⟨fun c => absurd c (by decide), fun _ => ?_⟩
        refine ⟨Or.inl rfl, ?_⟩
        exact H (Ly.wi L2 (a := 37) (k := 5) (x := -10 - (tkP T i4 : Int)) (by decide)) (TokR.flt K5)
    · have c7 := Decidable.not_not.mp c7
      have H := H.1 c7
      refine ⟨(Ly.t93 L2 :), ?_⟩
      rw [show jr h1 93 0 = 37 from (Ly.r93_0 L2 :)]
      refine ⟨(Ly.t37 L2 :), ?_⟩
      refine ⟨_, t_74 (d := d) (by omega) L2 K5 (ns c7 (by decide)), ?_⟩
      refine b_37_43 ?_
      refine ⟨(Ly.t93 L2 :), ?_⟩
      have H := H (Ly.wi L2 (a := 37) (k := 4) (x := ((i4 + 1 : Nat) : Int)) (by decide)) (TokR.adv K5 (ns c7 (by decide)))
      obtain ⟨x94, h89, e91, L90, i92, K93, H⟩ := H
      refine ⟨x94, h89, e91, ?_⟩
      refine ⟨fun c176 => ?_, fun c176 => ?_⟩
      · have H := H.2 c176
        refine ⟨(Ly.t93 L90 :), ?_⟩
        rw [show jr h89 93 0 = 37 from (Ly.r93_0 L90 :)]
        refine ⟨(Ly.t37 L90 :), ?_⟩
        by_cases c95 : tkK T i92 = 158
        · have H := H.1 c95
          refine ⟨_, _, t_75y (d := d) (by omega) L90 K93 158 rfl c95 (ns c95 (by decide)), ?_⟩
          refine ⟨fun _ => ?_, fun c => absurd (by decide) c⟩
          refine ⟨(Ly.t93 L90 :), ?_⟩
          rw [show jr (wi h89 37 4 ((i92 + 1 : Nat) : Int)) 93 1 = pT p from (Ly.r93_1 L90 :)]
          refine ⟨(Ly.dt0 L90 (Ly.iT L90) :), ?_⟩
          rw [show jr (wi h89 37 4 ((i92 + 1 : Nat) : Int)) (pT p) 4 = (pT p + 22) from (Ly.dr0_4 L90 (Ly.iT L90) :)]
          refine ⟨(Ly.t93 L90 :), ?_⟩
          have H := H (Ly.wi L90 (a := 37) (k := 4) (x := ((i92 + 1 : Nat) : Int)) (by decide)) (TokR.adv K93 (ns c95 (by decide)))
          obtain ⟨x101, h96, e98, L97, i99, K100, H⟩ := H
          refine ⟨x101, h96, e98, ?_⟩
          refine ⟨(Ly.t93 L97 :), ?_⟩
          obtain ⟨x107, h102, e104, L103, i105, K106, H⟩ := H
          refine ⟨x107, h102, e104, ?_⟩
          refine ⟨(Ly.dt22 L103 (Ly.iT L103) :), ?_⟩
          obtain ⟨h108, e110, L109, i111, K112, H⟩ := H
          refine ⟨h108, e110, ?_⟩
          refine b_37_86 ?_
          refine ⟨(Ly.t93 L109 :), ?_⟩
          rw [show jr h108 93 1 = pT p from (Ly.r93_1 L109 :)]
          refine ⟨(Ly.dt0 L109 (Ly.iT L109) :), ?_⟩
          rw [show jr h108 (pT p) 1 = (pT p + 5) from (Ly.dr0_1 L109 (Ly.iT L109) :)]
          refine ⟨(Ly.t93 L109 :), ?_⟩
          obtain ⟨x118, h113, e115, L114, i116, K117, H⟩ := H
          refine ⟨x118, h113, e115, ?_⟩
          refine ⟨(Ly.dt5 L114 (Ly.iT L114) :), ?_⟩
          obtain ⟨x124, h119, e121, L120, i122, K123, H⟩ := H
          refine ⟨x124, h119, e121, ?_⟩
          refine ⟨(Ly.t93 L120 :), ?_⟩
          rw [show jr h119 93 1 = pT p from (Ly.r93_1 L120 :)]
          refine ⟨(Ly.dt0 L120 (Ly.iT L120) :), ?_⟩
          rw [show jr h119 (pT p) 1 = (pT p + 5) from (Ly.dr0_1 L120 (Ly.iT L120) :)]
          refine ⟨(Ly.t93 L120 :), ?_⟩
          obtain ⟨x130, h125, e127, L126, i128, K129, H⟩ := H
          refine ⟨x130, h125, e127, ?_⟩
          refine ⟨(Ly.dt5 L126 (Ly.iT L126) :), ?_⟩
          obtain ⟨x136, h131, e133, L132, i134, K135, H⟩ := H
          refine ⟨x136, h131, e133, ?_⟩
          refine ⟨(Ly.t93 L132 :), ?_⟩
          refine b_37_122 ?_
          refine ⟨(Ly.t93 L132 :), ?_⟩
          rw [show jr (wl h131 93 7 (w32 (x124 * x136))) 93 1 = pT p from (Ly.r93_1 L132 :)]
          refine ⟨(Ly.dt0 L132 (Ly.iT L132) :), ?_⟩
          rw [show jr (wl h131 93 7 (w32 (x124 * x136))) (pT p) 10 = (pT p + 12) from (Ly.dr0_10 L132 (Ly.iT L132) :)]
          refine ⟨(Ly.t93 L132 :), ?_⟩
          have H := H (Ly.wl L132 (a := 93) (k := 7) (x := w32 (x124 * x136))) (TokR.swl K135 (a := 93) (k := 7) (x := w32 (x124 * x136)))
          obtain ⟨p142, h137, e139, L138, i140, K141, H⟩ := H
          refine ⟨p142, h137, e139, ?_⟩
          obtain ⟨z174, z175, H⟩ := H
          refine ⟨inW_mk (N := 10) (Ly.dt12 L138 (Ly.iT L138) :) (Ly.dn12 L138 (Ly.iT L138) :) z174 z175, ?_⟩
          obtain ⟨z173, H⟩ := H
          refine ⟨z173, ?_⟩
          refine b_37_136 ?_
          refine ⟨(Ly.t93 (Ly.wr L138 (a := (pT p + 12)) (k := Int.toNat (ji h (pT p + 22) 4)) (b := p142) (by have := (Ly.iT L138); unfold isD at this; unfold mutR; omega)) :), ?_⟩
          rw [show jr (wr h137 (pT p + 12) (Int.toNat (ji h (pT p + 22) 4)) p142) 93 1 = pT p from (Ly.r93_1 (Ly.wr L138 (a := (pT p + 12)) (k := Int.toNat (ji h (pT p + 22) 4)) (b := p142) (by have := (Ly.iT L138); unfold isD at this; unfold mutR; omega)) :)]
          refine ⟨(Ly.dt0 (Ly.wr L138 (a := (pT p + 12)) (k := Int.toNat (ji h (pT p + 22) 4)) (b := p142) (by have := (Ly.iT L138); unfold isD at this; unfold mutR; omega)) (Ly.iT (Ly.wr L138 (a := (pT p + 12)) (k := Int.toNat (ji h (pT p + 22) 4)) (b := p142) (by have := (Ly.iT L138); unfold isD at this; unfold mutR; omega))) :), ?_⟩
          rw [show jr (wr h137 (pT p + 12) (Int.toNat (ji h (pT p + 22) 4)) p142) (pT p) 10 = (pT p + 12) from (Ly.dr0_10 (Ly.wr L138 (a := (pT p + 12)) (k := Int.toNat (ji h (pT p + 22) 4)) (b := p142) (by have := (Ly.iT L138); unfold isD at this; unfold mutR; omega)) (Ly.iT (Ly.wr L138 (a := (pT p + 12)) (k := Int.toNat (ji h (pT p + 22) 4)) (b := p142) (by have := (Ly.iT L138); unfold isD at this; unfold mutR; omega))) :)]
          obtain ⟨z143, z144, H⟩ := H
          refine ⟨Or.inl (inA_mk (N := 10) (Ly.dt12 (Ly.wr L138 (a := (pT p + 12)) (k := Int.toNat (ji h (pT p + 22) 4)) (b := p142) (by have := (Ly.iT L138); unfold isD at this; unfold mutR; omega)) (Ly.iT (Ly.wr L138 (a := (pT p + 12)) (k := Int.toNat (ji h (pT p + 22) 4)) (b := p142) (by have := (Ly.iT L138); unfold isD at this; unfold mutR; omega))) :) (Ly.dn12 (Ly.wr L138 (a := (pT p + 12)) (k := Int.toNat (ji h (pT p + 22) 4)) (b := p142) (by have := (Ly.iT L138); unfold isD at this; unfold mutR; omega)) (Ly.iT (Ly.wr L138 (a := (pT p + 12)) (k := Int.toNat (ji h (pT p + 22) 4)) (b := p142) (by have := (Ly.iT L138); unfold isD at this; unfold mutR; omega))) :) z143 z144), ?_⟩
          obtain ⟨z171, H⟩ := H
          refine ⟨z171, fun c172 => ?_, fun c172 => ?_⟩
          · have H := H.1 c172
            refine ⟨Or.inl rfl, ?_⟩
            exact H (Ly.wr L138 (a := (pT p + 12)) (k := Int.toNat (ji h (pT p + 22) 4)) (b := p142) (by have := (Ly.iT L138); unfold isD at this; unfold mutR; omega)) (TokR.swr K141 (a := (pT p + 12)) (k := Int.toNat (ji h (pT p + 22) 4)) (x := p142))
          · have H := H.2 c172
            refine ⟨(Ly.t93 (Ly.wr L138 (a := (pT p + 12)) (k := Int.toNat (ji h (pT p + 22) 4)) (b := p142) (by have := (Ly.iT L138); unfold isD at this; unfold mutR; omega)) :), ?_⟩
            have H := H (Ly.wr L138 (a := (pT p + 12)) (k := Int.toNat (ji h (pT p + 22) 4)) (b := p142) (by have := (Ly.iT L138); unfold isD at this; unfold mutR; omega)) (TokR.swr K141 (a := (pT p + 12)) (k := Int.toNat (ji h (pT p + 22) 4)) (x := p142))
            obtain ⟨x150, h145, e147, L146, i148, K149, H⟩ := H
            refine ⟨x150, h145, e147, ?_⟩
            refine ⟨fun c170 => ?_, fun c170 => ?_⟩
            · have H := H.2 c170
              refine ⟨(Ly.t93 L146 :), ?_⟩
              rw [show jr h145 93 1 = pT p from (Ly.r93_1 L146 :)]
              refine ⟨(Ly.dt0 L146 (Ly.iT L146) :), ?_⟩
              rw [show jr h145 (pT p) 11 = (pT p + 13) from (Ly.dr0_11 L146 (Ly.iT L146) :)]
              refine ⟨(Ly.t93 L146 :), ?_⟩
              obtain ⟨p156, h151, e153, L152, i154, K155, H⟩ := H
              refine ⟨p156, h151, e153, ?_⟩
              obtain ⟨z168, z169, H⟩ := H
              refine ⟨inW_mk (N := 10) (Ly.dt13 L152 (Ly.iT L152) :) (Ly.dn13 L152 (Ly.iT L152) :) z168 z169, ?_⟩
              obtain ⟨z167, H⟩ := H
              refine ⟨z167, ?_⟩
              refine b_37_172 ?_
              refine ⟨(Ly.t93 (Ly.wr L152 (a := (pT p + 13)) (k := Int.toNat (ji h (pT p + 22) 4)) (b := p156) (by have := (Ly.iT L152); unfold isD at this; unfold mutR; omega)) :), ?_⟩
              have H := H (Ly.wr L152 (a := (pT p + 13)) (k := Int.toNat (ji h (pT p + 22) 4)) (b := p156) (by have := (Ly.iT L152); unfold isD at this; unfold mutR; omega)) (TokR.swr K155 (a := (pT p + 13)) (k := Int.toNat (ji h (pT p + 22) 4)) (x := p156))
              obtain ⟨h157, e159, L158, i160, K161, H⟩ := H
              refine ⟨h157, e159, ?_⟩
              refine b_37_177 ?_
              refine ⟨(Ly.t93 L158 :), ?_⟩
              rw [show jr h157 93 1 = pT p from (Ly.r93_1 L158 :)]
              refine ⟨(Ly.dt0 L158 (Ly.iT L158) :), ?_⟩
              rw [show jr h157 (pT p) 11 = (pT p + 13) from (Ly.dr0_11 L158 (Ly.iT L158) :)]
              obtain ⟨z162, z163, H⟩ := H
              refine ⟨Or.inl (inA_mk (N := 10) (Ly.dt13 L158 (Ly.iT L158) :) (Ly.dn13 L158 (Ly.iT L158) :) z162 z163), ?_⟩
              obtain ⟨z165, H⟩ := H
              refine ⟨z165, fun c166 => ?_, fun c166 => ?_⟩
              · have H := H.1 c166
                refine ⟨Or.inl rfl, ?_⟩
                exact H
              · have H := H.2 c166
                refine ⟨(Ly.t93 L158 :), ?_⟩
                rw [show jr h157 93 0 = 37 from (Ly.r93_0 L158 :)]
                refine ⟨(Ly.t37 L158 :), ?_⟩
                by_cases c164 : tkK T i160 = 159
                · have H := H.1 c164
                  refine ⟨_, _, t_75y (d := d) (by omega) L158 K161 159 rfl c164 (ns c164 (by decide)), ?_⟩
                  refine ⟨fun c => absurd c (by decide), fun _ => ?_⟩
                  refine ⟨Or.inr rfl, ?_⟩
                  exact H (Ly.wi L158 (a := 37) (k := 4) (x := ((i160 + 1 : Nat) : Int)) (by decide)) (TokR.adv K161 (ns c164 (by decide)))
                · have H := H.2 c164
                  refine ⟨_, _, t_75n (d := d) (by omega) L158 K161 159 rfl c164, ?_⟩
                  refine ⟨fun _ => ?_, fun c => absurd (by decide) c⟩
                  refine ⟨Or.inl rfl, ?_⟩
                  exact H (Ly.wi L158 (a := 37) (k := 5) (x := -10 - (tkP T i160 : Int)) (by decide)) (TokR.flt K161)
            · have c170 := Decidable.not_not.mp c170
              have H := H.1 c170
              refine ⟨Or.inl rfl, ?_⟩
              exact H
        · have H := H.2 c95
          refine ⟨_, _, t_75n (d := d) (by omega) L90 K93 158 rfl c95, ?_⟩
          refine ⟨fun c => absurd c (by decide), fun _ => ?_⟩
          refine ⟨Or.inl rfl, ?_⟩
          exact H (Ly.wi L90 (a := 37) (k := 5) (x := -10 - (tkP T i92 : Int)) (by decide)) (TokR.flt K93)
      · have c176 := Decidable.not_not.mp c176
        have H := H.1 c176
        refine ⟨Or.inl rfl, ?_⟩
        exact H
  · have c177 := Decidable.not_not.mp c177
    have H := H.1 c177
    refine ⟨Or.inl rfl, ?_⟩
    exact H
